/-! the law's cases, further -/
set_option maxRecDepth 100000 in
set_option maxHeartbeats 4000000 in
theorem q_L_16 {G : GM} {p : Program} {l : Launch} {e : Env} {s : State} {m : MethodId} {args : Array Value} {below : List Frame} {meth : Method} {c : Code} {ret : Option FieldType} {u9 w9 : Nat} {Q : State → Prop} {b L : Nat} {xs : Nat → Int32} {i : Int32} {M : Mem} (F : Fy G p l s m args meth c cL_law RL 9 ret) (S : Sx G b L xs s) (hin : ∀ j : Nat, j < 5 → vp_in (i + nI j) L) (hJ : Jt M) (hu : u9 + 1 ≤ 601024 ∧ w9 + 6 ≤ 7293034) (K : ∀ M', Jt M' → Rw G p l e room_1 s m args below meth c 9 (u9 + 1) (w9 + 6) Q 1978 [(4, .int i), (0, .ref b), (1, .ref (gA G 0)), (2, .ref (gA G 24)), (3, .ref (gA G 23))] [] M') : Rw G p l e room_1 s m args below meth c 9 u9 w9 Q 1123 [(4, .int i), (0, .ref b), (1, .ref (gA G 0)), (2, .ref (gA G 24)), (3, .ref (gA G 23))] [] M := by
  obtain ⟨r, M1, c9, M2, v, M3, hc, hw, hm, hJ3, hc9, hq⟩ := (o_undo hJ).go (by decide)
  refine w_aload_n F 2 dL_law_1123 rfl rfl ?_
  refine w_aload_n F 4 dL_law_1124 rfl rfl ?_
  refine w_cSW (n := 2) (As := [.ref (gA G 0), .ref (gA G 23)]) (rest := []) F (m_L_undo F.st F.gg hc hw) dL_law_1125 ml_L_162 sc_L_undo ini_L cw_L_undo ⟨by decide, by decide, by decide +kernel⟩ rfl ⟨rfl, rfl⟩ ⟨by decide, by decide⟩ hu rfl (Nat.le_of_ble_eq_true rfl) ?_
  refine w_istore (ls' := [(5, .int c9), (4, .int i), (0, .ref b), (1, .ref (gA G 0)), (2, .ref (gA G 24)), (3, .ref (gA G 23))]) F dL_law_1128 (by decide) rfl ?_
  refine w_aload_n F 4 dL_law_1130 rfl rfl ?_
  refine w_cV (v := some (.int v)) (As := []) (rest := []) F (c_X7_undo F.st F.gg  M2 _ hm) dL_law_1131 ml_L_165 yv_X7_undo (rfl : kd 24 = 7) (by decide) rfl rfl ⟨by decide, by decide⟩ hu rfl (Nat.le_of_ble_eq_true rfl) ?_
  refine w_istore (ls' := [(6, .int v), (5, .int c9), (4, .int i), (0, .ref b), (1, .ref (gA G 0)), (2, .ref (gA G 24)), (3, .ref (gA G 23))]) F dL_law_1134 (by decide) rfl ?_
  refine w_aload_n F 5 dL_law_1136 rfl rfl ?_
  refine w_cV (v := some (.int (M3.1 24 2))) (As := []) (rest := []) F (c_X7_thrown F.st F.gg M3 _ th_ok) dL_law_1137 ml_L_108 yv_X7_thrown (rfl : kd 24 = 7) (by decide) rfl rfl ⟨by decide, by decide⟩ hu rfl (Nat.le_of_ble_eq_true rfl) ?_
  refine w_iload F 1 dL_law_1140 rfl ?_
  refine w_icmp_eq (tgt := 1147) F dL_law_1142 (by decide) hc9 ?_
  refine w_iload F 1 dL_law_1147 rfl ?_
  refine w_if_ne (tgt := 1164) F dL_law_1149 (by decide) (fun h0 => ?_) (fun h0 => ?_)
  · skip
    refine w_aload_n F 6 dL_law_1152 rfl rfl ?_
    refine w_iconst F dL_law_1153 (v := 0) (by decide) ?_
    refine w_lald F dL_law_1154 (rfl : kd 23 = 12) (by decide) ?_
    refine w_iload F 0 dL_law_1155 rfl ?_
    refine w_i2l F dL_law_1157 ?_
    refine w_lcmp F dL_law_1158 ?_
    refine w_if_eq (tgt := 1164) F dL_law_1159 (by decide) (lcmp0 (hq h0)) ?_
    refine w_goto (tgt := 1978) F dL_law_1164 (by decide) ?_
    exact w_sub [2, 3, 4, 5, 6] rfl (K M3 hJ3)
  · skip
    refine w_goto (tgt := 1978) F dL_law_1164 (by decide) ?_
    exact w_sub [2, 3, 4, 5, 6] rfl (K M3 hJ3)
set_option maxRecDepth 100000 in
set_option maxHeartbeats 4000000 in
theorem q_L_17 {G : GM} {p : Program} {l : Launch} {e : Env} {s : State} {m : MethodId} {args : Array Value} {below : List Frame} {meth : Method} {c : Code} {ret : Option FieldType} {u9 w9 : Nat} {Q : State → Prop} {b L : Nat} {xs : Nat → Int32} {i : Int32} {M : Mem} (F : Fy G p l s m args meth c cL_law RL 9 ret) (S : Sx G b L xs s) (hin : ∀ j : Nat, j < 5 → vp_in (i + nI j) L) (hJ : Jt M) (hu : u9 + 1 ≤ 601024 ∧ w9 + 6 ≤ 7293034) (K : ∀ M', Jt M' → Rw G p l e room_1 s m args below meth c 9 (u9 + 1) (w9 + 6) Q 1978 [(4, .int i), (0, .ref b), (1, .ref (gA G 0)), (2, .ref (gA G 24)), (3, .ref (gA G 23))] [] M') : Rw G p l e room_1 s m args below meth c 9 u9 w9 Q 1167 [(4, .int i), (0, .ref b), (1, .ref (gA G 0)), (2, .ref (gA G 24)), (3, .ref (gA G 23))] [] M := by
  obtain ⟨r, M1, c9, M2, v, M3, hc, hw, hm, hJ3, hc9, hq⟩ := (o_town hJ (xs (i + nI 1).toNatClampNeg) (xs (i + nI 2).toNatClampNeg)).go (by decide)
  refine w_aload_n F 2 dL_law_1167 rfl rfl ?_
  refine w_aload_n F 1 dL_law_1168 rfl rfl ?_
  refine w_iload F 0 dL_law_1169 rfl ?_
  refine w_iconst F dL_law_1171 (v := nI 1) (by decide) ?_
  refine w_iadd F dL_law_1172 ?_
  refine w_sld F S (hin 1 (by decide)) dL_law_1173 ?_
  refine w_aload_n F 1 dL_law_1174 rfl rfl ?_
  refine w_iload F 0 dL_law_1175 rfl ?_
  refine w_iconst F dL_law_1177 (v := nI 2) (by decide) ?_
  refine w_iadd F dL_law_1178 ?_
  refine w_sld F S (hin 2 (by decide)) dL_law_1179 ?_
  refine w_aload_n F 4 dL_law_1180 rfl rfl ?_
  refine w_cSW (n := 4) (As := [.ref (gA G 0), .int (xs (i + nI 1).toNatClampNeg), .int (xs (i + nI 2).toNatClampNeg), .ref (gA G 23)]) (rest := []) F (m_L_town F.st F.gg (xs (i + nI 1).toNatClampNeg) (xs (i + nI 2).toNatClampNeg) hc hw) dL_law_1181 ml_L_166 sc_L_town ini_L cw_L_town ⟨by decide, by decide, by decide +kernel⟩ rfl ⟨rfl, rfl⟩ ⟨by decide, by decide⟩ hu rfl (Nat.le_of_ble_eq_true rfl) ?_
  refine w_istore (ls' := [(5, .int c9), (4, .int i), (0, .ref b), (1, .ref (gA G 0)), (2, .ref (gA G 24)), (3, .ref (gA G 23))]) F dL_law_1184 (by decide) rfl ?_
  refine w_aload_n F 4 dL_law_1186 rfl rfl ?_
  refine w_aload_n F 2 dL_law_1187 rfl rfl ?_
  refine w_iload F 1 dL_law_1188 rfl ?_
  refine w_iconst F dL_law_1190 (v := nI 1) (by decide) ?_
  refine w_iadd F dL_law_1191 ?_
  refine w_sld F S (hin 1 (by decide)) dL_law_1192 ?_
  refine w_aload_n F 2 dL_law_1193 rfl rfl ?_
  refine w_iload F 1 dL_law_1194 rfl ?_
  refine w_iconst F dL_law_1196 (v := nI 2) (by decide) ?_
  refine w_iadd F dL_law_1197 ?_
  refine w_sld F S (hin 2 (by decide)) dL_law_1198 ?_
  refine w_cV (v := some (.int v)) (As := [.int (xs (i + nI 1).toNatClampNeg), .int (xs (i + nI 2).toNatClampNeg)]) (rest := []) F (c_X7_town F.st F.gg (xs (i + nI 1).toNatClampNeg) (xs (i + nI 2).toNatClampNeg) M2 _ hm) dL_law_1199 ml_L_168 yv_X7_town (rfl : kd 24 = 7) (by decide) rfl rfl ⟨by decide, by decide⟩ hu rfl (Nat.le_of_ble_eq_true rfl) ?_
  refine w_istore (ls' := [(6, .int v), (5, .int c9), (4, .int i), (0, .ref b), (1, .ref (gA G 0)), (2, .ref (gA G 24)), (3, .ref (gA G 23))]) F dL_law_1202 (by decide) rfl ?_
  refine w_aload_n F 5 dL_law_1204 rfl rfl ?_
  refine w_cV (v := some (.int (M3.1 24 2))) (As := []) (rest := []) F (c_X7_thrown F.st F.gg M3 _ th_ok) dL_law_1205 ml_L_108 yv_X7_thrown (rfl : kd 24 = 7) (by decide) rfl rfl ⟨by decide, by decide⟩ hu rfl (Nat.le_of_ble_eq_true rfl) ?_
  refine w_iload F 1 dL_law_1208 rfl ?_
  refine w_icmp_eq (tgt := 1215) F dL_law_1210 (by decide) hc9 ?_
  refine w_iload F 1 dL_law_1215 rfl ?_
  refine w_if_ne (tgt := 1232) F dL_law_1217 (by decide) (fun h0 => ?_) (fun h0 => ?_)
  · skip
    refine w_aload_n F 6 dL_law_1220 rfl rfl ?_
    refine w_iconst F dL_law_1221 (v := 0) (by decide) ?_
    refine w_lald F dL_law_1222 (rfl : kd 23 = 12) (by decide) ?_
    refine w_iload F 0 dL_law_1223 rfl ?_
    refine w_i2l F dL_law_1225 ?_
    refine w_lcmp F dL_law_1226 ?_
    refine w_if_eq (tgt := 1232) F dL_law_1227 (by decide) (lcmp0 (hq h0)) ?_
    refine w_goto (tgt := 1978) F dL_law_1232 (by decide) ?_
    exact w_sub [2, 3, 4, 5, 6] rfl (K M3 hJ3)
  · skip
    refine w_goto (tgt := 1978) F dL_law_1232 (by decide) ?_
    exact w_sub [2, 3, 4, 5, 6] rfl (K M3 hJ3)
set_option maxRecDepth 100000 in
set_option maxHeartbeats 4000000 in
theorem q_L_18 {G : GM} {p : Program} {l : Launch} {e : Env} {s : State} {m : MethodId} {args : Array Value} {below : List Frame} {meth : Method} {c : Code} {ret : Option FieldType} {u9 w9 : Nat} {Q : State → Prop} {b L : Nat} {xs : Nat → Int32} {i : Int32} {M : Mem} (F : Fy G p l s m args meth c cL_law RL 9 ret) (S : Sx G b L xs s) (hin : ∀ j : Nat, j < 5 → vp_in (i + nI j) L) (hJ : Jt M) (hu : u9 + 1 ≤ 601024 ∧ w9 + 6 ≤ 7293034) (K : ∀ M', Jt M' → Rw G p l e room_1 s m args below meth c 9 (u9 + 1) (w9 + 6) Q 1978 [(4, .int i), (0, .ref b), (1, .ref (gA G 0)), (2, .ref (gA G 24)), (3, .ref (gA G 23))] [] M') : Rw G p l e room_1 s m args below meth c 9 u9 w9 Q 1235 [(4, .int i), (0, .ref b), (1, .ref (gA G 0)), (2, .ref (gA G 24)), (3, .ref (gA G 23))] [] M := by
  obtain ⟨r, M1, c9, M2, v, M3, hc, hw, hm, hJ3, hc9, hq⟩ := (o_step hJ (xs (i + nI 1).toNatClampNeg) (xs (i + nI 2).toNatClampNeg) (xs (i + nI 3).toNatClampNeg)).go (by decide)
  refine w_aload_n F 2 dL_law_1235 rfl rfl ?_
  refine w_aload_n F 1 dL_law_1236 rfl rfl ?_
  refine w_iload F 0 dL_law_1237 rfl ?_
  refine w_iconst F dL_law_1239 (v := nI 1) (by decide) ?_
  refine w_iadd F dL_law_1240 ?_
  refine w_sld F S (hin 1 (by decide)) dL_law_1241 ?_
  refine w_aload_n F 1 dL_law_1242 rfl rfl ?_
  refine w_iload F 0 dL_law_1243 rfl ?_
  refine w_iconst F dL_law_1245 (v := nI 2) (by decide) ?_
  refine w_iadd F dL_law_1246 ?_
  refine w_sld F S (hin 2 (by decide)) dL_law_1247 ?_
  refine w_aload_n F 1 dL_law_1248 rfl rfl ?_
  refine w_iload F 0 dL_law_1249 rfl ?_
  refine w_iconst F dL_law_1251 (v := nI 3) (by decide) ?_
  refine w_iadd F dL_law_1252 ?_
  refine w_sld F S (hin 3 (by decide)) dL_law_1253 ?_
  refine w_aload_n F 4 dL_law_1254 rfl rfl ?_
  refine w_cSW (n := 5) (As := [.ref (gA G 0), .int (xs (i + nI 1).toNatClampNeg), .int (xs (i + nI 2).toNatClampNeg), .int (xs (i + nI 3).toNatClampNeg), .ref (gA G 23)]) (rest := []) F (m_L_step F.st F.gg (xs (i + nI 1).toNatClampNeg) (xs (i + nI 2).toNatClampNeg) (xs (i + nI 3).toNatClampNeg) hc hw) dL_law_1255 ml_L_169 sc_L_step ini_L cw_L_step ⟨by decide, by decide, by decide +kernel⟩ rfl ⟨rfl, rfl⟩ ⟨by decide, by decide⟩ hu rfl (Nat.le_of_ble_eq_true rfl) ?_
  refine w_istore (ls' := [(5, .int c9), (4, .int i), (0, .ref b), (1, .ref (gA G 0)), (2, .ref (gA G 24)), (3, .ref (gA G 23))]) F dL_law_1258 (by decide) rfl ?_
  refine w_aload_n F 4 dL_law_1260 rfl rfl ?_
  refine w_aload_n F 2 dL_law_1261 rfl rfl ?_
  refine w_iload F 1 dL_law_1262 rfl ?_
  refine w_iconst F dL_law_1264 (v := nI 1) (by decide) ?_
  refine w_iadd F dL_law_1265 ?_
  refine w_sld F S (hin 1 (by decide)) dL_law_1266 ?_
  refine w_aload_n F 2 dL_law_1267 rfl rfl ?_
  refine w_iload F 1 dL_law_1268 rfl ?_
  refine w_iconst F dL_law_1270 (v := nI 2) (by decide) ?_
  refine w_iadd F dL_law_1271 ?_
  refine w_sld F S (hin 2 (by decide)) dL_law_1272 ?_
  refine w_aload_n F 2 dL_law_1273 rfl rfl ?_
  refine w_iload F 1 dL_law_1274 rfl ?_
  refine w_iconst F dL_law_1276 (v := nI 3) (by decide) ?_
  refine w_iadd F dL_law_1277 ?_
  refine w_sld F S (hin 3 (by decide)) dL_law_1278 ?_
  refine w_cV (v := some (.int v)) (As := [.int (xs (i + nI 1).toNatClampNeg), .int (xs (i + nI 2).toNatClampNeg), .int (xs (i + nI 3).toNatClampNeg)]) (rest := []) F (c_X7_step F.st F.gg (xs (i + nI 1).toNatClampNeg) (xs (i + nI 2).toNatClampNeg) (xs (i + nI 3).toNatClampNeg) M2 _ hm) dL_law_1279 ml_L_171 yv_X7_step (rfl : kd 24 = 7) (by decide) rfl rfl ⟨by decide, by decide⟩ hu rfl (Nat.le_of_ble_eq_true rfl) ?_
  refine w_istore (ls' := [(6, .int v), (5, .int c9), (4, .int i), (0, .ref b), (1, .ref (gA G 0)), (2, .ref (gA G 24)), (3, .ref (gA G 23))]) F dL_law_1282 (by decide) rfl ?_
  refine w_aload_n F 5 dL_law_1284 rfl rfl ?_
  refine w_cV (v := some (.int (M3.1 24 2))) (As := []) (rest := []) F (c_X7_thrown F.st F.gg M3 _ th_ok) dL_law_1285 ml_L_108 yv_X7_thrown (rfl : kd 24 = 7) (by decide) rfl rfl ⟨by decide, by decide⟩ hu rfl (Nat.le_of_ble_eq_true rfl) ?_
  refine w_iload F 1 dL_law_1288 rfl ?_
  refine w_icmp_eq (tgt := 1295) F dL_law_1290 (by decide) hc9 ?_
  refine w_iload F 1 dL_law_1295 rfl ?_
  refine w_if_ne (tgt := 1312) F dL_law_1297 (by decide) (fun h0 => ?_) (fun h0 => ?_)
  · skip
    refine w_aload_n F 6 dL_law_1300 rfl rfl ?_
    refine w_iconst F dL_law_1301 (v := 0) (by decide) ?_
    refine w_lald F dL_law_1302 (rfl : kd 23 = 12) (by decide) ?_
    refine w_iload F 0 dL_law_1303 rfl ?_
    refine w_i2l F dL_law_1305 ?_
    refine w_lcmp F dL_law_1306 ?_
    refine w_if_eq (tgt := 1312) F dL_law_1307 (by decide) (lcmp0 (hq h0)) ?_
    refine w_goto (tgt := 1978) F dL_law_1312 (by decide) ?_
    exact w_sub [2, 3, 4, 5, 6] rfl (K M3 hJ3)
  · skip
    refine w_goto (tgt := 1978) F dL_law_1312 (by decide) ?_
    exact w_sub [2, 3, 4, 5, 6] rfl (K M3 hJ3)
set_option maxRecDepth 100000 in
set_option maxHeartbeats 4000000 in
theorem q_L_19 {G : GM} {p : Program} {l : Launch} {e : Env} {s : State} {m : MethodId} {args : Array Value} {below : List Frame} {meth : Method} {c : Code} {ret : Option FieldType} {u9 w9 : Nat} {Q : State → Prop} {b L : Nat} {xs : Nat → Int32} {i : Int32} {M : Mem} (F : Fy G p l s m args meth c cL_law RL 9 ret) (S : Sx G b L xs s) (hin : ∀ j : Nat, j < 5 → vp_in (i + nI j) L) (hJ : Jt M) (hu : u9 + 1 ≤ 601024 ∧ w9 + 6 ≤ 7293034) (K : ∀ M', Jt M' → Rw G p l e room_1 s m args below meth c 9 (u9 + 1) (w9 + 6) Q 1978 [(4, .int i), (0, .ref b), (1, .ref (gA G 0)), (2, .ref (gA G 24)), (3, .ref (gA G 23))] [] M') : Rw G p l e room_1 s m args below meth c 9 u9 w9 Q 1315 [(4, .int i), (0, .ref b), (1, .ref (gA G 0)), (2, .ref (gA G 24)), (3, .ref (gA G 23))] [] M := by
  obtain ⟨r, M1, c9, M2, v, M3, hc, hw, hm, hJ3, hc9, hq⟩ := (o_wear hJ (xs (i + nI 1).toNatClampNeg) (xs (i + nI 2).toNatClampNeg)).go (by decide)
  refine w_aload_n F 2 dL_law_1315 rfl rfl ?_
  refine w_aload_n F 1 dL_law_1316 rfl rfl ?_
  refine w_iload F 0 dL_law_1317 rfl ?_
  refine w_iconst F dL_law_1319 (v := nI 1) (by decide) ?_
  refine w_iadd F dL_law_1320 ?_
  refine w_sld F S (hin 1 (by decide)) dL_law_1321 ?_
  refine w_aload_n F 1 dL_law_1322 rfl rfl ?_
  refine w_iload F 0 dL_law_1323 rfl ?_
  refine w_iconst F dL_law_1325 (v := nI 2) (by decide) ?_
  refine w_iadd F dL_law_1326 ?_
  refine w_sld F S (hin 2 (by decide)) dL_law_1327 ?_
  refine w_aload_n F 4 dL_law_1328 rfl rfl ?_
  refine w_cSW (n := 4) (As := [.ref (gA G 0), .int (xs (i + nI 1).toNatClampNeg), .int (xs (i + nI 2).toNatClampNeg), .ref (gA G 23)]) (rest := []) F (m_L_wear F.st F.gg (xs (i + nI 1).toNatClampNeg) (xs (i + nI 2).toNatClampNeg) hc hw) dL_law_1329 ml_L_172 sc_L_wear ini_L cw_L_wear ⟨by decide, by decide, by decide +kernel⟩ rfl ⟨rfl, rfl⟩ ⟨by decide, by decide⟩ hu rfl (Nat.le_of_ble_eq_true rfl) ?_
  refine w_istore (ls' := [(5, .int c9), (4, .int i), (0, .ref b), (1, .ref (gA G 0)), (2, .ref (gA G 24)), (3, .ref (gA G 23))]) F dL_law_1332 (by decide) rfl ?_
  refine w_aload_n F 4 dL_law_1334 rfl rfl ?_
  refine w_aload_n F 2 dL_law_1335 rfl rfl ?_
  refine w_iload F 1 dL_law_1336 rfl ?_
  refine w_iconst F dL_law_1338 (v := nI 1) (by decide) ?_
  refine w_iadd F dL_law_1339 ?_
  refine w_sld F S (hin 1 (by decide)) dL_law_1340 ?_
  refine w_aload_n F 2 dL_law_1341 rfl rfl ?_
  refine w_iload F 1 dL_law_1342 rfl ?_
  refine w_iconst F dL_law_1344 (v := nI 2) (by decide) ?_
  refine w_iadd F dL_law_1345 ?_
  refine w_sld F S (hin 2 (by decide)) dL_law_1346 ?_
  refine w_cV (v := some (.int v)) (As := [.int (xs (i + nI 1).toNatClampNeg), .int (xs (i + nI 2).toNatClampNeg)]) (rest := []) F (c_X7_wear F.st F.gg (xs (i + nI 1).toNatClampNeg) (xs (i + nI 2).toNatClampNeg) M2 _ hm) dL_law_1347 ml_L_174 yv_X7_wear (rfl : kd 24 = 7) (by decide) rfl rfl ⟨by decide, by decide⟩ hu rfl (Nat.le_of_ble_eq_true rfl) ?_
  refine w_istore (ls' := [(6, .int v), (5, .int c9), (4, .int i), (0, .ref b), (1, .ref (gA G 0)), (2, .ref (gA G 24)), (3, .ref (gA G 23))]) F dL_law_1350 (by decide) rfl ?_
  refine w_aload_n F 5 dL_law_1352 rfl rfl ?_
  refine w_cV (v := some (.int (M3.1 24 2))) (As := []) (rest := []) F (c_X7_thrown F.st F.gg M3 _ th_ok) dL_law_1353 ml_L_108 yv_X7_thrown (rfl : kd 24 = 7) (by decide) rfl rfl ⟨by decide, by decide⟩ hu rfl (Nat.le_of_ble_eq_true rfl) ?_
  refine w_iload F 1 dL_law_1356 rfl ?_
  refine w_icmp_eq (tgt := 1363) F dL_law_1358 (by decide) hc9 ?_
  refine w_iload F 1 dL_law_1363 rfl ?_
  refine w_if_ne (tgt := 1380) F dL_law_1365 (by decide) (fun h0 => ?_) (fun h0 => ?_)
  · skip
    refine w_aload_n F 6 dL_law_1368 rfl rfl ?_
    refine w_iconst F dL_law_1369 (v := 0) (by decide) ?_
    refine w_lald F dL_law_1370 (rfl : kd 23 = 12) (by decide) ?_
    refine w_iload F 0 dL_law_1371 rfl ?_
    refine w_i2l F dL_law_1373 ?_
    refine w_lcmp F dL_law_1374 ?_
    refine w_if_eq (tgt := 1380) F dL_law_1375 (by decide) (lcmp0 (hq h0)) ?_
    refine w_goto (tgt := 1978) F dL_law_1380 (by decide) ?_
    exact w_sub [2, 3, 4, 5, 6] rfl (K M3 hJ3)
  · skip
    refine w_goto (tgt := 1978) F dL_law_1380 (by decide) ?_
    exact w_sub [2, 3, 4, 5, 6] rfl (K M3 hJ3)
set_option maxRecDepth 100000 in
set_option maxHeartbeats 4000000 in
theorem q_L_20 {G : GM} {p : Program} {l : Launch} {e : Env} {s : State} {m : MethodId} {args : Array Value} {below : List Frame} {meth : Method} {c : Code} {ret : Option FieldType} {u9 w9 : Nat} {Q : State → Prop} {b L : Nat} {xs : Nat → Int32} {i : Int32} {M : Mem} (F : Fy G p l s m args meth c cL_law RL 9 ret) (S : Sx G b L xs s) (hin : ∀ j : Nat, j < 5 → vp_in (i + nI j) L) (hJ : Jt M) (hu : u9 + 1 ≤ 601024 ∧ w9 + 6 ≤ 7293034) (K : ∀ M', Jt M' → Rw G p l e room_1 s m args below meth c 9 (u9 + 1) (w9 + 6) Q 1978 [(4, .int i), (0, .ref b), (1, .ref (gA G 0)), (2, .ref (gA G 24)), (3, .ref (gA G 23))] [] M') : Rw G p l e room_1 s m args below meth c 9 u9 w9 Q 1383 [(4, .int i), (0, .ref b), (1, .ref (gA G 0)), (2, .ref (gA G 24)), (3, .ref (gA G 23))] [] M := by
  obtain ⟨r, M1, c9, M2, v, M3, hc, hw, hm, hJ3, hc9, hq⟩ := (o_debt hJ (xs (i + nI 1).toNatClampNeg) (xs (i + nI 2).toNatClampNeg)).go (by decide)
  refine w_aload_n F 2 dL_law_1383 rfl rfl ?_
  refine w_aload_n F 1 dL_law_1384 rfl rfl ?_
  refine w_iload F 0 dL_law_1385 rfl ?_
  refine w_iconst F dL_law_1387 (v := nI 1) (by decide) ?_
  refine w_iadd F dL_law_1388 ?_
  refine w_sld F S (hin 1 (by decide)) dL_law_1389 ?_
  refine w_aload_n F 1 dL_law_1390 rfl rfl ?_
  refine w_iload F 0 dL_law_1391 rfl ?_
  refine w_iconst F dL_law_1393 (v := nI 2) (by decide) ?_
  refine w_iadd F dL_law_1394 ?_
  refine w_sld F S (hin 2 (by decide)) dL_law_1395 ?_
  refine w_aload_n F 4 dL_law_1396 rfl rfl ?_
  refine w_cSW (n := 4) (As := [.ref (gA G 0), .int (xs (i + nI 1).toNatClampNeg), .int (xs (i + nI 2).toNatClampNeg), .ref (gA G 23)]) (rest := []) F (m_L_debt F.st F.gg (xs (i + nI 1).toNatClampNeg) (xs (i + nI 2).toNatClampNeg) hc hw) dL_law_1397 ml_L_175 sc_L_debt ini_L cw_L_debt ⟨by decide, by decide, by decide +kernel⟩ rfl ⟨rfl, rfl⟩ ⟨by decide, by decide⟩ hu rfl (Nat.le_of_ble_eq_true rfl) ?_
  refine w_istore (ls' := [(5, .int c9), (4, .int i), (0, .ref b), (1, .ref (gA G 0)), (2, .ref (gA G 24)), (3, .ref (gA G 23))]) F dL_law_1400 (by decide) rfl ?_
  refine w_aload_n F 4 dL_law_1402 rfl rfl ?_
  refine w_aload_n F 2 dL_law_1403 rfl rfl ?_
  refine w_iload F 1 dL_law_1404 rfl ?_
  refine w_iconst F dL_law_1406 (v := nI 1) (by decide) ?_
  refine w_iadd F dL_law_1407 ?_
  refine w_sld F S (hin 1 (by decide)) dL_law_1408 ?_
  refine w_aload_n F 2 dL_law_1409 rfl rfl ?_
  refine w_iload F 1 dL_law_1410 rfl ?_
  refine w_iconst F dL_law_1412 (v := nI 2) (by decide) ?_
  refine w_iadd F dL_law_1413 ?_
  refine w_sld F S (hin 2 (by decide)) dL_law_1414 ?_
  refine w_cV (v := some (.int v)) (As := [.int (xs (i + nI 1).toNatClampNeg), .int (xs (i + nI 2).toNatClampNeg)]) (rest := []) F (c_X7_debt F.st F.gg (xs (i + nI 1).toNatClampNeg) (xs (i + nI 2).toNatClampNeg) M2 _ hm) dL_law_1415 ml_L_177 yv_X7_debt (rfl : kd 24 = 7) (by decide) rfl rfl ⟨by decide, by decide⟩ hu rfl (Nat.le_of_ble_eq_true rfl) ?_
  refine w_istore (ls' := [(6, .int v), (5, .int c9), (4, .int i), (0, .ref b), (1, .ref (gA G 0)), (2, .ref (gA G 24)), (3, .ref (gA G 23))]) F dL_law_1418 (by decide) rfl ?_
  refine w_aload_n F 5 dL_law_1420 rfl rfl ?_
  refine w_cV (v := some (.int (M3.1 24 2))) (As := []) (rest := []) F (c_X7_thrown F.st F.gg M3 _ th_ok) dL_law_1421 ml_L_108 yv_X7_thrown (rfl : kd 24 = 7) (by decide) rfl rfl ⟨by decide, by decide⟩ hu rfl (Nat.le_of_ble_eq_true rfl) ?_
  refine w_iload F 1 dL_law_1424 rfl ?_
  refine w_icmp_eq (tgt := 1431) F dL_law_1426 (by decide) hc9 ?_
  refine w_iload F 1 dL_law_1431 rfl ?_
  refine w_if_ne (tgt := 1448) F dL_law_1433 (by decide) (fun h0 => ?_) (fun h0 => ?_)
  · skip
    refine w_aload_n F 6 dL_law_1436 rfl rfl ?_
    refine w_iconst F dL_law_1437 (v := 0) (by decide) ?_
    refine w_lald F dL_law_1438 (rfl : kd 23 = 12) (by decide) ?_
    refine w_iload F 0 dL_law_1439 rfl ?_
    refine w_i2l F dL_law_1441 ?_
    refine w_lcmp F dL_law_1442 ?_
    refine w_if_eq (tgt := 1448) F dL_law_1443 (by decide) (lcmp0 (hq h0)) ?_
    refine w_goto (tgt := 1978) F dL_law_1448 (by decide) ?_
    exact w_sub [2, 3, 4, 5, 6] rfl (K M3 hJ3)
  · skip
    refine w_goto (tgt := 1978) F dL_law_1448 (by decide) ?_
    exact w_sub [2, 3, 4, 5, 6] rfl (K M3 hJ3)
set_option maxRecDepth 100000 in
set_option maxHeartbeats 4000000 in
theorem q_L_21 {G : GM} {p : Program} {l : Launch} {e : Env} {s : State} {m : MethodId} {args : Array Value} {below : List Frame} {meth : Method} {c : Code} {ret : Option FieldType} {u9 w9 : Nat} {Q : State → Prop} {b L : Nat} {xs : Nat → Int32} {i : Int32} {M : Mem} (F : Fy G p l s m args meth c cL_law RL 9 ret) (S : Sx G b L xs s) (hin : ∀ j : Nat, j < 5 → vp_in (i + nI j) L) (hJ : Jt M) (hu : u9 + 1 ≤ 601024 ∧ w9 + 6 ≤ 7293034) (K : ∀ M', Jt M' → Rw G p l e room_1 s m args below meth c 9 (u9 + 1) (w9 + 6) Q 1978 [(4, .int i), (0, .ref b), (1, .ref (gA G 0)), (2, .ref (gA G 24)), (3, .ref (gA G 23))] [] M') : Rw G p l e room_1 s m args below meth c 9 u9 w9 Q 1451 [(4, .int i), (0, .ref b), (1, .ref (gA G 0)), (2, .ref (gA G 24)), (3, .ref (gA G 23))] [] M := by
  obtain ⟨r, M1, c9, M2, v, M3, hc, hw, hm, hJ3, hc9, hq⟩ := (o_count hJ (xs (i + nI 1).toNatClampNeg)).go (by decide)
  refine w_aload_n F 2 dL_law_1451 rfl rfl ?_
  refine w_aload_n F 1 dL_law_1452 rfl rfl ?_
  refine w_iload F 0 dL_law_1453 rfl ?_
  refine w_iconst F dL_law_1455 (v := nI 1) (by decide) ?_
  refine w_iadd F dL_law_1456 ?_
  refine w_sld F S (hin 1 (by decide)) dL_law_1457 ?_
  refine w_aload_n F 4 dL_law_1458 rfl rfl ?_
  refine w_cSW (n := 3) (As := [.ref (gA G 0), .int (xs (i + nI 1).toNatClampNeg), .ref (gA G 23)]) (rest := []) F (m_L_count F.st F.gg (xs (i + nI 1).toNatClampNeg) hc hw) dL_law_1459 ml_L_178 sc_L_count ini_L cw_L_count ⟨by decide, by decide, by decide +kernel⟩ rfl ⟨rfl, rfl⟩ ⟨by decide, by decide⟩ hu rfl (Nat.le_of_ble_eq_true rfl) ?_
  refine w_istore (ls' := [(5, .int c9), (4, .int i), (0, .ref b), (1, .ref (gA G 0)), (2, .ref (gA G 24)), (3, .ref (gA G 23))]) F dL_law_1462 (by decide) rfl ?_
  refine w_aload_n F 4 dL_law_1464 rfl rfl ?_
  refine w_aload_n F 2 dL_law_1465 rfl rfl ?_
  refine w_iload F 1 dL_law_1466 rfl ?_
  refine w_iconst F dL_law_1468 (v := nI 1) (by decide) ?_
  refine w_iadd F dL_law_1469 ?_
  refine w_sld F S (hin 1 (by decide)) dL_law_1470 ?_
  refine w_cV (v := some (.int v)) (As := [.int (xs (i + nI 1).toNatClampNeg)]) (rest := []) F (c_X7_count F.st F.gg (xs (i + nI 1).toNatClampNeg) M2 _ hm) dL_law_1471 ml_L_180 yv_X7_count (rfl : kd 24 = 7) (by decide) rfl rfl ⟨by decide, by decide⟩ hu rfl (Nat.le_of_ble_eq_true rfl) ?_
  refine w_istore (ls' := [(6, .int v), (5, .int c9), (4, .int i), (0, .ref b), (1, .ref (gA G 0)), (2, .ref (gA G 24)), (3, .ref (gA G 23))]) F dL_law_1474 (by decide) rfl ?_
  refine w_aload_n F 5 dL_law_1476 rfl rfl ?_
  refine w_cV (v := some (.int (M3.1 24 2))) (As := []) (rest := []) F (c_X7_thrown F.st F.gg M3 _ th_ok) dL_law_1477 ml_L_108 yv_X7_thrown (rfl : kd 24 = 7) (by decide) rfl rfl ⟨by decide, by decide⟩ hu rfl (Nat.le_of_ble_eq_true rfl) ?_
  refine w_iload F 1 dL_law_1480 rfl ?_
  refine w_icmp_eq (tgt := 1487) F dL_law_1482 (by decide) hc9 ?_
  refine w_iload F 1 dL_law_1487 rfl ?_
  refine w_if_ne (tgt := 1504) F dL_law_1489 (by decide) (fun h0 => ?_) (fun h0 => ?_)
  · skip
    refine w_aload_n F 6 dL_law_1492 rfl rfl ?_
    refine w_iconst F dL_law_1493 (v := 0) (by decide) ?_
    refine w_lald F dL_law_1494 (rfl : kd 23 = 12) (by decide) ?_
    refine w_iload F 0 dL_law_1495 rfl ?_
    refine w_i2l F dL_law_1497 ?_
    refine w_lcmp F dL_law_1498 ?_
    refine w_if_eq (tgt := 1504) F dL_law_1499 (by decide) (lcmp0 (hq h0)) ?_
    refine w_goto (tgt := 1978) F dL_law_1504 (by decide) ?_
    exact w_sub [2, 3, 4, 5, 6] rfl (K M3 hJ3)
  · skip
    refine w_goto (tgt := 1978) F dL_law_1504 (by decide) ?_
    exact w_sub [2, 3, 4, 5, 6] rfl (K M3 hJ3)
set_option maxRecDepth 100000 in
set_option maxHeartbeats 4000000 in
theorem q_L_22 {G : GM} {p : Program} {l : Launch} {e : Env} {s : State} {m : MethodId} {args : Array Value} {below : List Frame} {meth : Method} {c : Code} {ret : Option FieldType} {u9 w9 : Nat} {Q : State → Prop} {b L : Nat} {xs : Nat → Int32} {i : Int32} {M : Mem} (F : Fy G p l s m args meth c cL_law RL 9 ret) (S : Sx G b L xs s) (hin : ∀ j : Nat, j < 5 → vp_in (i + nI j) L) (hJ : Jt M) (hu : u9 + 1 ≤ 601024 ∧ w9 + 6 ≤ 7293034) (K : ∀ M', Jt M' → Rw G p l e room_1 s m args below meth c 9 (u9 + 1) (w9 + 6) Q 1978 [(4, .int i), (0, .ref b), (1, .ref (gA G 0)), (2, .ref (gA G 24)), (3, .ref (gA G 23))] [] M') : Rw G p l e room_1 s m args below meth c 9 u9 w9 Q 1507 [(4, .int i), (0, .ref b), (1, .ref (gA G 0)), (2, .ref (gA G 24)), (3, .ref (gA G 23))] [] M := by
  obtain ⟨r, M1, c9, M2, v, M3, hc, hw, hm, hJ3, hc9, hq⟩ := (o_setting hJ (xs (i + nI 1).toNatClampNeg)).go (by decide)
  refine w_aload_n F 2 dL_law_1507 rfl rfl ?_
  refine w_aload_n F 1 dL_law_1508 rfl rfl ?_
  refine w_iload F 0 dL_law_1509 rfl ?_
  refine w_iconst F dL_law_1511 (v := nI 1) (by decide) ?_
  refine w_iadd F dL_law_1512 ?_
  refine w_sld F S (hin 1 (by decide)) dL_law_1513 ?_
  refine w_aload_n F 4 dL_law_1514 rfl rfl ?_
  refine w_cSW (n := 3) (As := [.ref (gA G 0), .int (xs (i + nI 1).toNatClampNeg), .ref (gA G 23)]) (rest := []) F (m_L_setting F.st F.gg (xs (i + nI 1).toNatClampNeg) hc hw) dL_law_1515 ml_L_181 sc_L_setting ini_L cw_L_setting ⟨by decide, by decide, by decide +kernel⟩ rfl ⟨rfl, rfl⟩ ⟨by decide, by decide⟩ hu rfl (Nat.le_of_ble_eq_true rfl) ?_
  refine w_istore (ls' := [(5, .int c9), (4, .int i), (0, .ref b), (1, .ref (gA G 0)), (2, .ref (gA G 24)), (3, .ref (gA G 23))]) F dL_law_1518 (by decide) rfl ?_
  refine w_aload_n F 4 dL_law_1520 rfl rfl ?_
  refine w_aload_n F 2 dL_law_1521 rfl rfl ?_
  refine w_iload F 1 dL_law_1522 rfl ?_
  refine w_iconst F dL_law_1524 (v := nI 1) (by decide) ?_
  refine w_iadd F dL_law_1525 ?_
  refine w_sld F S (hin 1 (by decide)) dL_law_1526 ?_
  refine w_cV (v := some (.int v)) (As := [.int (xs (i + nI 1).toNatClampNeg)]) (rest := []) F (c_X7_setting F.st F.gg (xs (i + nI 1).toNatClampNeg) M2 _ hm) dL_law_1527 ml_L_183 yv_X7_setting (rfl : kd 24 = 7) (by decide) rfl rfl ⟨by decide, by decide⟩ hu rfl (Nat.le_of_ble_eq_true rfl) ?_
  refine w_istore (ls' := [(6, .int v), (5, .int c9), (4, .int i), (0, .ref b), (1, .ref (gA G 0)), (2, .ref (gA G 24)), (3, .ref (gA G 23))]) F dL_law_1530 (by decide) rfl ?_
  refine w_aload_n F 5 dL_law_1532 rfl rfl ?_
  refine w_cV (v := some (.int (M3.1 24 2))) (As := []) (rest := []) F (c_X7_thrown F.st F.gg M3 _ th_ok) dL_law_1533 ml_L_108 yv_X7_thrown (rfl : kd 24 = 7) (by decide) rfl rfl ⟨by decide, by decide⟩ hu rfl (Nat.le_of_ble_eq_true rfl) ?_
  refine w_iload F 1 dL_law_1536 rfl ?_
  refine w_icmp_eq (tgt := 1543) F dL_law_1538 (by decide) hc9 ?_
  refine w_iload F 1 dL_law_1543 rfl ?_
  refine w_if_ne (tgt := 1560) F dL_law_1545 (by decide) (fun h0 => ?_) (fun h0 => ?_)
  · skip
    refine w_aload_n F 6 dL_law_1548 rfl rfl ?_
    refine w_iconst F dL_law_1549 (v := 0) (by decide) ?_
    refine w_lald F dL_law_1550 (rfl : kd 23 = 12) (by decide) ?_
    refine w_iload F 0 dL_law_1551 rfl ?_
    refine w_i2l F dL_law_1553 ?_
    refine w_lcmp F dL_law_1554 ?_
    refine w_if_eq (tgt := 1560) F dL_law_1555 (by decide) (lcmp0 (hq h0)) ?_
    refine w_goto (tgt := 1978) F dL_law_1560 (by decide) ?_
    exact w_sub [2, 3, 4, 5, 6] rfl (K M3 hJ3)
  · skip
    refine w_goto (tgt := 1978) F dL_law_1560 (by decide) ?_
    exact w_sub [2, 3, 4, 5, 6] rfl (K M3 hJ3)
set_option maxRecDepth 100000 in
set_option maxHeartbeats 4000000 in
theorem q_L_23 {G : GM} {p : Program} {l : Launch} {e : Env} {s : State} {m : MethodId} {args : Array Value} {below : List Frame} {meth : Method} {c : Code} {ret : Option FieldType} {u9 w9 : Nat} {Q : State → Prop} {b L : Nat} {xs : Nat → Int32} {i : Int32} {M : Mem} (F : Fy G p l s m args meth c cL_law RL 9 ret) (S : Sx G b L xs s) (hin : ∀ j : Nat, j < 5 → vp_in (i + nI j) L) (hJ : Jt M) (hu : u9 + 1 ≤ 601024 ∧ w9 + 6 ≤ 7293034) (K : ∀ M', Jt M' → Rw G p l e room_1 s m args below meth c 9 (u9 + 1) (w9 + 6) Q 1978 [(4, .int i), (0, .ref b), (1, .ref (gA G 0)), (2, .ref (gA G 24)), (3, .ref (gA G 23))] [] M') : Rw G p l e room_1 s m args below meth c 9 u9 w9 Q 1563 [(4, .int i), (0, .ref b), (1, .ref (gA G 0)), (2, .ref (gA G 24)), (3, .ref (gA G 23))] [] M := by
  obtain ⟨r, M1, c9, M2, v, M3, hc, hw, hm, hJ3, hc9, hq⟩ := (o_ifPlayed hJ (xs (i + nI 1).toNatClampNeg) (xs (i + nI 2).toNatClampNeg)).go (by decide)
  refine w_aload_n F 2 dL_law_1563 rfl rfl ?_
  refine w_aload_n F 1 dL_law_1564 rfl rfl ?_
  refine w_iload F 0 dL_law_1565 rfl ?_
  refine w_iconst F dL_law_1567 (v := nI 1) (by decide) ?_
  refine w_iadd F dL_law_1568 ?_
  refine w_sld F S (hin 1 (by decide)) dL_law_1569 ?_
  refine w_aload_n F 1 dL_law_1570 rfl rfl ?_
  refine w_iload F 0 dL_law_1571 rfl ?_
  refine w_iconst F dL_law_1573 (v := nI 2) (by decide) ?_
  refine w_iadd F dL_law_1574 ?_
  refine w_sld F S (hin 2 (by decide)) dL_law_1575 ?_
  refine w_aload_n F 4 dL_law_1576 rfl rfl ?_
  refine w_cSW (n := 4) (As := [.ref (gA G 0), .int (xs (i + nI 1).toNatClampNeg), .int (xs (i + nI 2).toNatClampNeg), .ref (gA G 23)]) (rest := []) F (m_L_ifPlayed F.st F.gg (xs (i + nI 1).toNatClampNeg) (xs (i + nI 2).toNatClampNeg) hc hw) dL_law_1577 ml_L_184 sc_L_ifPlayed ini_L cw_L_ifPlayed ⟨by decide, by decide, by decide +kernel⟩ rfl ⟨rfl, rfl⟩ ⟨by decide, by decide⟩ hu rfl (Nat.le_of_ble_eq_true rfl) ?_
  refine w_istore (ls' := [(5, .int c9), (4, .int i), (0, .ref b), (1, .ref (gA G 0)), (2, .ref (gA G 24)), (3, .ref (gA G 23))]) F dL_law_1580 (by decide) rfl ?_
  refine w_aload_n F 4 dL_law_1582 rfl rfl ?_
  refine w_aload_n F 2 dL_law_1583 rfl rfl ?_
  refine w_iload F 1 dL_law_1584 rfl ?_
  refine w_iconst F dL_law_1586 (v := nI 1) (by decide) ?_
  refine w_iadd F dL_law_1587 ?_
  refine w_sld F S (hin 1 (by decide)) dL_law_1588 ?_
  refine w_aload_n F 2 dL_law_1589 rfl rfl ?_
  refine w_iload F 1 dL_law_1590 rfl ?_
  refine w_iconst F dL_law_1592 (v := nI 2) (by decide) ?_
  refine w_iadd F dL_law_1593 ?_
  refine w_sld F S (hin 2 (by decide)) dL_law_1594 ?_
  refine w_cV (v := some (.int v)) (As := [.int (xs (i + nI 1).toNatClampNeg), .int (xs (i + nI 2).toNatClampNeg)]) (rest := []) F (c_X7_ifPlayed F.st F.gg (xs (i + nI 1).toNatClampNeg) (xs (i + nI 2).toNatClampNeg) M2 _ hm) dL_law_1595 ml_L_186 yv_X7_ifPlayed (rfl : kd 24 = 7) (by decide) rfl rfl ⟨by decide, by decide⟩ hu rfl (Nat.le_of_ble_eq_true rfl) ?_
  refine w_istore (ls' := [(6, .int v), (5, .int c9), (4, .int i), (0, .ref b), (1, .ref (gA G 0)), (2, .ref (gA G 24)), (3, .ref (gA G 23))]) F dL_law_1598 (by decide) rfl ?_
  refine w_aload_n F 5 dL_law_1600 rfl rfl ?_
  refine w_cV (v := some (.int (M3.1 24 2))) (As := []) (rest := []) F (c_X7_thrown F.st F.gg M3 _ th_ok) dL_law_1601 ml_L_108 yv_X7_thrown (rfl : kd 24 = 7) (by decide) rfl rfl ⟨by decide, by decide⟩ hu rfl (Nat.le_of_ble_eq_true rfl) ?_
  refine w_iload F 1 dL_law_1604 rfl ?_
  refine w_icmp_eq (tgt := 1611) F dL_law_1606 (by decide) hc9 ?_
  refine w_iload F 1 dL_law_1611 rfl ?_
  refine w_if_ne (tgt := 1628) F dL_law_1613 (by decide) (fun h0 => ?_) (fun h0 => ?_)
  · skip
    refine w_aload_n F 6 dL_law_1616 rfl rfl ?_
    refine w_iconst F dL_law_1617 (v := 0) (by decide) ?_
    refine w_lald F dL_law_1618 (rfl : kd 23 = 12) (by decide) ?_
    refine w_iload F 0 dL_law_1619 rfl ?_
    refine w_i2l F dL_law_1621 ?_
    refine w_lcmp F dL_law_1622 ?_
    refine w_if_eq (tgt := 1628) F dL_law_1623 (by decide) (lcmp0 (hq h0)) ?_
    refine w_goto (tgt := 1978) F dL_law_1628 (by decide) ?_
    exact w_sub [2, 3, 4, 5, 6] rfl (K M3 hJ3)
  · skip
    refine w_goto (tgt := 1978) F dL_law_1628 (by decide) ?_
    exact w_sub [2, 3, 4, 5, 6] rfl (K M3 hJ3)
set_option maxRecDepth 100000 in
set_option maxHeartbeats 4000000 in
theorem q_L_24 {G : GM} {p : Program} {l : Launch} {e : Env} {s : State} {m : MethodId} {args : Array Value} {below : List Frame} {meth : Method} {c : Code} {ret : Option FieldType} {u9 w9 : Nat} {Q : State → Prop} {b L : Nat} {xs : Nat → Int32} {i : Int32} {M : Mem} (F : Fy G p l s m args meth c cL_law RL 9 ret) (S : Sx G b L xs s) (hin : ∀ j : Nat, j < 5 → vp_in (i + nI j) L) (hJ : Jt M) (hu : u9 + 1 ≤ 601024 ∧ w9 + 6 ≤ 7293034) (K : ∀ M', Jt M' → Rw G p l e room_1 s m args below meth c 9 (u9 + 1) (w9 + 6) Q 1978 [(4, .int i), (0, .ref b), (1, .ref (gA G 0)), (2, .ref (gA G 24)), (3, .ref (gA G 23))] [] M') : Rw G p l e room_1 s m args below meth c 9 u9 w9 Q 1631 [(4, .int i), (0, .ref b), (1, .ref (gA G 0)), (2, .ref (gA G 24)), (3, .ref (gA G 23))] [] M := by
  obtain ⟨r, M1, c9, M2, v, M3, hc, hw, hm, hJ3, hc9, hq⟩ := (o_lastsFor hJ (xs (i + nI 1).toNatClampNeg)).go (by decide)
  refine w_aload_n F 2 dL_law_1631 rfl rfl ?_
  refine w_aload_n F 1 dL_law_1632 rfl rfl ?_
  refine w_iload F 0 dL_law_1633 rfl ?_
  refine w_iconst F dL_law_1635 (v := nI 1) (by decide) ?_
  refine w_iadd F dL_law_1636 ?_
  refine w_sld F S (hin 1 (by decide)) dL_law_1637 ?_
  refine w_aload_n F 4 dL_law_1638 rfl rfl ?_
  refine w_cSW (n := 3) (As := [.ref (gA G 0), .int (xs (i + nI 1).toNatClampNeg), .ref (gA G 23)]) (rest := []) F (m_L_lastsFor F.st F.gg (xs (i + nI 1).toNatClampNeg) hc hw) dL_law_1639 ml_L_187 sc_L_lastsFor ini_L cw_L_lastsFor ⟨by decide, by decide, by decide +kernel⟩ rfl ⟨rfl, rfl⟩ ⟨by decide, by decide⟩ hu rfl (Nat.le_of_ble_eq_true rfl) ?_
  refine w_istore (ls' := [(5, .int c9), (4, .int i), (0, .ref b), (1, .ref (gA G 0)), (2, .ref (gA G 24)), (3, .ref (gA G 23))]) F dL_law_1642 (by decide) rfl ?_
  refine w_aload_n F 4 dL_law_1644 rfl rfl ?_
  refine w_aload_n F 2 dL_law_1645 rfl rfl ?_
  refine w_iload F 1 dL_law_1646 rfl ?_
  refine w_iconst F dL_law_1648 (v := nI 1) (by decide) ?_
  refine w_iadd F dL_law_1649 ?_
  refine w_sld F S (hin 1 (by decide)) dL_law_1650 ?_
  refine w_cV (v := some (.int v)) (As := [.int (xs (i + nI 1).toNatClampNeg)]) (rest := []) F (c_X7_lastsFor F.st F.gg (xs (i + nI 1).toNatClampNeg) M2 _ hm) dL_law_1651 ml_L_189 yv_X7_lastsFor (rfl : kd 24 = 7) (by decide) rfl rfl ⟨by decide, by decide⟩ hu rfl (Nat.le_of_ble_eq_true rfl) ?_
  refine w_istore (ls' := [(6, .int v), (5, .int c9), (4, .int i), (0, .ref b), (1, .ref (gA G 0)), (2, .ref (gA G 24)), (3, .ref (gA G 23))]) F dL_law_1654 (by decide) rfl ?_
  refine w_aload_n F 5 dL_law_1656 rfl rfl ?_
  refine w_cV (v := some (.int (M3.1 24 2))) (As := []) (rest := []) F (c_X7_thrown F.st F.gg M3 _ th_ok) dL_law_1657 ml_L_108 yv_X7_thrown (rfl : kd 24 = 7) (by decide) rfl rfl ⟨by decide, by decide⟩ hu rfl (Nat.le_of_ble_eq_true rfl) ?_
  refine w_iload F 1 dL_law_1660 rfl ?_
  refine w_icmp_eq (tgt := 1667) F dL_law_1662 (by decide) hc9 ?_
  refine w_iload F 1 dL_law_1667 rfl ?_
  refine w_if_ne (tgt := 1684) F dL_law_1669 (by decide) (fun h0 => ?_) (fun h0 => ?_)
  · skip
    refine w_aload_n F 6 dL_law_1672 rfl rfl ?_
    refine w_iconst F dL_law_1673 (v := 0) (by decide) ?_
    refine w_lald F dL_law_1674 (rfl : kd 23 = 12) (by decide) ?_
    refine w_iload F 0 dL_law_1675 rfl ?_
    refine w_i2l F dL_law_1677 ?_
    refine w_lcmp F dL_law_1678 ?_
    refine w_if_eq (tgt := 1684) F dL_law_1679 (by decide) (lcmp0 (hq h0)) ?_
    refine w_goto (tgt := 1978) F dL_law_1684 (by decide) ?_
    exact w_sub [2, 3, 4, 5, 6] rfl (K M3 hJ3)
  · skip
    refine w_goto (tgt := 1978) F dL_law_1684 (by decide) ?_
    exact w_sub [2, 3, 4, 5, 6] rfl (K M3 hJ3)
set_option maxRecDepth 100000 in
set_option maxHeartbeats 4000000 in
theorem q_L_25 {G : GM} {p : Program} {l : Launch} {e : Env} {s : State} {m : MethodId} {args : Array Value} {below : List Frame} {meth : Method} {c : Code} {ret : Option FieldType} {u9 w9 : Nat} {Q : State → Prop} {b L : Nat} {xs : Nat → Int32} {i : Int32} {M : Mem} (F : Fy G p l s m args meth c cL_law RL 9 ret) (S : Sx G b L xs s) (hin : ∀ j : Nat, j < 5 → vp_in (i + nI j) L) (hJ : Jt M) (hu : u9 + 1 ≤ 601024 ∧ w9 + 6 ≤ 7293034) (K : ∀ M', Jt M' → Rw G p l e room_1 s m args below meth c 9 (u9 + 1) (w9 + 6) Q 1978 [(4, .int i), (0, .ref b), (1, .ref (gA G 0)), (2, .ref (gA G 24)), (3, .ref (gA G 23))] [] M') : Rw G p l e room_1 s m args below meth c 9 u9 w9 Q 1687 [(4, .int i), (0, .ref b), (1, .ref (gA G 0)), (2, .ref (gA G 24)), (3, .ref (gA G 23))] [] M := by
  obtain ⟨r, M1, c9, M2, v, M3, hc, hw, hm, hJ3, hc9, hq⟩ := (o_bestTurn hJ (xs (i + nI 1).toNatClampNeg) (xs (i + nI 2).toNatClampNeg)).go (by decide)
  refine w_aload_n F 2 dL_law_1687 rfl rfl ?_
  refine w_aload_n F 1 dL_law_1688 rfl rfl ?_
  refine w_iload F 0 dL_law_1689 rfl ?_
  refine w_iconst F dL_law_1691 (v := nI 1) (by decide) ?_
  refine w_iadd F dL_law_1692 ?_
  refine w_sld F S (hin 1 (by decide)) dL_law_1693 ?_
  refine w_aload_n F 1 dL_law_1694 rfl rfl ?_
  refine w_iload F 0 dL_law_1695 rfl ?_
  refine w_iconst F dL_law_1697 (v := nI 2) (by decide) ?_
  refine w_iadd F dL_law_1698 ?_
  refine w_sld F S (hin 2 (by decide)) dL_law_1699 ?_
  refine w_aload_n F 4 dL_law_1700 rfl rfl ?_
  refine w_cSW (n := 4) (As := [.ref (gA G 0), .int (xs (i + nI 1).toNatClampNeg), .int (xs (i + nI 2).toNatClampNeg), .ref (gA G 23)]) (rest := []) F (m_L_bestTurn F.st F.gg (xs (i + nI 1).toNatClampNeg) (xs (i + nI 2).toNatClampNeg) hc hw) dL_law_1701 ml_L_190 sc_L_bestTurn ini_L cw_L_bestTurn ⟨by decide, by decide, by decide +kernel⟩ rfl ⟨rfl, rfl⟩ ⟨by decide, by decide⟩ hu rfl (Nat.le_of_ble_eq_true rfl) ?_
  refine w_istore (ls' := [(5, .int c9), (4, .int i), (0, .ref b), (1, .ref (gA G 0)), (2, .ref (gA G 24)), (3, .ref (gA G 23))]) F dL_law_1704 (by decide) rfl ?_
  refine w_aload_n F 4 dL_law_1706 rfl rfl ?_
  refine w_aload_n F 2 dL_law_1707 rfl rfl ?_
  refine w_iload F 1 dL_law_1708 rfl ?_
  refine w_iconst F dL_law_1710 (v := nI 1) (by decide) ?_
  refine w_iadd F dL_law_1711 ?_
  refine w_sld F S (hin 1 (by decide)) dL_law_1712 ?_
  refine w_aload_n F 2 dL_law_1713 rfl rfl ?_
  refine w_iload F 1 dL_law_1714 rfl ?_
  refine w_iconst F dL_law_1716 (v := nI 2) (by decide) ?_
  refine w_iadd F dL_law_1717 ?_
  refine w_sld F S (hin 2 (by decide)) dL_law_1718 ?_
  refine w_cV (v := some (.int v)) (As := [.int (xs (i + nI 1).toNatClampNeg), .int (xs (i + nI 2).toNatClampNeg)]) (rest := []) F (c_X7_bestTurn F.st F.gg (xs (i + nI 1).toNatClampNeg) (xs (i + nI 2).toNatClampNeg) M2 _ hm) dL_law_1719 ml_L_192 yv_X7_bestTurn (rfl : kd 24 = 7) (by decide) rfl rfl ⟨by decide, by decide⟩ hu rfl (Nat.le_of_ble_eq_true rfl) ?_
  refine w_istore (ls' := [(6, .int v), (5, .int c9), (4, .int i), (0, .ref b), (1, .ref (gA G 0)), (2, .ref (gA G 24)), (3, .ref (gA G 23))]) F dL_law_1722 (by decide) rfl ?_
  refine w_aload_n F 5 dL_law_1724 rfl rfl ?_
  refine w_cV (v := some (.int (M3.1 24 2))) (As := []) (rest := []) F (c_X7_thrown F.st F.gg M3 _ th_ok) dL_law_1725 ml_L_108 yv_X7_thrown (rfl : kd 24 = 7) (by decide) rfl rfl ⟨by decide, by decide⟩ hu rfl (Nat.le_of_ble_eq_true rfl) ?_
  refine w_iload F 1 dL_law_1728 rfl ?_
  refine w_icmp_eq (tgt := 1735) F dL_law_1730 (by decide) hc9 ?_
  refine w_iload F 1 dL_law_1735 rfl ?_
  refine w_if_ne (tgt := 1752) F dL_law_1737 (by decide) (fun h0 => ?_) (fun h0 => ?_)
  · skip
    refine w_aload_n F 6 dL_law_1740 rfl rfl ?_
    refine w_iconst F dL_law_1741 (v := 0) (by decide) ?_
    refine w_lald F dL_law_1742 (rfl : kd 23 = 12) (by decide) ?_
    refine w_iload F 0 dL_law_1743 rfl ?_
    refine w_i2l F dL_law_1745 ?_
    refine w_lcmp F dL_law_1746 ?_
    refine w_if_eq (tgt := 1752) F dL_law_1747 (by decide) (lcmp0 (hq h0)) ?_
    refine w_goto (tgt := 1978) F dL_law_1752 (by decide) ?_
    exact w_sub [2, 3, 4, 5, 6] rfl (K M3 hJ3)
  · skip
    refine w_goto (tgt := 1978) F dL_law_1752 (by decide) ?_
    exact w_sub [2, 3, 4, 5, 6] rfl (K M3 hJ3)
set_option maxRecDepth 100000 in
set_option maxHeartbeats 4000000 in
theorem q_L_26 {G : GM} {p : Program} {l : Launch} {e : Env} {s : State} {m : MethodId} {args : Array Value} {below : List Frame} {meth : Method} {c : Code} {ret : Option FieldType} {u9 w9 : Nat} {Q : State → Prop} {b L : Nat} {xs : Nat → Int32} {i : Int32} {M : Mem} (F : Fy G p l s m args meth c cL_law RL 9 ret) (S : Sx G b L xs s) (hin : ∀ j : Nat, j < 5 → vp_in (i + nI j) L) (hJ : Jt M) (hu : u9 + 1 ≤ 601024 ∧ w9 + 6 ≤ 7293034) (K : ∀ M', Jt M' → Rw G p l e room_1 s m args below meth c 9 (u9 + 1) (w9 + 6) Q 1978 [(4, .int i), (0, .ref b), (1, .ref (gA G 0)), (2, .ref (gA G 24)), (3, .ref (gA G 23))] [] M') : Rw G p l e room_1 s m args below meth c 9 u9 w9 Q 1755 [(4, .int i), (0, .ref b), (1, .ref (gA G 0)), (2, .ref (gA G 24)), (3, .ref (gA G 23))] [] M := by
  obtain ⟨r, M1, c9, M2, v, M3, hc, hw, hm, hJ3, hc9, hq⟩ := (o_bestDrum hJ (xs (i + nI 1).toNatClampNeg)).go (by decide)
  refine w_aload_n F 2 dL_law_1755 rfl rfl ?_
  refine w_aload_n F 1 dL_law_1756 rfl rfl ?_
  refine w_iload F 0 dL_law_1757 rfl ?_
  refine w_iconst F dL_law_1759 (v := nI 1) (by decide) ?_
  refine w_iadd F dL_law_1760 ?_
  refine w_sld F S (hin 1 (by decide)) dL_law_1761 ?_
  refine w_aload_n F 4 dL_law_1762 rfl rfl ?_
  refine w_cSW (n := 3) (As := [.ref (gA G 0), .int (xs (i + nI 1).toNatClampNeg), .ref (gA G 23)]) (rest := []) F (m_L_bestDrum F.st F.gg (xs (i + nI 1).toNatClampNeg) hc hw) dL_law_1763 ml_L_193 sc_L_bestDrum ini_L cw_L_bestDrum ⟨by decide, by decide, by decide +kernel⟩ rfl ⟨rfl, rfl⟩ ⟨by decide, by decide⟩ hu rfl (Nat.le_of_ble_eq_true rfl) ?_
  refine w_istore (ls' := [(5, .int c9), (4, .int i), (0, .ref b), (1, .ref (gA G 0)), (2, .ref (gA G 24)), (3, .ref (gA G 23))]) F dL_law_1766 (by decide) rfl ?_
  refine w_aload_n F 4 dL_law_1768 rfl rfl ?_
  refine w_aload_n F 2 dL_law_1769 rfl rfl ?_
  refine w_iload F 1 dL_law_1770 rfl ?_
  refine w_iconst F dL_law_1772 (v := nI 1) (by decide) ?_
  refine w_iadd F dL_law_1773 ?_
  refine w_sld F S (hin 1 (by decide)) dL_law_1774 ?_
  refine w_cV (v := some (.int v)) (As := [.int (xs (i + nI 1).toNatClampNeg)]) (rest := []) F (c_X7_bestDrum F.st F.gg (xs (i + nI 1).toNatClampNeg) M2 _ hm) dL_law_1775 ml_L_195 yv_X7_bestDrum (rfl : kd 24 = 7) (by decide) rfl rfl ⟨by decide, by decide⟩ hu rfl (Nat.le_of_ble_eq_true rfl) ?_
  refine w_istore (ls' := [(6, .int v), (5, .int c9), (4, .int i), (0, .ref b), (1, .ref (gA G 0)), (2, .ref (gA G 24)), (3, .ref (gA G 23))]) F dL_law_1778 (by decide) rfl ?_
  refine w_aload_n F 5 dL_law_1780 rfl rfl ?_
  refine w_cV (v := some (.int (M3.1 24 2))) (As := []) (rest := []) F (c_X7_thrown F.st F.gg M3 _ th_ok) dL_law_1781 ml_L_108 yv_X7_thrown (rfl : kd 24 = 7) (by decide) rfl rfl ⟨by decide, by decide⟩ hu rfl (Nat.le_of_ble_eq_true rfl) ?_
  refine w_iload F 1 dL_law_1784 rfl ?_
  refine w_icmp_eq (tgt := 1791) F dL_law_1786 (by decide) hc9 ?_
  refine w_iload F 1 dL_law_1791 rfl ?_
  refine w_if_ne (tgt := 1808) F dL_law_1793 (by decide) (fun h0 => ?_) (fun h0 => ?_)
  · skip
    refine w_aload_n F 6 dL_law_1796 rfl rfl ?_
    refine w_iconst F dL_law_1797 (v := 0) (by decide) ?_
    refine w_lald F dL_law_1798 (rfl : kd 23 = 12) (by decide) ?_
    refine w_iload F 0 dL_law_1799 rfl ?_
    refine w_i2l F dL_law_1801 ?_
    refine w_lcmp F dL_law_1802 ?_
    refine w_if_eq (tgt := 1808) F dL_law_1803 (by decide) (lcmp0 (hq h0)) ?_
    refine w_goto (tgt := 1978) F dL_law_1808 (by decide) ?_
    exact w_sub [2, 3, 4, 5, 6] rfl (K M3 hJ3)
  · skip
    refine w_goto (tgt := 1978) F dL_law_1808 (by decide) ?_
    exact w_sub [2, 3, 4, 5, 6] rfl (K M3 hJ3)
set_option maxRecDepth 100000 in
set_option maxHeartbeats 4000000 in
theorem q_L_27 {G : GM} {p : Program} {l : Launch} {e : Env} {s : State} {m : MethodId} {args : Array Value} {below : List Frame} {meth : Method} {c : Code} {ret : Option FieldType} {u9 w9 : Nat} {Q : State → Prop} {b L : Nat} {xs : Nat → Int32} {i : Int32} {M : Mem} (F : Fy G p l s m args meth c cL_law RL 9 ret) (S : Sx G b L xs s) (hin : ∀ j : Nat, j < 5 → vp_in (i + nI j) L) (hJ : Jt M) (hu : u9 + 1 ≤ 601024 ∧ w9 + 6 ≤ 7293034) (K : ∀ M', Jt M' → Rw G p l e room_1 s m args below meth c 9 (u9 + 1) (w9 + 6) Q 1978 [(4, .int i), (0, .ref b), (1, .ref (gA G 0)), (2, .ref (gA G 24)), (3, .ref (gA G 23))] [] M') : Rw G p l e room_1 s m args below meth c 9 u9 w9 Q 1811 [(4, .int i), (0, .ref b), (1, .ref (gA G 0)), (2, .ref (gA G 24)), (3, .ref (gA G 23))] [] M := by
  obtain ⟨r, M1, c9, M2, v, M3, hc, hw, hm, hJ3, hc9, hq⟩ := (o_bestTrades hJ (xs (i + nI 1).toNatClampNeg)).go (by decide)
  refine w_aload_n F 2 dL_law_1811 rfl rfl ?_
  refine w_aload_n F 1 dL_law_1812 rfl rfl ?_
  refine w_iload F 0 dL_law_1813 rfl ?_
  refine w_iconst F dL_law_1815 (v := nI 1) (by decide) ?_
  refine w_iadd F dL_law_1816 ?_
  refine w_sld F S (hin 1 (by decide)) dL_law_1817 ?_
  refine w_aload_n F 4 dL_law_1818 rfl rfl ?_
  refine w_cSW (n := 3) (As := [.ref (gA G 0), .int (xs (i + nI 1).toNatClampNeg), .ref (gA G 23)]) (rest := []) F (m_L_bestTrades F.st F.gg (xs (i + nI 1).toNatClampNeg) hc hw) dL_law_1819 ml_L_196 sc_L_bestTrades ini_L cw_L_bestTrades ⟨by decide, by decide, by decide +kernel⟩ rfl ⟨rfl, rfl⟩ ⟨by decide, by decide⟩ hu rfl (Nat.le_of_ble_eq_true rfl) ?_
  refine w_istore (ls' := [(5, .int c9), (4, .int i), (0, .ref b), (1, .ref (gA G 0)), (2, .ref (gA G 24)), (3, .ref (gA G 23))]) F dL_law_1822 (by decide) rfl ?_
  refine w_aload_n F 4 dL_law_1824 rfl rfl ?_
  refine w_aload_n F 2 dL_law_1825 rfl rfl ?_
  refine w_iload F 1 dL_law_1826 rfl ?_
  refine w_iconst F dL_law_1828 (v := nI 1) (by decide) ?_
  refine w_iadd F dL_law_1829 ?_
  refine w_sld F S (hin 1 (by decide)) dL_law_1830 ?_
  refine w_cV (v := some (.int v)) (As := [.int (xs (i + nI 1).toNatClampNeg)]) (rest := []) F (c_X7_bestTrades F.st F.gg (xs (i + nI 1).toNatClampNeg) M2 _ hm) dL_law_1831 ml_L_198 yv_X7_bestTrades (rfl : kd 24 = 7) (by decide) rfl rfl ⟨by decide, by decide⟩ hu rfl (Nat.le_of_ble_eq_true rfl) ?_
  refine w_istore (ls' := [(6, .int v), (5, .int c9), (4, .int i), (0, .ref b), (1, .ref (gA G 0)), (2, .ref (gA G 24)), (3, .ref (gA G 23))]) F dL_law_1834 (by decide) rfl ?_
  refine w_aload_n F 5 dL_law_1836 rfl rfl ?_
  refine w_cV (v := some (.int (M3.1 24 2))) (As := []) (rest := []) F (c_X7_thrown F.st F.gg M3 _ th_ok) dL_law_1837 ml_L_108 yv_X7_thrown (rfl : kd 24 = 7) (by decide) rfl rfl ⟨by decide, by decide⟩ hu rfl (Nat.le_of_ble_eq_true rfl) ?_
  refine w_iload F 1 dL_law_1840 rfl ?_
  refine w_icmp_eq (tgt := 1847) F dL_law_1842 (by decide) hc9 ?_
  refine w_iload F 1 dL_law_1847 rfl ?_
  refine w_if_ne (tgt := 1864) F dL_law_1849 (by decide) (fun h0 => ?_) (fun h0 => ?_)
  · skip
    refine w_aload_n F 6 dL_law_1852 rfl rfl ?_
    refine w_iconst F dL_law_1853 (v := 0) (by decide) ?_
    refine w_lald F dL_law_1854 (rfl : kd 23 = 12) (by decide) ?_
    refine w_iload F 0 dL_law_1855 rfl ?_
    refine w_i2l F dL_law_1857 ?_
    refine w_lcmp F dL_law_1858 ?_
    refine w_if_eq (tgt := 1864) F dL_law_1859 (by decide) (lcmp0 (hq h0)) ?_
    refine w_goto (tgt := 1978) F dL_law_1864 (by decide) ?_
    exact w_sub [2, 3, 4, 5, 6] rfl (K M3 hJ3)
  · skip
    refine w_goto (tgt := 1978) F dL_law_1864 (by decide) ?_
    exact w_sub [2, 3, 4, 5, 6] rfl (K M3 hJ3)
set_option maxRecDepth 100000 in
set_option maxHeartbeats 4000000 in
theorem q_L_28 {G : GM} {p : Program} {l : Launch} {e : Env} {s : State} {m : MethodId} {args : Array Value} {below : List Frame} {meth : Method} {c : Code} {ret : Option FieldType} {u9 w9 : Nat} {Q : State → Prop} {b L : Nat} {xs : Nat → Int32} {i : Int32} {M : Mem} (F : Fy G p l s m args meth c cL_law RL 9 ret) (S : Sx G b L xs s) (hin : ∀ j : Nat, j < 5 → vp_in (i + nI j) L) (hJ : Jt M) (hu : u9 + 1 ≤ 601024 ∧ w9 + 6 ≤ 7293034) (K : ∀ M', Jt M' → Rw G p l e room_1 s m args below meth c 9 (u9 + 1) (w9 + 6) Q 1978 [(4, .int i), (0, .ref b), (1, .ref (gA G 0)), (2, .ref (gA G 24)), (3, .ref (gA G 23))] [] M') : Rw G p l e room_1 s m args below meth c 9 u9 w9 Q 1867 [(4, .int i), (0, .ref b), (1, .ref (gA G 0)), (2, .ref (gA G 24)), (3, .ref (gA G 23))] [] M := by
  obtain ⟨r, M1, c9, M2, v, M3, hc, hw, hm, hJ3, hc9, hq⟩ := (o_ring hJ (xs (i + nI 1).toNatClampNeg)).go (by decide)
  refine w_aload_n F 2 dL_law_1867 rfl rfl ?_
  refine w_aload_n F 1 dL_law_1868 rfl rfl ?_
  refine w_iload F 0 dL_law_1869 rfl ?_
  refine w_iconst F dL_law_1871 (v := nI 1) (by decide) ?_
  refine w_iadd F dL_law_1872 ?_
  refine w_sld F S (hin 1 (by decide)) dL_law_1873 ?_
  refine w_aload_n F 4 dL_law_1874 rfl rfl ?_
  refine w_cSW (n := 3) (As := [.ref (gA G 0), .int (xs (i + nI 1).toNatClampNeg), .ref (gA G 23)]) (rest := []) F (m_L_ring F.st F.gg (xs (i + nI 1).toNatClampNeg) hc hw) dL_law_1875 ml_L_199 sc_L_ring ini_L cw_L_ring ⟨by decide, by decide, by decide +kernel⟩ rfl ⟨rfl, rfl⟩ ⟨by decide, by decide⟩ hu rfl (Nat.le_of_ble_eq_true rfl) ?_
  refine w_istore (ls' := [(5, .int c9), (4, .int i), (0, .ref b), (1, .ref (gA G 0)), (2, .ref (gA G 24)), (3, .ref (gA G 23))]) F dL_law_1878 (by decide) rfl ?_
  refine w_aload_n F 4 dL_law_1880 rfl rfl ?_
  refine w_aload_n F 2 dL_law_1881 rfl rfl ?_
  refine w_iload F 1 dL_law_1882 rfl ?_
  refine w_iconst F dL_law_1884 (v := nI 1) (by decide) ?_
  refine w_iadd F dL_law_1885 ?_
  refine w_sld F S (hin 1 (by decide)) dL_law_1886 ?_
  refine w_cV (v := some (.int v)) (As := [.int (xs (i + nI 1).toNatClampNeg)]) (rest := []) F (c_X7_ring F.st F.gg (xs (i + nI 1).toNatClampNeg) M2 _ hm) dL_law_1887 ml_L_201 yv_X7_ring (rfl : kd 24 = 7) (by decide) rfl rfl ⟨by decide, by decide⟩ hu rfl (Nat.le_of_ble_eq_true rfl) ?_
  refine w_istore (ls' := [(6, .int v), (5, .int c9), (4, .int i), (0, .ref b), (1, .ref (gA G 0)), (2, .ref (gA G 24)), (3, .ref (gA G 23))]) F dL_law_1890 (by decide) rfl ?_
  refine w_aload_n F 5 dL_law_1892 rfl rfl ?_
  refine w_cV (v := some (.int (M3.1 24 2))) (As := []) (rest := []) F (c_X7_thrown F.st F.gg M3 _ th_ok) dL_law_1893 ml_L_108 yv_X7_thrown (rfl : kd 24 = 7) (by decide) rfl rfl ⟨by decide, by decide⟩ hu rfl (Nat.le_of_ble_eq_true rfl) ?_
  refine w_iload F 1 dL_law_1896 rfl ?_
  refine w_icmp_eq (tgt := 1903) F dL_law_1898 (by decide) hc9 ?_
  refine w_iload F 1 dL_law_1903 rfl ?_
  refine w_if_ne (tgt := 1920) F dL_law_1905 (by decide) (fun h0 => ?_) (fun h0 => ?_)
  · skip
    refine w_aload_n F 6 dL_law_1908 rfl rfl ?_
    refine w_iconst F dL_law_1909 (v := 0) (by decide) ?_
    refine w_lald F dL_law_1910 (rfl : kd 23 = 12) (by decide) ?_
    refine w_iload F 0 dL_law_1911 rfl ?_
    refine w_i2l F dL_law_1913 ?_
    refine w_lcmp F dL_law_1914 ?_
    refine w_if_eq (tgt := 1920) F dL_law_1915 (by decide) (lcmp0 (hq h0)) ?_
    refine w_goto (tgt := 1978) F dL_law_1920 (by decide) ?_
    exact w_sub [2, 3, 4, 5, 6] rfl (K M3 hJ3)
  · skip
    refine w_goto (tgt := 1978) F dL_law_1920 (by decide) ?_
    exact w_sub [2, 3, 4, 5, 6] rfl (K M3 hJ3)
set_option maxRecDepth 100000 in
set_option maxHeartbeats 4000000 in
theorem q_L_29 {G : GM} {p : Program} {l : Launch} {e : Env} {s : State} {m : MethodId} {args : Array Value} {below : List Frame} {meth : Method} {c : Code} {ret : Option FieldType} {u9 w9 : Nat} {Q : State → Prop} {b L : Nat} {xs : Nat → Int32} {i : Int32} {M : Mem} (F : Fy G p l s m args meth c cL_law RL 9 ret) (S : Sx G b L xs s) (hin : ∀ j : Nat, j < 5 → vp_in (i + nI j) L) (hJ : Jt M) (hu : u9 + 1 ≤ 601024 ∧ w9 + 6 ≤ 7293034) (K : ∀ M', Jt M' → Rw G p l e room_1 s m args below meth c 9 (u9 + 1) (w9 + 6) Q 1978 [(4, .int i), (0, .ref b), (1, .ref (gA G 0)), (2, .ref (gA G 24)), (3, .ref (gA G 23))] [] M') : Rw G p l e room_1 s m args below meth c 9 u9 w9 Q 1923 [(4, .int i), (0, .ref b), (1, .ref (gA G 0)), (2, .ref (gA G 24)), (3, .ref (gA G 23))] [] M := by
  obtain ⟨D, M1, hD, hc, hm⟩ := o_tuneShare hJ
  obtain ⟨M2, hm, hJ2⟩ := hm M1 rfl
  refine w_aload_n F 2 dL_law_1923 rfl rfl ?_
  refine w_cV (v := some (.double D)) (As := []) (rest := []) F (c_X6_tuneShare F.st F.gg M _ hc) dL_law_1924 ml_L_202 yv_X6_tuneShare (rfl : kd 0 = 0) (by decide) rfl rfl ⟨by decide, by decide⟩ ⟨Nat.le_of_succ_le hu.1, Nat.le_trans (Nat.le_add_right _ _) hu.2⟩ rfl (Nat.le_of_ble_eq_true rfl) ?_
  refine w_dstore (ls' := [(5, .double D), (4, .int i), (0, .ref b), (1, .ref (gA G 0)), (2, .ref (gA G 24)), (3, .ref (gA G 23))]) F dL_law_1927 (by decide) rfl ?_
  refine w_aload_n F 4 dL_law_1929 rfl rfl ?_
  refine w_cV (v := some (.double D)) (As := []) (rest := []) F (c_X7_tuneShare F.st F.gg M1 _ hm) dL_law_1930 ml_L_206 yv_X7_tuneShare (rfl : kd 24 = 7) (by decide) rfl rfl ⟨by decide, by decide⟩ ⟨Nat.le_of_succ_le hu.1, Nat.le_trans (Nat.le_add_right _ _) hu.2⟩ rfl (Nat.le_of_ble_eq_true rfl) ?_
  refine w_dstore (ls' := [(7, .double D), (5, .double D), (4, .int i), (0, .ref b), (1, .ref (gA G 0)), (2, .ref (gA G 24)), (3, .ref (gA G 23))]) F dL_law_1933 (by decide) rfl ?_
  refine w_dload F 1 dL_law_1935 rfl ?_
  refine w_dload F 0 dL_law_1937 rfl ?_
  refine w_dcmp F dL_law_1939 ?_
  refine w_if_eq (tgt := 1961) F dL_law_1940 (by decide) (dcmp0 hD) ?_
  refine w_goto (tgt := 1978) F dL_law_1961 (by decide) ?_
  exact w_wide (u2 := u9 + 1) (w2 := w9 + 6) (Nat.le_add_right _ _) (Nat.le_add_right _ _) (w_sub [2, 3, 4, 5, 6] rfl (K M2 hJ2))
set_option maxRecDepth 100000 in
set_option maxHeartbeats 4000000 in
theorem q_L_30 {G : GM} {p : Program} {l : Launch} {e : Env} {s : State} {m : MethodId} {args : Array Value} {below : List Frame} {meth : Method} {c : Code} {ret : Option FieldType} {u9 w9 : Nat} {Q : State → Prop} {b L : Nat} {xs : Nat → Int32} {i : Int32} {M : Mem} (F : Fy G p l s m args meth c cL_law RL 9 ret) (S : Sx G b L xs s) (hin : ∀ j : Nat, j < 5 → vp_in (i + nI j) L) (hJ : Jt M) (hu : u9 + 1 ≤ 601024 ∧ w9 + 6 ≤ 7293034) (K : ∀ M', Jt M' → Rw G p l e room_1 s m args below meth c 9 (u9 + 1) (w9 + 6) Q 1978 [(4, .int i), (0, .ref b), (1, .ref (gA G 0)), (2, .ref (gA G 24)), (3, .ref (gA G 23))] [] M') : Rw G p l e room_1 s m args below meth c 9 u9 w9 Q 1964 [(4, .int i), (0, .ref b), (1, .ref (gA G 0)), (2, .ref (gA G 24)), (3, .ref (gA G 23))] [] M := by
  obtain ⟨v, M1, hc, hm⟩ := o_digest hJ
  obtain ⟨M2, hm, hJ2⟩ := hm M1 rfl
  refine w_aload_n F 2 dL_law_1964 rfl rfl ?_
  refine w_cV (v := some (.long v)) (As := []) (rest := []) F (c_X6_digest F.st F.gg M _ hc) dL_law_1965 ml_L_207 yv_X6_digest (rfl : kd 0 = 0) (by decide) rfl rfl ⟨by decide, by decide⟩ ⟨Nat.le_of_succ_le hu.1, Nat.le_trans (Nat.le_add_right _ _) hu.2⟩ rfl (Nat.le_of_ble_eq_true rfl) ?_
  refine w_aload_n F 3 dL_law_1968 rfl rfl ?_
  refine w_cV (v := some (.long v)) (As := []) (rest := [.long v]) F (c_X7_digest F.st F.gg M1 _ hm) dL_law_1969 ml_L_211 yv_X7_digest (rfl : kd 24 = 7) (by decide) rfl rfl ⟨by decide, by decide⟩ ⟨Nat.le_of_succ_le hu.1, Nat.le_trans (Nat.le_add_right _ _) hu.2⟩ rfl (Nat.le_of_ble_eq_true rfl) ?_
  refine w_lcmp F dL_law_1972 ?_
  refine w_if_eq (tgt := 1978) F dL_law_1973 (by decide) (lcmp0 rfl) ?_
  exact w_wide (u2 := u9 + 1) (w2 := w9 + 6) (Nat.le_add_right _ _) (Nat.le_add_right _ _) (w_sub [0, 1, 2, 3, 4] rfl (K M2 hJ2))
