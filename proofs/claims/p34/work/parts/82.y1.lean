/-! ===== the class alone: debts, drums, undo ===== -/
section YZ
variable {M : Mem} {F : Nat → Int32} {k n l : Nat} {Sv : Nat → Nat → Int32} {B : Nat → Int32}
theorem y_lend (hX : JX M F n Sv l B) (hS : SI F k) (a b c : Int32) : Yo [exI, exA, exS] (f_X6_lend a b c) M F k n Sv l B (fun v F' => ∃ t u, t < k ∧ u < k ∧ t ≠ u ∧ ¬ (c < nI 1 ∨ nI 200 < c) ∧ goes F t u c ∧ F' = lendF F t u c ∧ v = F (366 + 6 * u + t) + c) := by
  have hk := hS.1
  have hF := hX.1.1
  rcases inb_cs a (show k < 2 ^ 31 by omega) with ha | ⟨t, ht, rfl⟩
  · refine Or.inl ⟨exI, List.mem_cons_self, ?_⟩
    unfold f_X6_lend
    rw [x_ct0 hF hS ha, bt_x]
  have h6 : t < 6 := by omega
  rcases inb_cs b (show k < 2 ^ 31 by omega) with hb | ⟨u, hu, rfl⟩
  · refine Or.inl ⟨exI, List.mem_cons_self, ?_⟩
    unfold f_X6_lend
    rw [x_ct1 hF hS ht, bt_s, x_ct0 hF hS hb, bt_x]
  have hu6 : u < 6 := by omega
  by_cases e : t = u
  · subst e
    refine Or.inl ⟨exA, by simp, ?_⟩
    unfold f_X6_lend
    rw [x_ct1 hF hS ht, bt_s, x_ct1 hF hS ht, bt_s, x_cd0, bt_x]
  by_cases g : c < nI 1 ∨ nI 200 < c
  · refine Or.inl ⟨exA, by simp, ?_⟩
    unfold f_X6_lend
    rw [x_ct1 hF hS ht, bt_s, x_ct1 hF hS hu, bt_s, x_cd1 e h6 hu6, bt_s, x_cg0 g, bt_x]
  by_cases z : goes F t u c
  · have s1 := hS.car h6 hu6 c
    have s2 : SI (lendF F t u c) k := (s1.up (by omega) (by omega) (by omega) (fun _ _ => ⟨u, t, hu, ht, fun q => e q.symm, rfl⟩)).up (by omega) (by omega) (by omega) (by omega)
    obtain ⟨M1, e1, x1, a1⟩ := hX.save
    obtain ⟨M2, e2, x2, a2⟩ := x1.car h6 hu6 e c
    have x3 := (x2.w (F (366 + 6 * u + t) + c) (366 + 6 * u + t) (by omega) (lc_debt hu6 h6).1 (lc_debt hu6 h6).2).w (c := 34) (s := 4) (F 424 + c) 424 (by omega) rfl rfl
    have d1 : M2.1 (rc 34 u) t = F (366 + 6 * u + t) := (x2.1.1.debt hu6 h6).trans (carF_o h6 hu6 (by omega))
    have d2 : M2.1 34 4 = F 424 := x2.1.1.lent.trans (carF_o h6 hu6 (by omega))
    have hr : rc 34 u ≠ 34 := by unfold rc; omega
    refine Or.inr ⟨F (366 + 6 * u + t) + c, lendF F t u c, _, ?_, x3, s2, t, u, ht, hu, e, g, z, rfl, rfl⟩
    unfold f_X6_lend
    rw [x_ct1 hF hS ht, bt_s, x_ct1 hF hS hu, bt_s, x_cd1 e h6 hu6, bt_s, x_cg1 g, bt_s, x_cb1 hF h6 hu6 z, bt_s, e1, bn_s, e2, bn_s]
    simp (disch := omega) only [bnd_e, chk_tt, bn_s, bt_s, bt_x, inb_n, nI_clamp, le_t, le_f, lt_t, lt_f, eq_f, nI_add, pk_mul, ne_eq, not_true_eq_false, not_false_eq_true, ↓reduceIte, L0_, L1_, L2_, L3_, L4_, L5_, L6_, L7_, L8_, L9_, L10_, L11_, L12_, L13_, L14_, L15_, L16_, L20_, L22_, L23_, L24_, L25_, L30_, L31_, L32_, L33_, L36_, L40_, L41_, L45_, L48_, L60_, L63_, L64_, L97_, L100_, L107_, L108_, L126_, L150_, L200_, L294_, L366_, L402_, L408_, L414_, L420_, L421_, L422_, L423_, L424_, L425_, L426_, L427_, L428_, L999_, L2568_, L2996_, rw_37, d1, mwn, d2, mw_eq]
  · refine Or.inl ⟨exS, by simp, ?_⟩
    unfold f_X6_lend
    rw [x_ct1 hF hS ht, bt_s, x_ct1 hF hS hu, bt_s, x_cd1 e h6 hu6, bt_s, x_cg1 g, bt_s, x_cb0 hF h6 hu6 z, bt_x]
theorem y_repay (hX : JX M F n Sv l B) (hS : SI F k) (a b c : Int32) : Yo [exI, exA, exS] (f_X6_repay a b c) M F k n Sv l B (fun v F' => ∃ t u, t < k ∧ u < k ∧ t ≠ u ∧ ¬ (c < nI 1 ∨ nI 200 < c) ∧ c ≤ F (366 + 6 * t + u) ∧ goes F t u c ∧ F' = repF F t u c ∧ v = F (366 + 6 * t + u) - c) := by
  have hk := hS.1
  have hF := hX.1.1
  rcases inb_cs a (show k < 2 ^ 31 by omega) with ha | ⟨t, ht, rfl⟩
  · refine Or.inl ⟨exI, List.mem_cons_self, ?_⟩
    unfold f_X6_repay
    rw [x_ct0 hF hS ha, bt_x]
  have h6 : t < 6 := by omega
  rcases inb_cs b (show k < 2 ^ 31 by omega) with hb | ⟨u, hu, rfl⟩
  · refine Or.inl ⟨exI, List.mem_cons_self, ?_⟩
    unfold f_X6_repay
    rw [x_ct1 hF hS ht, bt_s, x_ct0 hF hS hb, bt_x]
  have hu6 : u < 6 := by omega
  by_cases e : t = u
  · subst e
    refine Or.inl ⟨exA, by simp, ?_⟩
    unfold f_X6_repay
    rw [x_ct1 hF hS ht, bt_s, x_ct1 hF hS ht, bt_s, x_cd0, bt_x]
  by_cases g : c < nI 1 ∨ nI 200 < c
  · refine Or.inl ⟨exA, by simp, ?_⟩
    unfold f_X6_repay
    rw [x_ct1 hF hS ht, bt_s, x_ct1 hF hS hu, bt_s, x_cd1 e h6 hu6, bt_s, x_cg0 g, bt_x]
  by_cases z : c ≤ F (366 + 6 * t + u) ∧ goes F t u c
  · have s1 := hS.car h6 hu6 c
    have s2 : SI (repF F t u c) k := (s1.up (by omega) (by omega) (by omega) (fun _ _ => ⟨t, u, ht, hu, e, rfl⟩)).up (by omega) (by omega) (by omega) (by omega)
    obtain ⟨M1, e1, x1, a1⟩ := hX.save
    obtain ⟨M2, e2, x2, a2⟩ := x1.car h6 hu6 e c
    have x3 := (x2.w (F (366 + 6 * t + u) - c) (366 + 6 * t + u) (by omega) (lc_debt h6 hu6).1 (lc_debt h6 hu6).2).w (c := 34) (s := 5) (F 425 + c) 425 (by omega) rfl rfl
    have d1 : M2.1 (rc 34 t) u = F (366 + 6 * t + u) := (x2.1.1.debt h6 hu6).trans (carF_o h6 hu6 (by omega))
    have d2 : M2.1 34 5 = F 425 := x2.1.1.repd.trans (carF_o h6 hu6 (by omega))
    have d0 := hF.debt h6 hu6
    have hr : rc 34 t ≠ 34 := by unfold rc; omega
    refine Or.inr ⟨F (366 + 6 * t + u) - c, repF F t u c, _, ?_, x3, s2, t, u, ht, hu, e, g, z.1, z.2, rfl, rfl⟩
    unfold f_X6_repay
    rw [x_ct1 hF hS ht, bt_s, x_ct1 hF hS hu, bt_s, x_cd1 e h6 hu6, bt_s, x_cg1 g, bt_s]
    simp (disch := omega) only [bnd_e, chk_tt, bn_s, bt_s, bt_x, inb_n, nI_clamp, le_t, le_f, lt_t, lt_f, eq_f, nI_add, pk_mul, ne_eq, not_true_eq_false, not_false_eq_true, ↓reduceIte, L0_, L1_, L2_, L3_, L4_, L5_, L6_, L7_, L8_, L9_, L10_, L11_, L12_, L13_, L14_, L15_, L16_, L20_, L22_, L23_, L24_, L25_, L30_, L31_, L32_, L33_, L36_, L40_, L41_, L45_, L48_, L60_, L63_, L64_, L97_, L100_, L107_, L108_, L126_, L150_, L200_, L294_, L366_, L402_, L408_, L414_, L420_, L421_, L422_, L423_, L424_, L425_, L426_, L427_, L428_, L999_, L2568_, L2996_, rw_37, d0, z.1, x_cb1 hF h6 hu6 z.2, e1, e2, d1, mwn, d2, mw_eq]
  · refine Or.inl ⟨exS, by simp, ?_⟩
    have d0 := hF.debt h6 hu6
    unfold f_X6_repay
    rw [x_ct1 hF hS ht, bt_s, x_ct1 hF hS hu, bt_s, x_cd1 e h6 hu6, bt_s, x_cg1 g, bt_s]
    by_cases w : c ≤ F (366 + 6 * t + u)
    · rw [inb_n h6 (by omega), chk_tt, rw_37 (by omega), bnd_e, inb_n hu6 (by omega), chk_tt, nI_clamp (by omega), d0, if_pos w, x_cb0 hF h6 hu6 (fun e => z ⟨w, e⟩), bt_x]
    · rw [inb_n h6 (by omega), chk_tt, rw_37 (by omega), bnd_e, inb_n hu6 (by omega), chk_tt, nI_clamp (by omega), d0, if_neg w]
theorem y_trade1 (hX : JX M F n Sv l B) (hS : SI F k) {t u : Nat} (ht : t < k) (hu : u < k) (e : t ≠ u) : ∃ M1, f_X6_trade (nI t) (nI u) M = some (.inl (trV F t u), M1) ∧ JX M1 (trF F t u 24) (nx n) (pushS F n Sv) l B ∧ SI (trF F t u 24) k := by
  have hk := hS.1
  have hF := hX.1.1
  have h6 : t < 6 := by omega
  have hu6 : u < 6 := by omega
  obtain ⟨M1, e1, x1, a1⟩ := hX.save
  obtain ⟨M2, e2, x2, a2⟩ := x_trade43 hS h6 hu6 e 24 0 FU M1 rfl (by decide) (by rw [trF_0]; exact x1)
  refine ⟨M2, ?_, x2, hS.tr h6 hu6⟩
  unfold f_X6_trade
  rw [x_ct1 hF hS ht, bt_s, x_ct1 hF hS hu, bt_s, x_cd1 e h6 hu6, bt_s, e1, bn_s, inb_n h6 (by omega), chk_tt, tw_35 (by omega), bnd_e, inb_n hu6 (by omega), chk_tt, tw_35 (by omega), bnd_e]
  exact e2
theorem y_trade (hX : JX M F n Sv l B) (hS : SI F k) (a b : Int32) : Yo [exI, exA] (f_X6_trade a b) M F k n Sv l B (fun v F' => ∃ t u, t < k ∧ u < k ∧ t ≠ u ∧ F' = trF F t u 24 ∧ v = trV F t u) := by
  have hk := hS.1
  have hF := hX.1.1
  rcases inb_cs a (show k < 2 ^ 31 by omega) with ha | ⟨t, ht, rfl⟩
  · refine Or.inl ⟨exI, List.mem_cons_self, ?_⟩
    unfold f_X6_trade
    rw [x_ct0 hF hS ha, bt_x]
  rcases inb_cs b (show k < 2 ^ 31 by omega) with hb | ⟨u, hu, rfl⟩
  · refine Or.inl ⟨exI, List.mem_cons_self, ?_⟩
    unfold f_X6_trade
    rw [x_ct1 hF hS ht, bt_s, x_ct0 hF hS hb, bt_x]
  by_cases e : t = u
  · subst e
    refine Or.inl ⟨exA, by simp, ?_⟩
    unfold f_X6_trade
    rw [x_ct1 hF hS ht, bt_s, x_ct1 hF hS ht, bt_s, x_cd0, bt_x]
  obtain ⟨M1, e1, x1, s1⟩ := y_trade1 hX hS ht hu e
  exact Or.inr ⟨_, _, M1, e1, x1, s1, t, u, ht, hu, e, rfl, rfl⟩
theorem y_turn1 (hX : JX M F n Sv l B) (hS : SI F k) {t b : Nat} (ht : t < k) (hb : b < 24) : ∃ M1, f_X6_turn (nI t) (nI b) M = some (.inl (rightF (tuF F t b) t t 0), M1) ∧ JX M1 (tuF F t b) (nx n) (pushS F n Sv) l B ∧ SI (tuF F t b) k := by
  have hk := hS.1
  have hF := hX.1.1
  have h6 : t < 6 := by omega
  obtain ⟨M1, e1, x1, a1⟩ := hX.save
  obtain ⟨M2, e2, x2, a2⟩ := x_turn42 hS h6 hb 24 0 FU M1 rfl (by decide) x1 (fun s hs => by omega)
  refine ⟨M2, ?_, x2, hS.tu h6⟩
  unfold f_X6_turn
  rw [x_ct1 hF hS ht, bt_s, if_neg (nI_pos (by omega)), show ((24 : Int32)) = nI 24 from rfl, if_pos ((nI_ltI (by omega) (by omega)).mpr hb), e1, bn_s, inb_n h6 (by omega), chk_tt, tw_35 (by omega), bnd_e]
  exact e2
theorem y_turn0 (hX : JX M F n Sv l B) (hS : SI F k) {t : Nat} (ht : t < k) {b : Int32} (hb : inb b 24 = false) : f_X6_turn (nI t) b M = some (.inr exA, M) := by
  unfold f_X6_turn
  rw [x_ct1 hX.1.1 hS ht, bt_s]
  exact ckF hb (by omega)
theorem y_turn (hX : JX M F n Sv l B) (hS : SI F k) (a b : Int32) : Yo [exI, exA] (f_X6_turn a b) M F k n Sv l B (fun v F' => ∃ t u, t < k ∧ u < 24 ∧ F' = tuF F t u ∧ v = rightF F' t t 0) := by
  have hk := hS.1
  have hF := hX.1.1
  rcases inb_cs a (show k < 2 ^ 31 by omega) with ha | ⟨t, ht, rfl⟩
  · refine Or.inl ⟨exI, List.mem_cons_self, ?_⟩
    unfold f_X6_turn
    rw [x_ct0 hF hS ha, bt_x]
  rcases inb_cs b (show 24 < 2 ^ 31 by omega) with hb | ⟨u, hu, rfl⟩
  · exact Or.inl ⟨exA, by simp, y_turn0 hX hS ht hb⟩
  obtain ⟨M1, e1, x1, s1⟩ := y_turn1 hX hS ht hu
  exact Or.inr ⟨_, _, M1, e1, x1, s1, t, u, ht, hu, rfl, rfl⟩
theorem y_play1 (hX : JX M F n Sv l B) (hS : SI F k) {t : Nat} (ht : t < k) : ∃ M1, f_X6_play (nI t) M = some (.inl ((plF F t).2.2.2.2 0), M1) ∧ JX M1 (pyF F t (plF F t)) (nx n) (pushS F n Sv) l B ∧ SI (pyF F t (plF F t)) k := by
  have hk := hS.1
  have hF := hX.1.1
  have h6 : t < 6 := by omega
  obtain ⟨M1, e1, x1, a1⟩ := hX.save
  obtain ⟨M2, e2, x2, a2⟩ := x_foresee x1.1.1 hS h6
  obtain ⟨M3, e3, x3, v3, a3⟩ := x_takeOver (x1.q a2.xP) h6 x2
  refine ⟨M3, ?_, x3, hS.py h6 (plF_msk hS h6)⟩
  unfold f_X6_play
  rw [x_ct1 hF hS ht, bt_s]
  simp (disch := omega) only [bnd_e, chk_tt, bn_s, bt_s, bt_x, inb_n, nI_clamp, le_t, le_f, lt_t, lt_f, eq_f, nI_add, pk_mul, ne_eq, not_true_eq_false, not_false_eq_true, ↓reduceIte, L0_, L1_, L2_, L3_, L4_, L5_, L6_, L7_, L8_, L9_, L10_, L11_, L12_, L13_, L14_, L15_, L16_, L20_, L22_, L23_, L24_, L25_, L30_, L31_, L32_, L33_, L36_, L40_, L41_, L45_, L48_, L60_, L63_, L64_, L97_, L100_, L107_, L108_, L126_, L150_, L200_, L294_, L366_, L402_, L408_, L414_, L420_, L421_, L422_, L423_, L424_, L425_, L426_, L427_, L428_, L999_, L2568_, L2996_, e1, e2, tw_35, e3]
  rw [v3]
theorem y_settle (hX : JX M F n Sv l B) (hS : SI F k) : ∃ M1, f_X6_settle M = some (nI (stl k 31 0 F).1, M1) ∧ JX M1 (stl k 31 0 F).2 (nx n) (pushS F n Sv) l B ∧ SI (stl k 31 0 F).2 k := by
  have hp := pcn_30 F
  obtain ⟨M1, e1, x1, a1⟩ := hX.save
  obtain ⟨M2, e2, a2, r2⟩ := x_find hS x1.1.1
  obtain ⟨M3, e3, x3, a3⟩ := x_settle17 (k := k) 31 0 FU M2 F (by omega) (by omega) (by show 31 ≤ 100000; omega) hS (x1.q (aF_Q a2)) r2
  refine ⟨M3, ?_, x3, stl_SI 31 0 F hS⟩
  unfold f_X6_settle
  rw [e1, bn_s, e2, bn_s]
  exact e3
theorem y_undo (hX : JX M F n Sv l B) (hn0 : 0 < n) : ∃ M1, f_X6_undo M = some (.inl (nI (n - 1)), M1) ∧ JX M1 (Sv (n - 1)) (n - 1) Sv l B := by
  obtain ⟨hF, p, hp, hSv⟩ := hX.1
  have hn := hp.1
  have e0 : nI n - nI 1 = nI (n - 1) := pk_sub (by omega)
  have pj := hp.2.2.1 (n - 1) (by omega)
  have hX0 : JX (mw M 0 2 (nI (n - 1))) F (n - 1) Sv l B := by
    refine ⟨⟨fun i hi => ?_, p, ⟨by omega, by rw [mw_eq], fun j hj => by rw [mwn (by omega)]; exact hp.2.2.1 j hj, hp.2.2.2⟩, fun j hj i hi => ?_⟩, by rw [mwn (by omega)]; exact hX.2.1, fun i hi => by rw [mwn (by omega)]; exact hX.2.2 i hi⟩
    · rw [mwn (by omega)]; exact hF i hi
    · have := hp.2.2.1 j (by omega)
      rw [mwn (by omega)]; exact hSv j (by omega) i hi
  have hs : LR (mw M 0 2 (nI (n - 1))) (34 * p (n - 1)) (Sv (n - 1)) := fun i hi => by
    rw [mwn (by omega)]; exact hSv (n - 1) (by omega) i hi
  obtain ⟨M1, e1, a1, h1⟩ := x_tfL isL34 (isLp pj.2.1 pj.2.2) (by omega) hs
  have e2 : sv (mw M 0 2 (nI (n - 1))) 1 (nI (n - 1)) = 34 * p (n - 1) := by
    unfold sv
    rw [nI_clamp (by omega), mwn (by omega), pj.1, nI_clamp (by omega)]
  have e3 : M1.1 0 2 = nI (n - 1) := by rw [a1.2 _ _ (by omega), mw_eq]
  refine ⟨M1, ?_, hX0.set h1 (fun c i q => a1.2 c i (by omega))⟩
  unfold f_X6_undo
  rw [hp.2.1]
  simp (disch := omega) only [bnd_e, chk_tt, bn_s, bt_s, bt_x, inb_n, nI_clamp, le_t, le_f, lt_t, lt_f, eq_f, nI_add, pk_mul, ne_eq, not_true_eq_false, not_false_eq_true, ↓reduceIte, L0_, L1_, L2_, L3_, L4_, L5_, L6_, L7_, L8_, L9_, L10_, L11_, L12_, L13_, L14_, L15_, L16_, L20_, L22_, L23_, L24_, L25_, L30_, L31_, L32_, L33_, L36_, L40_, L41_, L45_, L48_, L60_, L63_, L64_, L97_, L100_, L107_, L108_, L126_, L150_, L200_, L294_, L366_, L402_, L408_, L414_, L420_, L421_, L422_, L423_, L424_, L425_, L426_, L427_, L428_, L999_, L2568_, L2996_, e0, mw_eq, e2, kbL (isLp pj.2.1 pj.2.2), e1, e3]
theorem JX.n6 (hX : JX M F n Sv l B) : n ≤ 6 := by
  obtain ⟨_, p, hp, _⟩ := hX.1
  exact hp.1
/-- undone what was just saved: the land from before -/
theorem y_undoP {M' : Mem} {F' : Nat → Int32} (h6 : n ≤ 6) (hX : JX M' F' (nx n) (pushS F n Sv) l B) : ∃ M1, f_X6_undo M' = some (.inl (nI (nx n - 1)), M1) ∧ JX M1 F (nx n - 1) (pushS F n Sv) l B := by
  have hb := nx_b h6
  obtain ⟨M1, e1, x1⟩ := y_undo hX (by omega)
  rw [push_l h6] at x1
  exact ⟨M1, e1, x1⟩
end YZ
