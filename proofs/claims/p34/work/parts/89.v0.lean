/-! ===== the questions, as the law asks them ===== -/
section QV
variable {M : Mem} {F : Nat → Int32} {k n l t : Nat} {Sv : Nat → Nat → Int32} {B : Nat → Int32}
theorem JX.nn (hX : JX M F n Sv l B) : M.1 0 2 = nI n := by
  obtain ⟨_, p, hp, _⟩ := hX.1
  exact hp.2.1
theorem q_t0 (hX : JX M F n Sv l B) (hS : SI F k) (ht : t < k) : f_X6_town (nI t) 0 M = some (.inl (F t), M) := x_townQ hX.1.1 hS ht (w := 0) (by omega)
theorem q_t1 (hX : JX M F n Sv l B) (hS : SI F k) (ht : t < k) : f_X6_town (nI t) 1 M = some (.inl (pinsF F 6 t), M) := x_townQ hX.1.1 hS ht (w := 1) (by omega)
theorem q_t2 (hX : JX M F n Sv l B) (hS : SI F k) (ht : t < k) : f_X6_town (nI t) 2 M = some (.inl (pinsF F 150 t), M) := x_townQ hX.1.1 hS ht (w := 2) (by omega)
theorem q_t3 (hX : JX M F n Sv l B) (hS : SI F k) (ht : t < k) : f_X6_town (nI t) 3 M = some (.inl (rightF F t t 0), M) := x_townQ hX.1.1 hS ht (w := 3) (by omega)
theorem q_t4 (hX : JX M F n Sv l B) (hS : SI F k) (ht : t < k) : f_X6_town (nI t) 4 M = some (.inl (pinsF F 6 t - rightF F t t 0), M) := x_townQ hX.1.1 hS ht (w := 4) (by omega)
theorem q_t5 (hX : JX M F n Sv l B) (hS : SI F k) (ht : t < k) : f_X6_town (nI t) 5 M = some (.inl (pinsF F 150 t - rightF F t t 0), M) := x_townQ hX.1.1 hS ht (w := 5) (by omega)
theorem q_t6 (hX : JX M F n Sv l B) (hS : SI F k) (ht : t < k) : f_X6_town (nI t) 6 M = some (.inl (owesF F t), M) := x_townQ hX.1.1 hS ht (w := 6) (by omega)
theorem q_t7 (hX : JX M F n Sv l B) (hS : SI F k) (ht : t < k) : f_X6_town (nI t) 7 M = some (.inl (owedF F t), M) := x_townQ hX.1.1 hS ht (w := 7) (by omega)
theorem q_t11 (hX : JX M F n Sv l B) (hS : SI F k) (ht : t < k) : f_X6_town (nI t) 11 M = some (.inl (dullF F t), M) := x_townQ hX.1.1 hS ht (w := 11) (by omega)
theorem q_c0 (hX : JX M F n Sv l B) (hS : SI F k) : f_X6_count 0 M = some (.inl (nI k), M) := x_countQ hX.1.1 hS hX.nn (w := 0) (by omega)
theorem q_c1 (hX : JX M F n Sv l B) (hS : SI F k) : f_X6_count 1 M = some (.inl (totF F k), M) := by
  rw [← totF_c (n := n)]
  exact x_countQ hX.1.1 hS hX.nn (w := 1) (by omega)
theorem q_c3 (hX : JX M F n Sv l B) (hS : SI F k) : f_X6_count 3 M = some (.inl (allD F k), M) := x_countQ hX.1.1 hS hX.nn (w := 3) (by omega)
theorem q_c7 (hX : JX M F n Sv l B) (hS : SI F k) : f_X6_count 7 M = some (.inl (F 426), M) := x_countQ hX.1.1 hS hX.nn (w := 7) (by omega)
theorem q_c8 (hX : JX M F n Sv l B) (hS : SI F k) : f_X6_count 8 M = some (.inl (F 427), M) := x_countQ hX.1.1 hS hX.nn (w := 8) (by omega)
theorem q_c9 (hX : JX M F n Sv l B) (hS : SI F k) : f_X6_count 9 M = some (.inl (sumTF F k 3), M) := x_countQ hX.1.1 hS hX.nn (w := 9) (by omega)
theorem q_c10 (hX : JX M F n Sv l B) (hS : SI F k) : f_X6_count 10 M = some (.inl (nI n), M) := x_countQ hX.1.1 hS hX.nn (w := 10) (by omega)
theorem q_if (hX : JX M F n Sv l B) (hS : SI F k) (ht : t < k) {w : Nat} (hw : w < 5) : ∃ M2, f_X6_ifPlayed (nI t) (nI w) M = some (.inl (ifF F t w), M2) ∧ JX M2 F n Sv l B := by
  have hk := hS.1
  obtain ⟨M2, e2, h2, a2⟩ := x_foresee hX.1.1 hS (show t < 6 by omega)
  refine ⟨M2, ?_, hX.q a2.xP⟩
  unfold f_X6_ifPlayed
  simp (disch := omega) only [bnd_e, chk_tt, bn_s, bt_s, bt_x, inb_n, nI_clamp, le_t, le_f, lt_t, lt_f, eq_f, nI_add, pk_mul, ne_eq, not_true_eq_false, not_false_eq_true, ↓reduceIte, L0_, L1_, L2_, L3_, L4_, L5_, L6_, L7_, L8_, L9_, L10_, L11_, L12_, L13_, L14_, L15_, L16_, L20_, L22_, L23_, L24_, L25_, L30_, L31_, L32_, L33_, L36_, L40_, L41_, L45_, L48_, L60_, L63_, L64_, L97_, L100_, L107_, L108_, L126_, L150_, L200_, L294_, L366_, L402_, L408_, L414_, L420_, L421_, L422_, L423_, L424_, L425_, L426_, L427_, L428_, L999_, L2568_, L2996_, x_ct1 hX.1.1 hS, e2, x_tell hw h2]
theorem q_if0 (hX : JX M F n Sv l B) (hS : SI F k) (ht : t < k) : ∃ M2, f_X6_ifPlayed (nI t) 0 M = some (.inl ((plF F t).2.2.2.2 0), M2) ∧ JX M2 F n Sv l B := q_if hX hS ht (w := 0) (by omega)
theorem q_if1 (hX : JX M F n Sv l B) (hS : SI F k) (ht : t < k) : ∃ M2, f_X6_ifPlayed (nI t) 1 M = some (.inl ((plF F t).2.2.2.2 2), M2) ∧ JX M2 F n Sv l B := q_if hX hS ht (w := 1) (by omega)
theorem q_if2 (hX : JX M F n Sv l B) (hS : SI F k) (ht : t < k) : ∃ M2, f_X6_ifPlayed (nI t) 2 M = some (.inl ((plF F t).2.2.2.2 3), M2) ∧ JX M2 F n Sv l B := q_if hX hS ht (w := 2) (by omega)
theorem q_if3 (hX : JX M F n Sv l B) (hS : SI F k) (ht : t < k) : ∃ M2, f_X6_ifPlayed (nI t) 3 M = some (.inl ((plF F t).2.2.2.2 1), M2) ∧ JX M2 F n Sv l B := q_if hX hS ht (w := 3) (by omega)
theorem q_if4 (hX : JX M F n Sv l B) (hS : SI F k) (ht : t < k) : ∃ M2, f_X6_ifPlayed (nI t) 4 M = some (.inl (dullW (plF F t).2.1 (F 421)), M2) ∧ JX M2 F n Sv l B := q_if hX hS ht (w := 4) (by omega)
theorem q_s0 (hX : JX M F n Sv l B) (hS : SI F k) (ht : t < k) {s : Nat} (hs : s < 24) : f_X6_step (nI t) (nI s) 0 M = some (.inl (F (6 + 24 * t + s)), M) := by
  have hk := hS.1
  have hF := hX.1.1
  unfold f_X6_step
  simp (disch := omega) only [bnd_e, chk_tt, bn_s, bt_s, bt_x, inb_n, nI_clamp, le_t, le_f, lt_t, lt_f, eq_f, nI_add, pk_mul, ne_eq, not_true_eq_false, not_false_eq_true, ↓reduceIte, L0_, L1_, L2_, L3_, L4_, L5_, L6_, L7_, L8_, L9_, L10_, L11_, L12_, L13_, L14_, L15_, L16_, L20_, L22_, L23_, L24_, L25_, L30_, L31_, L32_, L33_, L36_, L40_, L41_, L45_, L48_, L60_, L63_, L64_, L97_, L100_, L107_, L108_, L126_, L150_, L200_, L294_, L366_, L402_, L408_, L414_, L420_, L421_, L422_, L423_, L424_, L425_, L426_, L427_, L428_, L999_, L2568_, L2996_, x_ct1 hF hS, x_cs1, tw_35]
  rw [hF.drum (show t < 6 by omega) hs]
theorem q_s2 (hX : JX M F n Sv l B) (hS : SI F k) (ht : t < k) {s : Nat} (hs : s < 24) : ∃ M2, f_X6_step (nI t) (nI s) 2 M = some (.inl ((plF F t).2.2.2.1 s), M2) ∧ JX M2 F n Sv l B := by
  have hk := hS.1
  have hF := hX.1.1
  obtain ⟨M2, e2, h2, a2⟩ := x_foresee hF hS (show t < 6 by omega)
  refine ⟨M2, ?_, hX.q a2.xP⟩
  unfold f_X6_step
  simp (disch := omega) only [bnd_e, chk_tt, bn_s, bt_s, bt_x, inb_n, nI_clamp, le_t, le_f, lt_t, lt_f, eq_f, nI_add, pk_mul, ne_eq, not_true_eq_false, not_false_eq_true, ↓reduceIte, L0_, L1_, L2_, L3_, L4_, L5_, L6_, L7_, L8_, L9_, L10_, L11_, L12_, L13_, L14_, L15_, L16_, L20_, L22_, L23_, L24_, L25_, L30_, L31_, L32_, L33_, L36_, L40_, L41_, L45_, L48_, L60_, L63_, L64_, L97_, L100_, L107_, L108_, L126_, L150_, L200_, L294_, L366_, L402_, L408_, L414_, L420_, L421_, L422_, L423_, L424_, L425_, L426_, L427_, L428_, L999_, L2568_, L2996_, x_ct1 hF hS, x_cs1, tw_35, eq_f, e2]
  rw [h2.2.2.2.1 s hs]
theorem q_lasts (hX : JX M F n Sv l B) (hS : SI F k) (ht : t < k) : ∃ M2, f_X6_lastsFor (nI t) M = some (.inl (lastsF F t), M2) ∧ JX M2 F n Sv l B := by
  obtain ⟨M2, e2, a2⟩ := x_lasts hX.1.1 hS ht
  exact ⟨M2, e2, hX.q a2.xP⟩
theorem q_turn0 (hX : JX M F n Sv l B) (hS : SI F k) (ht : t < k) : f_X6_bestTurn (nI t) 0 M = some (.inl (turnF F t 0), M) := (x_turnQ hX.1.1 hS ht).1
theorem q_turn1 (hX : JX M F n Sv l B) (hS : SI F k) (ht : t < k) : f_X6_bestTurn (nI t) 1 M = some (.inl (turnF F t 1), M) := (x_turnQ hX.1.1 hS ht).2
theorem q_drum (hX : JX M F n Sv l B) (hS : SI F k) (ht : t < k) : f_X6_bestDrum (nI t) M = some (.inl (drumB F k t), M) := x_drumQ hX.1.1 hS ht
theorem q_trades (hX : JX M F n Sv l B) (hS : SI F k) : ∃ M2, f_X6_bestTrades 0 M = some (.inl (tdV F k 0), M2) ∧ JX M2 F n Sv l B := by
  obtain ⟨M1, e1, a1, r1⟩ := x_trades hS hX.1.1
  refine ⟨M1, ?_, hX.q (aT_Q a1)⟩
  have p1 : f_X6_bestTrades 0 M = f_X6_bestTrades_22 0 M := by
    unfold f_X6_bestTrades
    simp (disch := omega) only [bnd_e, chk_tt, bn_s, bt_s, bt_x, inb_n, nI_clamp, le_t, le_f, lt_t, lt_f, eq_f, nI_add, pk_mul, ne_eq, not_true_eq_false, not_false_eq_true, ↓reduceIte, L0_, L1_, L2_, L3_, L4_, L5_, L6_, L7_, L8_, L9_, L10_, L11_, L12_, L13_, L14_, L15_, L16_, L20_, L22_, L23_, L24_, L25_, L30_, L31_, L32_, L33_, L36_, L40_, L41_, L45_, L48_, L60_, L63_, L64_, L97_, L100_, L107_, L108_, L126_, L150_, L200_, L294_, L366_, L402_, L408_, L414_, L420_, L421_, L422_, L423_, L424_, L425_, L426_, L427_, L428_, L999_, L2568_, L2996_]
  rw [p1]
  unfold f_X6_bestTrades_22
  rw [e1, bn_s, show f_X4_tell 0 M1 = some (tdV F k 0, M1) from x_trtell hS.1 r1 (w := 0) (Or.inl rfl), bn_s]
theorem q_ring0 (hX : JX M F n Sv l B) (hS : SI F k) : ∃ M2, f_X6_ring 0 M = some (.inl (rgV F (rngF F k) 0), M2) ∧ JX M2 F n Sv l B := by
  obtain ⟨M1, e1, a1, r1⟩ := x_find hS hX.1.1
  refine ⟨M1, ?_, hX.q (aF_Q a1)⟩
  have p1 : f_X6_ring 0 M = f_X6_ring_27 0 M := by
    unfold f_X6_ring
    simp (disch := omega) only [bnd_e, chk_tt, bn_s, bt_s, bt_x, inb_n, nI_clamp, le_t, le_f, lt_t, lt_f, eq_f, nI_add, pk_mul, ne_eq, not_true_eq_false, not_false_eq_true, ↓reduceIte, L0_, L1_, L2_, L3_, L4_, L5_, L6_, L7_, L8_, L9_, L10_, L11_, L12_, L13_, L14_, L15_, L16_, L20_, L22_, L23_, L24_, L25_, L30_, L31_, L32_, L33_, L36_, L40_, L41_, L45_, L48_, L60_, L63_, L64_, L97_, L100_, L107_, L108_, L126_, L150_, L200_, L294_, L366_, L402_, L408_, L414_, L420_, L421_, L422_, L423_, L424_, L425_, L426_, L427_, L428_, L999_, L2568_, L2996_]
  rw [p1]
  unfold f_X6_ring_27
  rw [e1, bn_s, show f_X2_tell 0 M1 = some (rgV F (rngF F k) 0, M1) from x_rgtell hS.1 r1 (w := 0) (Or.inl (by omega)), bn_s]
theorem q_ring10 (hX : JX M F n Sv l B) (hS : SI F k) : ∃ M2, f_X6_ring 10 M = some (.inl (rgV F (rngF F k) 10), M2) ∧ JX M2 F n Sv l B := by
  obtain ⟨M1, e1, a1, r1⟩ := x_find hS hX.1.1
  refine ⟨M1, ?_, hX.q (aF_Q a1)⟩
  have p1 : f_X6_ring (nI (10 + 0)) M = f_X6_ring_27 (nI (10 + 0)) M := by
    unfold f_X6_ring
    simp (disch := omega) only [bnd_e, chk_tt, bn_s, bt_s, bt_x, inb_n, nI_clamp, le_t, le_f, lt_t, lt_f, eq_f, nI_add, pk_mul, ne_eq, not_true_eq_false, not_false_eq_true, ↓reduceIte, L0_, L1_, L2_, L3_, L4_, L5_, L6_, L7_, L8_, L9_, L10_, L11_, L12_, L13_, L14_, L15_, L16_, L20_, L22_, L23_, L24_, L25_, L30_, L31_, L32_, L33_, L36_, L40_, L41_, L45_, L48_, L60_, L63_, L64_, L97_, L100_, L107_, L108_, L126_, L150_, L200_, L294_, L366_, L402_, L408_, L414_, L420_, L421_, L422_, L423_, L424_, L425_, L426_, L427_, L428_, L999_, L2568_, L2996_, eq_f, x_pl1, n10]
  rw [show f_X6_ring 10 M = f_X6_ring_27 10 M from p1]
  unfold f_X6_ring_27
  rw [e1, bn_s, show f_X2_tell 10 M1 = some (rgV F (rngF F k) 10, M1) from x_rgtell hS.1 r1 (w := 10) (Or.inr (by omega)), bn_s]
theorem q_dig (hX : JX M F n Sv l B) (hS : SI F k) (hl : l ≤ 60) : ∃ M2, f_X6_digest M = some (.inl (dgH F k n l B), M2) ∧ JX M2 F n Sv l B := by
  obtain ⟨M2, e2, a2⟩ := x_digest hS hl hX
  exact ⟨M2, e2, hX.q a2⟩
theorem q_set2 (hX : JX M F n Sv l B) : f_X6_setting 2 M = some (.inl (F 422), M) := by
  unfold f_X6_setting
  simp (disch := omega) only [bnd_e, chk_tt, bn_s, bt_s, bt_x, inb_n, nI_clamp, le_t, le_f, lt_t, lt_f, eq_f, nI_add, pk_mul, ne_eq, not_true_eq_false, not_false_eq_true, ↓reduceIte, L0_, L1_, L2_, L3_, L4_, L5_, L6_, L7_, L8_, L9_, L10_, L11_, L12_, L13_, L14_, L15_, L16_, L20_, L22_, L23_, L24_, L25_, L30_, L31_, L32_, L33_, L36_, L40_, L41_, L45_, L48_, L60_, L63_, L64_, L97_, L100_, L107_, L108_, L126_, L150_, L200_, L294_, L366_, L402_, L408_, L414_, L420_, L421_, L422_, L423_, L424_, L425_, L426_, L427_, L428_, L999_, L2568_, L2996_, x_cz1]
  rw [hX.1.1.set2]
end QV
