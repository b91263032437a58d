/-! ===== set, move, lend, repay ===== -/
theorem x_cd0 {M : Mem} {t : Nat} : f_X6_checkDifferent (nI t) (nI t) M = some (.inr exA, M) := if_pos rfl
theorem x_cd1 {M : Mem} {t u : Nat} (h : t ≠ u) (ht : t < 6) (hu : u < 6) : f_X6_checkDifferent (nI t) (nI u) M = some (.inl (), M) := if_neg (fun e => h ((nI_eq (by omega) (by omega)).mp e))
theorem o_move {M : Mem} (h : Jt M) (a b c d : Int32) : Op [exI, exA, exS] (f_X6_move a b c d) (f_X7_move a b c d) M := by
  obtain ⟨F, k, n, Sv, l, B, hX, hM, hS⟩ := h
  have hk := hS.1.1
  have hF := hX.1.1
  rcases pl_cs a c d hk with hb | ⟨t, s, q, ht, hs, hq, rfl, rfl, rfl⟩
  · refine Op.q (r := .inr exI) hX hM hS ⟨M, ?_, ag.rf⟩ (fun M1 h1 => ⟨nI 0, nI 1, mw M1 24 2 (nI 1), ?_, ag.rf, .e1⟩)
    · unfold f_X6_move
      rw [x_cp0 hF hS.1 hb, bt_x]
    · unfold f_X7_move
      rcases inb_cs a (show k < 2 ^ 31 by omega) with ha | ⟨t, ht, rfl⟩
      · simp (disch := omega) only [bnd_e, chk_tt, bn_s, bt_s, bt_x, inb_n, nI_clamp, le_t, le_f, lt_t, lt_f, eq_f, nI_add, pk_mul, ne_eq, not_true_eq_false, not_false_eq_true, ↓reduceIte, L0_, L1_, L2_, L3_, L4_, L5_, L6_, L7_, L8_, L9_, L10_, L11_, L12_, L13_, L14_, L15_, L16_, L20_, L22_, L23_, L24_, L25_, L30_, L31_, L32_, L33_, L36_, L40_, L41_, L45_, L48_, L60_, L63_, L64_, L97_, L100_, L107_, L108_, L126_, L150_, L200_, L294_, L366_, L402_, L408_, L414_, L420_, L421_, L422_, L423_, L424_, L425_, L426_, L427_, L428_, L999_, L2568_, L2996_, m_t0 h1.1.1 hS.1 ha, f_X7_move_20, f_X7_move_78, mw_eq, n10]
      · have hb' : inb b k = false ∨ inb c 24 = false ∨ inb d 12 = false := by
          rcases hb with hb | hb
          · rw [inb_n ht (by omega)] at hb; cases hb
          · exact Or.inr hb
        simp (disch := omega) only [bnd_e, chk_tt, bn_s, bt_s, bt_x, inb_n, nI_clamp, le_t, le_f, lt_t, lt_f, eq_f, nI_add, pk_mul, ne_eq, not_true_eq_false, not_false_eq_true, ↓reduceIte, L0_, L1_, L2_, L3_, L4_, L5_, L6_, L7_, L8_, L9_, L10_, L11_, L12_, L13_, L14_, L15_, L16_, L20_, L22_, L23_, L24_, L25_, L30_, L31_, L32_, L33_, L36_, L40_, L41_, L45_, L48_, L60_, L63_, L64_, L97_, L100_, L107_, L108_, L126_, L150_, L200_, L294_, L366_, L402_, L408_, L414_, L420_, L421_, L422_, L423_, L424_, L425_, L426_, L427_, L428_, L999_, L2568_, L2996_, m_t1 h1.1.1 hS.1, m_p0 h1.1.1 hS.1 hb', f_X7_move_20, f_X7_move_78, mw_eq, n10]
  · have h6 : t < 6 := by omega
    rcases inb_cs b (show k < 2 ^ 31 by omega) with hb | ⟨u, hu, rfl⟩
    · refine Op.q (r := .inr exI) hX hM hS ⟨M, ?_, ag.rf⟩ (fun M1 h1 => ⟨nI 0, nI 1, mw M1 24 2 (nI 1), ?_, ag.rf, .e1⟩)
      · unfold f_X6_move
        rw [x_cp1 hF hS.1 ht hs hq, bt_s, x_ct0 hF hS.1 hb, bt_x]
      · unfold f_X7_move
        simp (disch := omega) only [bnd_e, chk_tt, bn_s, bt_s, bt_x, inb_n, nI_clamp, le_t, le_f, lt_t, lt_f, eq_f, nI_add, pk_mul, ne_eq, not_true_eq_false, not_false_eq_true, ↓reduceIte, L0_, L1_, L2_, L3_, L4_, L5_, L6_, L7_, L8_, L9_, L10_, L11_, L12_, L13_, L14_, L15_, L16_, L20_, L22_, L23_, L24_, L25_, L30_, L31_, L32_, L33_, L36_, L40_, L41_, L45_, L48_, L60_, L63_, L64_, L97_, L100_, L107_, L108_, L126_, L150_, L200_, L294_, L366_, L402_, L408_, L414_, L420_, L421_, L422_, L423_, L424_, L425_, L426_, L427_, L428_, L999_, L2568_, L2996_, m_t1 h1.1.1 hS.1, m_p0 h1.1.1 hS.1 (Or.inl hb), f_X7_move_20, f_X7_move_78, mw_eq, n10]
    · have hu6 : u < 6 := by omega
      by_cases e : t = u
      · subst e
        refine Op.q (r := .inr exA) hX hM hS ⟨M, ?_, ag.rf⟩ (fun M1 h1 => ⟨nI 0, nI 2, mw M1 24 2 (nI 2), ?_, ag.rf, .e2⟩)
        · unfold f_X6_move
          rw [x_cp1 hF hS.1 ht hs hq, bt_s, x_ct1 hF hS.1 ht, bt_s, x_cd0, bt_x]
        · unfold f_X7_move
          simp (disch := omega) only [bnd_e, chk_tt, bn_s, bt_s, bt_x, inb_n, nI_clamp, le_t, le_f, lt_t, lt_f, eq_f, nI_add, pk_mul, ne_eq, not_true_eq_false, not_false_eq_true, ↓reduceIte, L0_, L1_, L2_, L3_, L4_, L5_, L6_, L7_, L8_, L9_, L10_, L11_, L12_, L13_, L14_, L15_, L16_, L20_, L22_, L23_, L24_, L25_, L30_, L31_, L32_, L33_, L36_, L40_, L41_, L45_, L48_, L60_, L63_, L64_, L97_, L100_, L107_, L108_, L126_, L150_, L200_, L294_, L366_, L402_, L408_, L414_, L420_, L421_, L422_, L423_, L424_, L425_, L426_, L427_, L428_, L999_, L2568_, L2996_, m_t1 h1.1.1 hS.1, m_p1 h1.1.1 hS.1, n10, f_X7_move_78, mw_eq, eq_f]
      · have hm := hS.1.2.2.1 (6 + 24 * t + s) (by omega) (by omega)
        have hm' := hS.1.2.2.1 (6 + 24 * u + s) (by omega) (by omega)
        by_cases z : ¬ bitK (F (6 + 24 * t + s)) q = nI 0 ∧ bitK (F (6 + 24 * u + s)) q = nI 0
        · have s2 : SI (va_up (va_up F (6 + 24 * t + s) (F (6 + 24 * t + s) &&& nbit q)) (6 + 24 * u + s) (F (6 + 24 * u + s) ||| bit q)) k := (hS.1.up (fun _ _ => msk_and hm) (by omega) (by omega) (by omega)).up (fun _ _ => msk_or hm' hq) (by omega) (by omega) (by omega)
          refine Op.u (n' := nx n) (Sv' := pushS F n Sv) (l' := l) (B' := B) (k' := k) (F' := va_up (va_up F (6 + 24 * t + s) (F (6 + 24 * t + s) &&& nbit q)) (6 + 24 * u + s) (F (6 + 24 * u + s) ||| bit q)) (v := pinsF (va_up (va_up F (6 + 24 * t + s) (F (6 + 24 * t + s) &&& nbit q)) (6 + 24 * u + s) (F (6 + 24 * u + s) ||| bit q)) 6 u) hM (JSnx hS s2) ?_ (fun M1 h1 => ?_)
          · obtain ⟨M1, e1, x1, a1⟩ := hX.save
            have x2 := (x1.w (F (6 + 24 * t + s) &&& nbit q) (6 + 24 * t + s) (by omega) (lc_drum h6 hs).1 (lc_drum h6 hs).2).w (F (6 + 24 * u + s) ||| bit q) (6 + 24 * u + s) (by omega) (lc_drum hu6 hs).1 (lc_drum hu6 hs).2
            refine ⟨_, ?_, x2, fun c i q => ?_⟩
            · unfold f_X6_move
              rw [x_cp1 hF hS.1 ht hs hq, bt_s, x_ct1 hF hS.1 hu, bt_s, x_cd1 e h6 hu6, bt_s]
              simp (disch := omega) only [bnd_e, chk_tt, bn_s, bt_s, bt_x, inb_n, nI_clamp, le_t, le_f, lt_t, lt_f, eq_f, nI_add, pk_mul, ne_eq, not_true_eq_false, not_false_eq_true, ↓reduceIte, L0_, L1_, L2_, L3_, L4_, L5_, L6_, L7_, L8_, L9_, L10_, L11_, L12_, L13_, L14_, L15_, L16_, L20_, L22_, L23_, L24_, L25_, L30_, L31_, L32_, L33_, L36_, L40_, L41_, L45_, L48_, L60_, L63_, L64_, L97_, L100_, L107_, L108_, L126_, L150_, L200_, L294_, L366_, L402_, L408_, L414_, L420_, L421_, L422_, L423_, L424_, L425_, L426_, L427_, L428_, L999_, L2568_, L2996_, tw_35, x_hasPin hF hS.1, z.1, z.2, e1, bit_e, nbit_e]
              rw [x1.1.1.drum h6 hs, mwn (by unfold tc; omega), x1.1.1.drum hu6 hs, x_drum x2.1.1 isL34 s2 hu6]
              simp (disch := omega) only [bnd_e, chk_tt, bn_s, bt_s, bt_x, inb_n, nI_clamp, le_t, le_f, lt_t, lt_f, eq_f, nI_add, pk_mul, ne_eq, not_true_eq_false, not_false_eq_true, ↓reduceIte, L0_, L1_, L2_, L3_, L4_, L5_, L6_, L7_, L8_, L9_, L10_, L11_, L12_, L13_, L14_, L15_, L16_, L20_, L22_, L23_, L24_, L25_, L30_, L31_, L32_, L33_, L36_, L40_, L41_, L45_, L48_, L60_, L63_, L64_, L97_, L100_, L107_, L108_, L126_, L150_, L200_, L294_, L366_, L402_, L408_, L414_, L420_, L421_, L422_, L423_, L424_, L425_, L426_, L427_, L428_, L999_, L2568_, L2996_]
            · rw [mwn (by unfold aX tc at *; omega), mwn (by unfold aX tc at *; omega)]
              exact a1.2 c i (by unfold aX at q; unfold xSv; omega)
          · obtain ⟨M2, e1, x1, a1⟩ := (h1.co (nI 0)).keep
            have x2 := (x1.w (F (6 + 24 * t + s) &&& nbit q) (show 6 + 24 * t + s < 428 by omega)).w (F (6 + 24 * u + s) ||| bit q) (show 6 + 24 * u + s < 428 by omega)
            refine ⟨_, ?_, x2, fun c i q => ?_, ?_, a1.1⟩
            · unfold f_X7_move
              simp (disch := omega) only [bnd_e, chk_tt, bn_s, bt_s, bt_x, inb_n, nI_clamp, le_t, le_f, lt_t, lt_f, eq_f, nI_add, pk_mul, ne_eq, not_true_eq_false, not_false_eq_true, ↓reduceIte, L0_, L1_, L2_, L3_, L4_, L5_, L6_, L7_, L8_, L9_, L10_, L11_, L12_, L13_, L14_, L15_, L16_, L20_, L22_, L23_, L24_, L25_, L30_, L31_, L32_, L33_, L36_, L40_, L41_, L45_, L48_, L60_, L63_, L64_, L97_, L100_, L107_, L108_, L126_, L150_, L200_, L294_, L366_, L402_, L408_, L414_, L420_, L421_, L422_, L423_, L424_, L425_, L426_, L427_, L428_, L999_, L2568_, L2996_, m_t1 h1.1.1 hS.1, m_p1 h1.1.1 hS.1, n10, eq_f, m_at, m_has]
              rw [h1.1.1 _ (show 6 + 24 * t + s < 428 by omega), h1.1.1 _ (show 6 + 24 * u + s < 428 by omega)]
              simp (disch := omega) only [bnd_e, chk_tt, bn_s, bt_s, bt_x, inb_n, nI_clamp, le_t, le_f, lt_t, lt_f, eq_f, nI_add, pk_mul, ne_eq, not_true_eq_false, not_false_eq_true, ↓reduceIte, L0_, L1_, L2_, L3_, L4_, L5_, L6_, L7_, L8_, L9_, L10_, L11_, L12_, L13_, L14_, L15_, L16_, L20_, L22_, L23_, L24_, L25_, L30_, L31_, L32_, L33_, L36_, L40_, L41_, L45_, L48_, L60_, L63_, L64_, L97_, L100_, L107_, L108_, L126_, L150_, L200_, L294_, L366_, L402_, L408_, L414_, L420_, L421_, L422_, L423_, L424_, L425_, L426_, L427_, L428_, L999_, L2568_, L2996_, z.1, z.2, f_X7_move_78, mw_eq, e1, m_at, bit_e]
              rw [x1.1.1 _ (show 6 + 24 * t + s < 428 by omega), B4o hm hq z.1, mwn (by omega), x1.1.1 _ (show 6 + 24 * u + s < 428 by omega), B4i hm' hq z.2, m_pins x2.1.1 (by omega)]
              simp (disch := omega) only [bnd_e, chk_tt, bn_s, bt_s, bt_x, inb_n, nI_clamp, le_t, le_f, lt_t, lt_f, eq_f, nI_add, pk_mul, ne_eq, not_true_eq_false, not_false_eq_true, ↓reduceIte, L0_, L1_, L2_, L3_, L4_, L5_, L6_, L7_, L8_, L9_, L10_, L11_, L12_, L13_, L14_, L15_, L16_, L20_, L22_, L23_, L24_, L25_, L30_, L31_, L32_, L33_, L36_, L40_, L41_, L45_, L48_, L60_, L63_, L64_, L97_, L100_, L107_, L108_, L126_, L150_, L200_, L294_, L366_, L402_, L408_, L414_, L420_, L421_, L422_, L423_, L424_, L425_, L426_, L427_, L428_, L999_, L2568_, L2996_]
            · rw [mwn (by unfold aM at q; omega), mwn (by unfold aM at q; omega), a1.2 _ _ (by unfold aM at q; omega), mwn (by unfold aM at q; omega)]
            · rw [mwn (by omega), mwn (by omega), a1.2 _ _ (by omega), mw_eq]
        · refine Op.q (r := .inr exS) hX hM hS ⟨M, ?_, ag.rf⟩ (fun M1 h1 => ⟨nI 0, nI 3, mw M1 24 2 (nI 3), ?_, ag.rf, .e3⟩)
          · unfold f_X6_move
            rw [x_cp1 hF hS.1 ht hs hq, bt_s, x_ct1 hF hS.1 hu, bt_s, x_cd1 e h6 hu6, bt_s]
            by_cases w : bitK (F (6 + 24 * t + s)) q = nI 0
            · simp (disch := omega) only [bnd_e, chk_tt, bn_s, bt_s, bt_x, inb_n, nI_clamp, le_t, le_f, lt_t, lt_f, eq_f, nI_add, pk_mul, ne_eq, not_true_eq_false, not_false_eq_true, ↓reduceIte, L0_, L1_, L2_, L3_, L4_, L5_, L6_, L7_, L8_, L9_, L10_, L11_, L12_, L13_, L14_, L15_, L16_, L20_, L22_, L23_, L24_, L25_, L30_, L31_, L32_, L33_, L36_, L40_, L41_, L45_, L48_, L60_, L63_, L64_, L97_, L100_, L107_, L108_, L126_, L150_, L200_, L294_, L366_, L402_, L408_, L414_, L420_, L421_, L422_, L423_, L424_, L425_, L426_, L427_, L428_, L999_, L2568_, L2996_, tw_35, x_hasPin hF hS.1, w]
            · have w' : ¬ bitK (F (6 + 24 * u + s)) q = nI 0 := fun e => z ⟨w, e⟩
              simp (disch := omega) only [bnd_e, chk_tt, bn_s, bt_s, bt_x, inb_n, nI_clamp, le_t, le_f, lt_t, lt_f, eq_f, nI_add, pk_mul, ne_eq, not_true_eq_false, not_false_eq_true, ↓reduceIte, L0_, L1_, L2_, L3_, L4_, L5_, L6_, L7_, L8_, L9_, L10_, L11_, L12_, L13_, L14_, L15_, L16_, L20_, L22_, L23_, L24_, L25_, L30_, L31_, L32_, L33_, L36_, L40_, L41_, L45_, L48_, L60_, L63_, L64_, L97_, L100_, L107_, L108_, L126_, L150_, L200_, L294_, L366_, L402_, L408_, L414_, L420_, L421_, L422_, L423_, L424_, L425_, L426_, L427_, L428_, L999_, L2568_, L2996_, tw_35, x_hasPin hF hS.1, w, w']
          · unfold f_X7_move
            simp (disch := omega) only [bnd_e, chk_tt, bn_s, bt_s, bt_x, inb_n, nI_clamp, le_t, le_f, lt_t, lt_f, eq_f, nI_add, pk_mul, ne_eq, not_true_eq_false, not_false_eq_true, ↓reduceIte, L0_, L1_, L2_, L3_, L4_, L5_, L6_, L7_, L8_, L9_, L10_, L11_, L12_, L13_, L14_, L15_, L16_, L20_, L22_, L23_, L24_, L25_, L30_, L31_, L32_, L33_, L36_, L40_, L41_, L45_, L48_, L60_, L63_, L64_, L97_, L100_, L107_, L108_, L126_, L150_, L200_, L294_, L366_, L402_, L408_, L414_, L420_, L421_, L422_, L423_, L424_, L425_, L426_, L427_, L428_, L999_, L2568_, L2996_, m_t1 h1.1.1 hS.1, m_p1 h1.1.1 hS.1, n10, eq_f, m_at, m_has]
            rw [h1.1.1 _ (show 6 + 24 * t + s < 428 by omega), h1.1.1 _ (show 6 + 24 * u + s < 428 by omega)]
            by_cases w : bitK (F (6 + 24 * t + s)) q = nI 0
            · simp (disch := omega) only [bnd_e, chk_tt, bn_s, bt_s, bt_x, inb_n, nI_clamp, le_t, le_f, lt_t, lt_f, eq_f, nI_add, pk_mul, ne_eq, not_true_eq_false, not_false_eq_true, ↓reduceIte, L0_, L1_, L2_, L3_, L4_, L5_, L6_, L7_, L8_, L9_, L10_, L11_, L12_, L13_, L14_, L15_, L16_, L20_, L22_, L23_, L24_, L25_, L30_, L31_, L32_, L33_, L36_, L40_, L41_, L45_, L48_, L60_, L63_, L64_, L97_, L100_, L107_, L108_, L126_, L150_, L200_, L294_, L366_, L402_, L408_, L414_, L420_, L421_, L422_, L423_, L424_, L425_, L426_, L427_, L428_, L999_, L2568_, L2996_, w, f_X7_move_73, f_X7_move_78, mw_eq, eq_f]
            · have w' : ¬ bitK (F (6 + 24 * u + s)) q = nI 0 := fun e => z ⟨w, e⟩
              simp (disch := omega) only [bnd_e, chk_tt, bn_s, bt_s, bt_x, inb_n, nI_clamp, le_t, le_f, lt_t, lt_f, eq_f, nI_add, pk_mul, ne_eq, not_true_eq_false, not_false_eq_true, ↓reduceIte, L0_, L1_, L2_, L3_, L4_, L5_, L6_, L7_, L8_, L9_, L10_, L11_, L12_, L13_, L14_, L15_, L16_, L20_, L22_, L23_, L24_, L25_, L30_, L31_, L32_, L33_, L36_, L40_, L41_, L45_, L48_, L60_, L63_, L64_, L97_, L100_, L107_, L108_, L126_, L150_, L200_, L294_, L366_, L402_, L408_, L414_, L420_, L421_, L422_, L423_, L424_, L425_, L426_, L427_, L428_, L999_, L2568_, L2996_, w, w', f_X7_move_73, f_X7_move_78, mw_eq, eq_f]
def lvN (t : Nat) : Nat := if t = 0 then 0 else 1
def gvN (t : Nat) : Nat := if t = 0 then 24 else if t = 1 then 100 else 999
theorem m_set32 {M : Mem} {t : Nat} (ht : t < 3) (b : Int32) : f_X7_set (nI t) b M = f_X7_set_32 (nI t) b (nI (lvN t)) (nI (gvN t)) M := by
  unfold f_X7_set
  rcases (show t = 0 ∨ t = 1 ∨ t = 2 by omega) with rfl | rfl | rfl
  · simp (disch := omega) only [bnd_e, chk_tt, bn_s, bt_s, bt_x, inb_n, nI_clamp, le_t, le_f, lt_t, lt_f, eq_f, nI_add, pk_mul, ne_eq, not_true_eq_false, not_false_eq_true, ↓reduceIte, L0_, L1_, L2_, L3_, L4_, L5_, L6_, L7_, L8_, L9_, L10_, L11_, L12_, L13_, L14_, L15_, L16_, L20_, L22_, L23_, L24_, L25_, L30_, L31_, L32_, L33_, L36_, L40_, L41_, L45_, L48_, L60_, L63_, L64_, L97_, L100_, L107_, L108_, L126_, L150_, L200_, L294_, L366_, L402_, L408_, L414_, L420_, L421_, L422_, L423_, L424_, L425_, L426_, L427_, L428_, L999_, L2568_, L2996_, f_X7_set_9]; rfl
  · simp (disch := omega) only [bnd_e, chk_tt, bn_s, bt_s, bt_x, inb_n, nI_clamp, le_t, le_f, lt_t, lt_f, eq_f, nI_add, pk_mul, ne_eq, not_true_eq_false, not_false_eq_true, ↓reduceIte, L0_, L1_, L2_, L3_, L4_, L5_, L6_, L7_, L8_, L9_, L10_, L11_, L12_, L13_, L14_, L15_, L16_, L20_, L22_, L23_, L24_, L25_, L30_, L31_, L32_, L33_, L36_, L40_, L41_, L45_, L48_, L60_, L63_, L64_, L97_, L100_, L107_, L108_, L126_, L150_, L200_, L294_, L366_, L402_, L408_, L414_, L420_, L421_, L422_, L423_, L424_, L425_, L426_, L427_, L428_, L999_, L2568_, L2996_, f_X7_set_9, n10]; rfl
  · simp (disch := omega) only [bnd_e, chk_tt, bn_s, bt_s, bt_x, inb_n, nI_clamp, le_t, le_f, lt_t, lt_f, eq_f, nI_add, pk_mul, ne_eq, not_true_eq_false, not_false_eq_true, ↓reduceIte, L0_, L1_, L2_, L3_, L4_, L5_, L6_, L7_, L8_, L9_, L10_, L11_, L12_, L13_, L14_, L15_, L16_, L20_, L22_, L23_, L24_, L25_, L30_, L31_, L32_, L33_, L36_, L40_, L41_, L45_, L48_, L60_, L63_, L64_, L97_, L100_, L107_, L108_, L126_, L150_, L200_, L294_, L366_, L402_, L408_, L414_, L420_, L421_, L422_, L423_, L424_, L425_, L426_, L427_, L428_, L999_, L2568_, L2996_, f_X7_set_9, eq_f]; rfl
theorem lv_e : ∀ t, t < 3 → lvT t = nI (lvN t) ∧ gvT t = nI (gvN t) ∧ lvN t < 2 ∧ gvN t < 1000 := by decide
theorem lc_set {t : Nat} (ht : t < 3) : 34 + lc (420 + t) = 36 ∧ lsl (420 + t) = t := by
  rcases (show t = 0 ∨ t = 1 ∨ t = 2 by omega) with rfl | rfl | rfl <;> exact ⟨rfl, rfl⟩
theorem o_set {M : Mem} (h : Jt M) (a b : Int32) : Op [exI, exA] (f_X6_set a b) (f_X7_set a b) M := by
  obtain ⟨F, k, n, Sv, l, B, hX, hM, hS⟩ := h
  have hk := hS.1.1
  have hF := hX.1.1
  rcases inb_cs a (show 3 < 2 ^ 31 by omega) with ha | ⟨t, ht, rfl⟩
  · refine Op.q (r := .inr exI) hX hM hS ⟨M, ?_, ag.rf⟩ (fun M1 h1 => ⟨nI 0, nI 1, mw M1 24 2 (nI 1), ?_, ag.rf, .e1⟩)
    · unfold f_X6_set
      rw [x_cz0 ha, bt_x]
    · unfold f_X7_set f_X7_set_9
      simp (disch := omega) only [bnd_e, chk_tt, bn_s, bt_s, bt_x, inb_n, nI_clamp, le_t, le_f, lt_t, lt_f, eq_f, nI_add, pk_mul, ne_eq, not_true_eq_false, not_false_eq_true, ↓reduceIte, L0_, L1_, L2_, L3_, L4_, L5_, L6_, L7_, L8_, L9_, L10_, L11_, L12_, L13_, L14_, L15_, L16_, L20_, L22_, L23_, L24_, L25_, L30_, L31_, L32_, L33_, L36_, L40_, L41_, L45_, L48_, L60_, L63_, L64_, L97_, L100_, L107_, L108_, L126_, L150_, L200_, L294_, L366_, L402_, L408_, L414_, L420_, L421_, L422_, L423_, L424_, L425_, L426_, L427_, L428_, L999_, L2568_, L2996_, ninb ha, f_X7_set_32, m_i0 (b := 2) (by omega) ha, f_X7_set_63, mw_eq, n10]
  · obtain ⟨g1, g2, g3, g4⟩ := lv_e t ht
    by_cases z : b < nI (lvN t) ∨ nI (gvN t) < b
    · refine Op.q (r := .inr exA) hX hM hS ⟨M, ?_, ag.rf⟩ (fun M1 h1 => ⟨nI 0, nI 2, mw M1 24 2 (nI 2), ?_, ag.rf, .e2⟩)
      · unfold f_X6_set
        rw [x_cz1 ht, bt_s]
        simp (disch := omega) only [bnd_e, chk_tt, bn_s, bt_s, bt_x, inb_n, nI_clamp, le_t, le_f, lt_t, lt_f, eq_f, nI_add, pk_mul, ne_eq, not_true_eq_false, not_false_eq_true, ↓reduceIte, L0_, L1_, L2_, L3_, L4_, L5_, L6_, L7_, L8_, L9_, L10_, L11_, L12_, L13_, L14_, L15_, L16_, L20_, L22_, L23_, L24_, L25_, L30_, L31_, L32_, L33_, L36_, L40_, L41_, L45_, L48_, L60_, L63_, L64_, L97_, L100_, L107_, L108_, L126_, L150_, L200_, L294_, L366_, L402_, L408_, L414_, L420_, L421_, L422_, L423_, L424_, L425_, L426_, L427_, L428_, L999_, L2568_, L2996_, f_X6_set_22, g1, g2]
        by_cases w : b < nI (lvN t)
        · rw [if_pos w]
        · rw [if_neg w, if_neg (Int32.not_le.mpr (z.resolve_left w))]
      · rw [m_set32 ht]
        unfold f_X7_set_32
        rw [show f_X7_in (nI t) 0 2 M1 = some (nI 1, M1) from m_i1 (b := 2) (by omega) (by omega), bn_s, m_in b]
        by_cases w : b < nI (lvN t)
        · simp (disch := omega) only [bnd_e, chk_tt, bn_s, bt_s, bt_x, inb_n, nI_clamp, le_t, le_f, lt_t, lt_f, eq_f, nI_add, pk_mul, ne_eq, not_true_eq_false, not_false_eq_true, ↓reduceIte, L0_, L1_, L2_, L3_, L4_, L5_, L6_, L7_, L8_, L9_, L10_, L11_, L12_, L13_, L14_, L15_, L16_, L20_, L22_, L23_, L24_, L25_, L30_, L31_, L32_, L33_, L36_, L40_, L41_, L45_, L48_, L60_, L63_, L64_, L97_, L100_, L107_, L108_, L126_, L150_, L200_, L294_, L366_, L402_, L408_, L414_, L420_, L421_, L422_, L423_, L424_, L425_, L426_, L427_, L428_, L999_, L2568_, L2996_, m_i1, n10, w, f_X7_set_63, mw_eq, eq_f]
        · simp (disch := omega) only [bnd_e, chk_tt, bn_s, bt_s, bt_x, inb_n, nI_clamp, le_t, le_f, lt_t, lt_f, eq_f, nI_add, pk_mul, ne_eq, not_true_eq_false, not_false_eq_true, ↓reduceIte, L0_, L1_, L2_, L3_, L4_, L5_, L6_, L7_, L8_, L9_, L10_, L11_, L12_, L13_, L14_, L15_, L16_, L20_, L22_, L23_, L24_, L25_, L30_, L31_, L32_, L33_, L36_, L40_, L41_, L45_, L48_, L60_, L63_, L64_, L97_, L100_, L107_, L108_, L126_, L150_, L200_, L294_, L366_, L402_, L408_, L414_, L420_, L421_, L422_, L423_, L424_, L425_, L426_, L427_, L428_, L999_, L2568_, L2996_, m_i1, n10, w, z.resolve_left w, f_X7_set_63, mw_eq, eq_f]
    · have z1 : ¬ b < nI (lvN t) := fun e => z (Or.inl e)
      have z2 : ¬ nI (gvN t) < b := fun e => z (Or.inr e)
      have s2 : SI (va_up F (420 + t) b) k := hS.1.up (by omega) (fun e => by
        obtain rfl : t = 0 := by omega
        rcases pk_ix b (show 25 < 2 ^ 31 by omega) with q | q | ⟨j, hj, rfl⟩
        · exact absurd q z1
        · exfalso
          refine z2 (Int32.lt_of_lt_of_le ?_ q)
          show nI 24 < nI 25
          decide
        · exact ⟨j, by omega, rfl⟩) (by omega) (by omega)
      refine Op.u (n' := nx n) (Sv' := pushS F n Sv) (l' := l) (B' := B) (k' := k) (F' := va_up F (420 + t) b) (v := F (420 + t)) hM (JSnx hS s2) ?_ (fun M1 h1 => ?_)
      · obtain ⟨M1, e1, x1, a1⟩ := hX.save
        have x2 := x1.w b (420 + t) (by omega) (lc_set ht).1 (lc_set ht).2
        refine ⟨_, ?_, x2, fun c i q => ?_⟩
        · unfold f_X6_set
          rw [x_cz1 ht, bt_s]
          simp (disch := omega) only [bnd_e, chk_tt, bn_s, bt_s, bt_x, inb_n, nI_clamp, le_t, le_f, lt_t, lt_f, eq_f, nI_add, pk_mul, ne_eq, not_true_eq_false, not_false_eq_true, ↓reduceIte, L0_, L1_, L2_, L3_, L4_, L5_, L6_, L7_, L8_, L9_, L10_, L11_, L12_, L13_, L14_, L15_, L16_, L20_, L22_, L23_, L24_, L25_, L30_, L31_, L32_, L33_, L36_, L40_, L41_, L45_, L48_, L60_, L63_, L64_, L97_, L100_, L107_, L108_, L126_, L150_, L200_, L294_, L366_, L402_, L408_, L414_, L420_, L421_, L422_, L423_, L424_, L425_, L426_, L427_, L428_, L999_, L2568_, L2996_, g1, g2, z1, Int32.not_lt.mp z2, e1]
          have : M1.1 36 t = F (420 + t) := x1.1.1.rd (420 + t) (by omega) (lc_set ht).1 (lc_set ht).2
          rw [this]
        · rw [mwn (by unfold aX at *; omega)]
          exact a1.2 c i (by unfold aX at q; unfold xSv; omega)
      · obtain ⟨M2, e1, x1, a1⟩ := (h1.co (nI 0)).keep
        have x2 := x1.w b (show 420 + t < 428 by omega)
        refine ⟨_, ?_, x2, fun c i q => ?_, ?_, a1.1⟩
        · rw [m_set32 ht]
          unfold f_X7_set_32
          rw [show f_X7_in (nI t) 0 2 M1 = some (nI 1, M1) from m_i1 (b := 2) (by omega) (by omega), bn_s, m_in b]
          simp (disch := omega) only [bnd_e, chk_tt, bn_s, bt_s, bt_x, inb_n, nI_clamp, le_t, le_f, lt_t, lt_f, eq_f, nI_add, pk_mul, ne_eq, not_true_eq_false, not_false_eq_true, ↓reduceIte, L0_, L1_, L2_, L3_, L4_, L5_, L6_, L7_, L8_, L9_, L10_, L11_, L12_, L13_, L14_, L15_, L16_, L20_, L22_, L23_, L24_, L25_, L30_, L31_, L32_, L33_, L36_, L40_, L41_, L45_, L48_, L60_, L63_, L64_, L97_, L100_, L107_, L108_, L126_, L150_, L200_, L294_, L366_, L402_, L408_, L414_, L420_, L421_, L422_, L423_, L424_, L425_, L426_, L427_, L428_, L999_, L2568_, L2996_, m_i1, n10, z1, z2, f_X7_set_63, mw_eq, e1]
          rw [x1.1.1 _ (show 420 + t < 428 by omega)]
        · rw [mwn (by unfold aM at q; omega), a1.2 _ _ (by unfold aM at q; omega), mwn (by unfold aM at q; omega)]
        · rw [mwn (by omega), a1.2 _ _ (by omega), mw_eq]
