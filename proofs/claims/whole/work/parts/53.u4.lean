/-! ===== lend, repay ===== -/
section LE
variable {M : Mem} {F : Nat → Int32} {k : Nat}
theorem x_cg0 {c : Int32} (h : c < nI 1 ∨ nI 200 < c) : f_X6_checkGiven c M = some (.inr exA, M) := by
  unfold f_X6_checkGiven
  rw [show ((1 : Int32)) = nI 1 from rfl, show ((200 : Int32)) = nI 200 from rfl]
  by_cases w : c < nI 1
  · rw [if_pos w]; rfl
  · rw [if_neg w, if_neg (Int32.not_le.mpr (h.resolve_left w))]; rfl
theorem x_cg1 {c : Int32} (h : ¬ (c < nI 1 ∨ nI 200 < c)) : f_X6_checkGiven c M = some (.inl (), M) := by
  unfold f_X6_checkGiven
  rw [show ((1 : Int32)) = nI 1 from rfl, show ((200 : Int32)) = nI 200 from rfl]
  rw [if_neg (fun e => h (Or.inl e)), if_pos (Int32.not_lt.mp (fun e => h (Or.inr e)))]
theorem m_g0 {c : Int32} (h : c < nI 1 ∨ nI 200 < c) : f_X7_in c (nI 1) (nI 200) M = some (nI 0, M) := by
  rw [m_in]
  by_cases w : c < nI 1
  · rw [if_pos w]
  · rw [if_neg w, if_pos (h.resolve_left w)]
theorem m_g1 {c : Int32} (h : ¬ (c < nI 1 ∨ nI 200 < c)) : f_X7_in c (nI 1) (nI 200) M = some (nI 1, M) := by
  rw [m_in, if_neg (fun e => h (Or.inl e)), if_neg (fun e => h (Or.inr e))]
def goes (F : Nat → Int32) (t u : Nat) (c : Int32) : Prop := c ≤ F t ∧ F u + c ≤ F 422
theorem x_cb1 (hF : LR M 34 F) {t u : Nat} (ht : t < 6) (hu : u < 6) {c : Int32} (h : goes F t u c) : f_X6_checkBoxes (nI t) (nI u) c M = some (.inl (), M) := by
  unfold f_X6_checkBoxes
  simp (disch := omega) only [bnd_e, chk_tt, bn_s, bt_s, bt_x, inb_n, nI_clamp, le_t, le_f, lt_t, lt_f, eq_f, nI_add, pk_mul, ne_eq, not_true_eq_false, not_false_eq_true, ↓reduceIte, L0_, L1_, L2_, L3_, L4_, L5_, L6_, L7_, L8_, L9_, L10_, L11_, L12_, L13_, L14_, L15_, L16_, L20_, L22_, L23_, L24_, L25_, L30_, L31_, L32_, L33_, L36_, L40_, L41_, L45_, L48_, L60_, L63_, L64_, L97_, L100_, L107_, L108_, L126_, L150_, L200_, L294_, L366_, L402_, L408_, L414_, L420_, L421_, L422_, L423_, L424_, L425_, L426_, L427_, L428_, L999_, L2568_, L2996_, tw_35]
  rw [hF.box ht, hF.box hu, show M.1 36 2 = F 422 from hF.set2, if_pos h.1, if_pos h.2]
theorem x_cb0 (hF : LR M 34 F) {t u : Nat} (ht : t < 6) (hu : u < 6) {c : Int32} (h : ¬ goes F t u c) : f_X6_checkBoxes (nI t) (nI u) c M = some (.inr exS, M) := by
  unfold f_X6_checkBoxes
  simp (disch := omega) only [bnd_e, chk_tt, bn_s, bt_s, bt_x, inb_n, nI_clamp, le_t, le_f, lt_t, lt_f, eq_f, nI_add, pk_mul, ne_eq, not_true_eq_false, not_false_eq_true, ↓reduceIte, L0_, L1_, L2_, L3_, L4_, L5_, L6_, L7_, L8_, L9_, L10_, L11_, L12_, L13_, L14_, L15_, L16_, L20_, L22_, L23_, L24_, L25_, L30_, L31_, L32_, L33_, L36_, L40_, L41_, L45_, L48_, L60_, L63_, L64_, L97_, L100_, L107_, L108_, L126_, L150_, L200_, L294_, L366_, L402_, L408_, L414_, L420_, L421_, L422_, L423_, L424_, L425_, L426_, L427_, L428_, L999_, L2568_, L2996_, tw_35]
  rw [hF.box ht, hF.box hu, show M.1 36 2 = F 422 from hF.set2]
  by_cases w : c ≤ F t
  · rw [if_pos w, if_neg (fun e => h ⟨w, e⟩)]
  · rw [if_neg w]
theorem m_cg1 (hF : Mo M F) {t u : Nat} (ht : t < 6) (hu : u < 6) {c : Int32} (h : goes F t u c) : f_X7_canGo (nI t) (nI u) c M = some (nI 1, M) := by
  unfold f_X7_canGo
  simp (disch := omega) only [bnd_e, chk_tt, bn_s, bt_s, bt_x, inb_n, nI_clamp, le_t, le_f, lt_t, lt_f, eq_f, nI_add, pk_mul, ne_eq, not_true_eq_false, not_false_eq_true, ↓reduceIte, L0_, L1_, L2_, L3_, L4_, L5_, L6_, L7_, L8_, L9_, L10_, L11_, L12_, L13_, L14_, L15_, L16_, L20_, L22_, L23_, L24_, L25_, L30_, L31_, L32_, L33_, L36_, L40_, L41_, L45_, L48_, L60_, L63_, L64_, L97_, L100_, L107_, L108_, L126_, L150_, L200_, L294_, L366_, L402_, L408_, L414_, L420_, L421_, L422_, L423_, L424_, L425_, L426_, L427_, L428_, L999_, L2568_, L2996_, Nat.zero_add]
  rw [hF _ (show t < 428 by omega), hF _ (show u < 428 by omega), hF _ (show 422 < 428 by omega), if_neg (Int32.not_lt.mpr h.1), if_neg (Int32.not_lt.mpr h.2)]
  simp (disch := omega) only [bnd_e, chk_tt, bn_s, bt_s, bt_x, inb_n, nI_clamp, le_t, le_f, lt_t, lt_f, eq_f, nI_add, pk_mul, ne_eq, not_true_eq_false, not_false_eq_true, ↓reduceIte, L0_, L1_, L2_, L3_, L4_, L5_, L6_, L7_, L8_, L9_, L10_, L11_, L12_, L13_, L14_, L15_, L16_, L20_, L22_, L23_, L24_, L25_, L30_, L31_, L32_, L33_, L36_, L40_, L41_, L45_, L48_, L60_, L63_, L64_, L97_, L100_, L107_, L108_, L126_, L150_, L200_, L294_, L366_, L402_, L408_, L414_, L420_, L421_, L422_, L423_, L424_, L425_, L426_, L427_, L428_, L999_, L2568_, L2996_, f_X7_canGo_38, isb1]
theorem m_cg0 (hF : Mo M F) {t u : Nat} (ht : t < 6) (hu : u < 6) {c : Int32} (h : ¬ goes F t u c) : f_X7_canGo (nI t) (nI u) c M = some (nI 0, M) := by
  unfold f_X7_canGo
  simp (disch := omega) only [bnd_e, chk_tt, bn_s, bt_s, bt_x, inb_n, nI_clamp, le_t, le_f, lt_t, lt_f, eq_f, nI_add, pk_mul, ne_eq, not_true_eq_false, not_false_eq_true, ↓reduceIte, L0_, L1_, L2_, L3_, L4_, L5_, L6_, L7_, L8_, L9_, L10_, L11_, L12_, L13_, L14_, L15_, L16_, L20_, L22_, L23_, L24_, L25_, L30_, L31_, L32_, L33_, L36_, L40_, L41_, L45_, L48_, L60_, L63_, L64_, L97_, L100_, L107_, L108_, L126_, L150_, L200_, L294_, L366_, L402_, L408_, L414_, L420_, L421_, L422_, L423_, L424_, L425_, L426_, L427_, L428_, L999_, L2568_, L2996_, Nat.zero_add]
  rw [hF _ (show t < 428 by omega), hF _ (show u < 428 by omega), hF _ (show 422 < 428 by omega)]
  by_cases w : c ≤ F t
  · rw [if_neg (Int32.not_lt.mpr w), if_pos (Int32.not_le.mp (fun e => h ⟨w, e⟩))]
    simp (disch := omega) only [bnd_e, chk_tt, bn_s, bt_s, bt_x, inb_n, nI_clamp, le_t, le_f, lt_t, lt_f, eq_f, nI_add, pk_mul, ne_eq, not_true_eq_false, not_false_eq_true, ↓reduceIte, L0_, L1_, L2_, L3_, L4_, L5_, L6_, L7_, L8_, L9_, L10_, L11_, L12_, L13_, L14_, L15_, L16_, L20_, L22_, L23_, L24_, L25_, L30_, L31_, L32_, L33_, L36_, L40_, L41_, L45_, L48_, L60_, L63_, L64_, L97_, L100_, L107_, L108_, L126_, L150_, L200_, L294_, L366_, L402_, L408_, L414_, L420_, L421_, L422_, L423_, L424_, L425_, L426_, L427_, L428_, L999_, L2568_, L2996_, f_X7_canGo_37, f_X7_canGo_38, isb0]
  · rw [if_pos (Int32.not_le.mp w)]
    simp (disch := omega) only [bnd_e, chk_tt, bn_s, bt_s, bt_x, inb_n, nI_clamp, le_t, le_f, lt_t, lt_f, eq_f, nI_add, pk_mul, ne_eq, not_true_eq_false, not_false_eq_true, ↓reduceIte, L0_, L1_, L2_, L3_, L4_, L5_, L6_, L7_, L8_, L9_, L10_, L11_, L12_, L13_, L14_, L15_, L16_, L20_, L22_, L23_, L24_, L25_, L30_, L31_, L32_, L33_, L36_, L40_, L41_, L45_, L48_, L60_, L63_, L64_, L97_, L100_, L107_, L108_, L126_, L150_, L200_, L294_, L366_, L402_, L408_, L414_, L420_, L421_, L422_, L423_, L424_, L425_, L426_, L427_, L428_, L999_, L2568_, L2996_, f_X7_canGo_37, f_X7_canGo_38, isb0]
def carF (F : Nat → Int32) (t u : Nat) (c : Int32) : Nat → Int32 := va_up (va_up F t (F t - c)) u (F u + c)
theorem SI.car (h : SI F k) {t u : Nat} (ht : t < 6) (hu : u < 6) (c : Int32) : SI (carF F t u c) k := (h.up (by omega) (by omega) (by omega) (by omega)).up (by omega) (by omega) (by omega) (by omega)
theorem carF_o {t u i : Nat} {c : Int32} (ht : t < 6) (hu : u < 6) (hi : 6 ≤ i) : carF F t u c i = F i := by
  unfold carF
  rw [va_up_ne _ _ (by omega), va_up_ne _ _ (by omega)]
theorem JX.car {n l : Nat} {Sv : Nat → Nat → Int32} {B : Nat → Int32} (h : JX M F n Sv l B) {t u : Nat} (ht : t < 6) (hu : u < 6) (e : t ≠ u) (c : Int32) : ∃ M1, f_X0_carry 34 (nI t) (nI u) c M = some ((), M1) ∧ JX M1 (carF F t u c) n Sv l B ∧ ∀ c i, aX c i → M1.1 c i = M.1 c i := by
  have x2 := (h.w (F t - c) t (by omega) (lc_box ht).1 (lc_box ht).2).w (F u + c) u (by omega) (lc_box hu).1 (lc_box hu).2
  refine ⟨_, ?_, x2, fun c i q => ?_⟩
  · unfold f_X0_carry
    simp (disch := omega) only [bnd_e, chk_tt, bn_s, bt_s, bt_x, inb_n, nI_clamp, le_t, le_f, lt_t, lt_f, eq_f, nI_add, pk_mul, ne_eq, not_true_eq_false, not_false_eq_true, ↓reduceIte, L0_, L1_, L2_, L3_, L4_, L5_, L6_, L7_, L8_, L9_, L10_, L11_, L12_, L13_, L14_, L15_, L16_, L20_, L22_, L23_, L24_, L25_, L30_, L31_, L32_, L33_, L36_, L40_, L41_, L45_, L48_, L60_, L63_, L64_, L97_, L100_, L107_, L108_, L126_, L150_, L200_, L294_, L366_, L402_, L408_, L414_, L420_, L421_, L422_, L423_, L424_, L425_, L426_, L427_, L428_, L999_, L2568_, L2996_, kbL isL34, tw_c]
    rw [h.1.1.box ht, mwn (by unfold tc; omega), h.1.1.box hu]
  · rw [mwn (by unfold aX tc at *; omega), mwn (by unfold aX tc at *; omega)]
theorem JM.car {n l : Nat} {Sv : Nat → Nat → Int32} {B : Nat → Int32} (h : JM M F n Sv l B) {t u : Nat} (ht : t < 6) (hu : u < 6) (e : t ≠ u) (c : Int32) : ∃ M1, f_X7_go (nI t) (nI u) c M = some ((), M1) ∧ JM M1 (carF F t u c) n Sv l B ∧ ag (fun c i => ¬ (c = 25 ∧ i < 6)) M M1 := by
  have x2 := (h.w (F t - c) (show t < 428 by omega)).w (F u + c) (show u < 428 by omega)
  refine ⟨_, ?_, x2, (ag.rf.w _ (by omega)).w _ (by omega)⟩
  unfold f_X7_go
  simp (disch := omega) only [bnd_e, chk_tt, bn_s, bt_s, bt_x, inb_n, nI_clamp, le_t, le_f, lt_t, lt_f, eq_f, nI_add, pk_mul, ne_eq, not_true_eq_false, not_false_eq_true, ↓reduceIte, L0_, L1_, L2_, L3_, L4_, L5_, L6_, L7_, L8_, L9_, L10_, L11_, L12_, L13_, L14_, L15_, L16_, L20_, L22_, L23_, L24_, L25_, L30_, L31_, L32_, L33_, L36_, L40_, L41_, L45_, L48_, L60_, L63_, L64_, L97_, L100_, L107_, L108_, L126_, L150_, L200_, L294_, L366_, L402_, L408_, L414_, L420_, L421_, L422_, L423_, L424_, L425_, L426_, L427_, L428_, L999_, L2568_, L2996_, Nat.zero_add]
  rw [h.1.1 _ (show t < 428 by omega), mwn (by omega), h.1.1 _ (show u < 428 by omega)]
end LE
theorem o_lend {M : Mem} (h : Jt M) (a b c : Int32) : Op [exI, exA, exS] (f_X6_lend a b c) (f_X7_lend a b c) M := by
  obtain ⟨F, k, n, Sv, l, B, hX, hM, hS⟩ := h
  have hk := hS.1.1
  have hF := hX.1.1
  rcases inb_cs a (show k < 2 ^ 31 by omega) with ha | ⟨t, ht, rfl⟩
  · refine Op.q (r := .inr exI) hX hM hS ⟨M, ?_, ag.rf⟩ (fun M1 h1 => ⟨nI 0, nI 1, mw M1 24 2 (nI 1), ?_, ag.rf, .e1⟩)
    · unfold f_X6_lend
      rw [x_ct0 hF hS.1 ha, bt_x]
    · unfold f_X7_lend
      simp (disch := omega) only [bnd_e, chk_tt, bn_s, bt_s, bt_x, inb_n, nI_clamp, le_t, le_f, lt_t, lt_f, eq_f, nI_add, pk_mul, ne_eq, not_true_eq_false, not_false_eq_true, ↓reduceIte, L0_, L1_, L2_, L3_, L4_, L5_, L6_, L7_, L8_, L9_, L10_, L11_, L12_, L13_, L14_, L15_, L16_, L20_, L22_, L23_, L24_, L25_, L30_, L31_, L32_, L33_, L36_, L40_, L41_, L45_, L48_, L60_, L63_, L64_, L97_, L100_, L107_, L108_, L126_, L150_, L200_, L294_, L366_, L402_, L408_, L414_, L420_, L421_, L422_, L423_, L424_, L425_, L426_, L427_, L428_, L999_, L2568_, L2996_, m_t0 h1.1.1 hS.1 ha, f_X7_lend_17, f_X7_lend_56, mw_eq, n10]
  have h6 : t < 6 := by omega
  rcases inb_cs b (show k < 2 ^ 31 by omega) with hb | ⟨u, hu, rfl⟩
  · refine Op.q (r := .inr exI) hX hM hS ⟨M, ?_, ag.rf⟩ (fun M1 h1 => ⟨nI 0, nI 1, mw M1 24 2 (nI 1), ?_, ag.rf, .e1⟩)
    · unfold f_X6_lend
      rw [x_ct1 hF hS.1 ht, bt_s, x_ct0 hF hS.1 hb, bt_x]
    · unfold f_X7_lend
      simp (disch := omega) only [bnd_e, chk_tt, bn_s, bt_s, bt_x, inb_n, nI_clamp, le_t, le_f, lt_t, lt_f, eq_f, nI_add, pk_mul, ne_eq, not_true_eq_false, not_false_eq_true, ↓reduceIte, L0_, L1_, L2_, L3_, L4_, L5_, L6_, L7_, L8_, L9_, L10_, L11_, L12_, L13_, L14_, L15_, L16_, L20_, L22_, L23_, L24_, L25_, L30_, L31_, L32_, L33_, L36_, L40_, L41_, L45_, L48_, L60_, L63_, L64_, L97_, L100_, L107_, L108_, L126_, L150_, L200_, L294_, L366_, L402_, L408_, L414_, L420_, L421_, L422_, L423_, L424_, L425_, L426_, L427_, L428_, L999_, L2568_, L2996_, m_t1 h1.1.1 hS.1, m_t0 h1.1.1 hS.1 hb, f_X7_lend_17, f_X7_lend_56, mw_eq, n10]
  have hu6 : u < 6 := by omega
  by_cases e : t = u
  · subst e
    refine Op.q (r := .inr exA) hX hM hS ⟨M, ?_, ag.rf⟩ (fun M1 h1 => ⟨nI 0, nI 2, mw M1 24 2 (nI 2), ?_, ag.rf, .e2⟩)
    · unfold f_X6_lend
      rw [x_ct1 hF hS.1 ht, bt_s, x_ct1 hF hS.1 ht, bt_s, x_cd0, bt_x]
    · unfold f_X7_lend
      simp (disch := omega) only [bnd_e, chk_tt, bn_s, bt_s, bt_x, inb_n, nI_clamp, le_t, le_f, lt_t, lt_f, eq_f, nI_add, pk_mul, ne_eq, not_true_eq_false, not_false_eq_true, ↓reduceIte, L0_, L1_, L2_, L3_, L4_, L5_, L6_, L7_, L8_, L9_, L10_, L11_, L12_, L13_, L14_, L15_, L16_, L20_, L22_, L23_, L24_, L25_, L30_, L31_, L32_, L33_, L36_, L40_, L41_, L45_, L48_, L60_, L63_, L64_, L97_, L100_, L107_, L108_, L126_, L150_, L200_, L294_, L366_, L402_, L408_, L414_, L420_, L421_, L422_, L423_, L424_, L425_, L426_, L427_, L428_, L999_, L2568_, L2996_, m_t1 h1.1.1 hS.1, n10, f_X7_lend_37, f_X7_lend_56, mw_eq, eq_f]
  by_cases g : c < nI 1 ∨ nI 200 < c
  · refine Op.q (r := .inr exA) hX hM hS ⟨M, ?_, ag.rf⟩ (fun M1 h1 => ⟨nI 0, nI 2, mw M1 24 2 (nI 2), ?_, ag.rf, .e2⟩)
    · unfold f_X6_lend
      rw [x_ct1 hF hS.1 ht, bt_s, x_ct1 hF hS.1 hu, bt_s, x_cd1 e h6 hu6, bt_s, x_cg0 g, bt_x]
    · unfold f_X7_lend
      simp (disch := omega) only [bnd_e, chk_tt, bn_s, bt_s, bt_x, inb_n, nI_clamp, le_t, le_f, lt_t, lt_f, eq_f, nI_add, pk_mul, ne_eq, not_true_eq_false, not_false_eq_true, ↓reduceIte, L0_, L1_, L2_, L3_, L4_, L5_, L6_, L7_, L8_, L9_, L10_, L11_, L12_, L13_, L14_, L15_, L16_, L20_, L22_, L23_, L24_, L25_, L30_, L31_, L32_, L33_, L36_, L40_, L41_, L45_, L48_, L60_, L63_, L64_, L97_, L100_, L107_, L108_, L126_, L150_, L200_, L294_, L366_, L402_, L408_, L414_, L420_, L421_, L422_, L423_, L424_, L425_, L426_, L427_, L428_, L999_, L2568_, L2996_, m_t1 h1.1.1 hS.1, n10, eq_f, m_g0 g, f_X7_lend_37, f_X7_lend_56, mw_eq]
  by_cases z : goes F t u c
  · have s1 := hS.1.car h6 hu6 c
    have s2 : SI (va_up (va_up (carF F t u c) (366 + 6 * u + t) (F (366 + 6 * u + t) + c)) 424 (F 424 + c)) k := (s1.up (by omega) (by omega) (by omega) (fun _ _ => ⟨u, t, hu, ht, fun q => e q.symm, rfl⟩)).up (by omega) (by omega) (by omega) (by omega)
    refine Op.u (n' := nx n) (Sv' := pushS F n Sv) (l' := l) (B' := B) (k' := k) (F' := va_up (va_up (carF F t u c) (366 + 6 * u + t) (F (366 + 6 * u + t) + c)) 424 (F 424 + c)) (v := F (366 + 6 * u + t) + c) hM (JSnx hS s2) ?_ (fun M1 h1 => ?_)
    · obtain ⟨M1, e1, x1, a1⟩ := hX.save
      obtain ⟨M2, e2, x2, a2⟩ := x1.car h6 hu6 e c
      have x3 := (x2.w (F (366 + 6 * u + t) + c) (366 + 6 * u + t) (by omega) (lc_debt hu6 h6).1 (lc_debt hu6 h6).2).w (c := 34) (s := 4) (F 424 + c) 424 (by omega) rfl rfl
      have d1 : M2.1 (rc 34 u) t = F (366 + 6 * u + t) := (x2.1.1.debt hu6 h6).trans (carF_o h6 hu6 (by omega))
      have d2 : M2.1 34 4 = F 424 := x2.1.1.lent.trans (carF_o h6 hu6 (by omega))
      have hr : rc 34 u ≠ 34 := by unfold rc; omega
      refine ⟨_, ?_, x3, fun c i q => ?_⟩
      · unfold f_X6_lend
        rw [x_ct1 hF hS.1 ht, bt_s, x_ct1 hF hS.1 hu, bt_s, x_cd1 e h6 hu6, bt_s, x_cg1 g, bt_s, x_cb1 hF h6 hu6 z, bt_s, e1, bn_s, e2, bn_s]
        simp (disch := omega) only [bnd_e, chk_tt, bn_s, bt_s, bt_x, inb_n, nI_clamp, le_t, le_f, lt_t, lt_f, eq_f, nI_add, pk_mul, ne_eq, not_true_eq_false, not_false_eq_true, ↓reduceIte, L0_, L1_, L2_, L3_, L4_, L5_, L6_, L7_, L8_, L9_, L10_, L11_, L12_, L13_, L14_, L15_, L16_, L20_, L22_, L23_, L24_, L25_, L30_, L31_, L32_, L33_, L36_, L40_, L41_, L45_, L48_, L60_, L63_, L64_, L97_, L100_, L107_, L108_, L126_, L150_, L200_, L294_, L366_, L402_, L408_, L414_, L420_, L421_, L422_, L423_, L424_, L425_, L426_, L427_, L428_, L999_, L2568_, L2996_, rw_37, d1, mwn, d2, mw_eq]
      · rw [mwn (by unfold aX rc at *; omega), mwn (by unfold aX rc at *; omega), a2 c i q]
        exact a1.2 c i (by unfold aX at q; unfold xSv; omega)
    · obtain ⟨M2, e1, x1, a1⟩ := (h1.co (nI 0)).keep
      obtain ⟨M3, e2, x2, a2⟩ := x1.car h6 hu6 e c
      have x3 := (x2.w (F (366 + 6 * u + t) + c) (show 366 + 6 * u + t < 428 by omega)).w (F 424 + c) (show 424 < 428 by omega)
      have d1 : M3.1 25 (366 + 6 * u + t) = F (366 + 6 * u + t) := (x2.1.1 _ (by omega)).trans (carF_o h6 hu6 (by omega))
      have d2 : M3.1 25 424 = F 424 := (x2.1.1 _ (by omega)).trans (carF_o h6 hu6 (by omega))
      refine ⟨_, ?_, x3, fun c i q => ?_, ?_, a2.1.trans a1.1⟩
      · unfold f_X7_lend
        simp (disch := omega) only [bnd_e, chk_tt, bn_s, bt_s, bt_x, inb_n, nI_clamp, le_t, le_f, lt_t, lt_f, eq_f, nI_add, pk_mul, ne_eq, not_true_eq_false, not_false_eq_true, ↓reduceIte, L0_, L1_, L2_, L3_, L4_, L5_, L6_, L7_, L8_, L9_, L10_, L11_, L12_, L13_, L14_, L15_, L16_, L20_, L22_, L23_, L24_, L25_, L30_, L31_, L32_, L33_, L36_, L40_, L41_, L45_, L48_, L60_, L63_, L64_, L97_, L100_, L107_, L108_, L126_, L150_, L200_, L294_, L366_, L402_, L408_, L414_, L420_, L421_, L422_, L423_, L424_, L425_, L426_, L427_, L428_, L999_, L2568_, L2996_, m_t1 h1.1.1 hS.1, n10, eq_f, m_g1 g, m_cg1 h1.1.1 h6 hu6 z, f_X7_lend_56, mw_eq, e1, e2, m_owes, d1, d2, mwn]
      · rw [mwn (by unfold aM at q; omega), mwn (by unfold aM at q; omega), a2.2 _ _ (by unfold aM at q; omega), a1.2 _ _ (by unfold aM at q; omega), mwn (by unfold aM at q; omega)]
      · rw [mwn (by omega), mwn (by omega), a2.2 _ _ (by omega), a1.2 _ _ (by omega), mw_eq]
  · refine Op.q (r := .inr exS) hX hM hS ⟨M, ?_, ag.rf⟩ (fun M1 h1 => ⟨nI 0, nI 3, mw M1 24 2 (nI 3), ?_, ag.rf, .e3⟩)
    · unfold f_X6_lend
      rw [x_ct1 hF hS.1 ht, bt_s, x_ct1 hF hS.1 hu, bt_s, x_cd1 e h6 hu6, bt_s, x_cg1 g, bt_s, x_cb0 hF h6 hu6 z, bt_x]
    · unfold f_X7_lend
      simp (disch := omega) only [bnd_e, chk_tt, bn_s, bt_s, bt_x, inb_n, nI_clamp, le_t, le_f, lt_t, lt_f, eq_f, nI_add, pk_mul, ne_eq, not_true_eq_false, not_false_eq_true, ↓reduceIte, L0_, L1_, L2_, L3_, L4_, L5_, L6_, L7_, L8_, L9_, L10_, L11_, L12_, L13_, L14_, L15_, L16_, L20_, L22_, L23_, L24_, L25_, L30_, L31_, L32_, L33_, L36_, L40_, L41_, L45_, L48_, L60_, L63_, L64_, L97_, L100_, L107_, L108_, L126_, L150_, L200_, L294_, L366_, L402_, L408_, L414_, L420_, L421_, L422_, L423_, L424_, L425_, L426_, L427_, L428_, L999_, L2568_, L2996_, m_t1 h1.1.1 hS.1, n10, eq_f, m_g1 g, m_cg0 h1.1.1 h6 hu6 z, f_X7_lend_56, mw_eq]
theorem o_repay {M : Mem} (h : Jt M) (a b c : Int32) : Op [exI, exA, exS] (f_X6_repay a b c) (f_X7_repay a b c) M := by
  obtain ⟨F, k, n, Sv, l, B, hX, hM, hS⟩ := h
  have hk := hS.1.1
  have hF := hX.1.1
  rcases inb_cs a (show k < 2 ^ 31 by omega) with ha | ⟨t, ht, rfl⟩
  · refine Op.q (r := .inr exI) hX hM hS ⟨M, ?_, ag.rf⟩ (fun M1 h1 => ⟨nI 0, nI 1, mw M1 24 2 (nI 1), ?_, ag.rf, .e1⟩)
    · unfold f_X6_repay
      rw [x_ct0 hF hS.1 ha, bt_x]
    · unfold f_X7_repay
      simp (disch := omega) only [bnd_e, chk_tt, bn_s, bt_s, bt_x, inb_n, nI_clamp, le_t, le_f, lt_t, lt_f, eq_f, nI_add, pk_mul, ne_eq, not_true_eq_false, not_false_eq_true, ↓reduceIte, L0_, L1_, L2_, L3_, L4_, L5_, L6_, L7_, L8_, L9_, L10_, L11_, L12_, L13_, L14_, L15_, L16_, L20_, L22_, L23_, L24_, L25_, L30_, L31_, L32_, L33_, L36_, L40_, L41_, L45_, L48_, L60_, L63_, L64_, L97_, L100_, L107_, L108_, L126_, L150_, L200_, L294_, L366_, L402_, L408_, L414_, L420_, L421_, L422_, L423_, L424_, L425_, L426_, L427_, L428_, L999_, L2568_, L2996_, m_t0 h1.1.1 hS.1 ha, f_X7_repay_17, f_X7_repay_70, mw_eq, n10]
  have h6 : t < 6 := by omega
  rcases inb_cs b (show k < 2 ^ 31 by omega) with hb | ⟨u, hu, rfl⟩
  · refine Op.q (r := .inr exI) hX hM hS ⟨M, ?_, ag.rf⟩ (fun M1 h1 => ⟨nI 0, nI 1, mw M1 24 2 (nI 1), ?_, ag.rf, .e1⟩)
    · unfold f_X6_repay
      rw [x_ct1 hF hS.1 ht, bt_s, x_ct0 hF hS.1 hb, bt_x]
    · unfold f_X7_repay
      simp (disch := omega) only [bnd_e, chk_tt, bn_s, bt_s, bt_x, inb_n, nI_clamp, le_t, le_f, lt_t, lt_f, eq_f, nI_add, pk_mul, ne_eq, not_true_eq_false, not_false_eq_true, ↓reduceIte, L0_, L1_, L2_, L3_, L4_, L5_, L6_, L7_, L8_, L9_, L10_, L11_, L12_, L13_, L14_, L15_, L16_, L20_, L22_, L23_, L24_, L25_, L30_, L31_, L32_, L33_, L36_, L40_, L41_, L45_, L48_, L60_, L63_, L64_, L97_, L100_, L107_, L108_, L126_, L150_, L200_, L294_, L366_, L402_, L408_, L414_, L420_, L421_, L422_, L423_, L424_, L425_, L426_, L427_, L428_, L999_, L2568_, L2996_, m_t1 h1.1.1 hS.1, m_t0 h1.1.1 hS.1 hb, f_X7_repay_17, f_X7_repay_70, mw_eq, n10]
  have hu6 : u < 6 := by omega
  by_cases e : t = u
  · subst e
    refine Op.q (r := .inr exA) hX hM hS ⟨M, ?_, ag.rf⟩ (fun M1 h1 => ⟨nI 0, nI 2, mw M1 24 2 (nI 2), ?_, ag.rf, .e2⟩)
    · unfold f_X6_repay
      rw [x_ct1 hF hS.1 ht, bt_s, x_ct1 hF hS.1 ht, bt_s, x_cd0, bt_x]
    · unfold f_X7_repay
      simp (disch := omega) only [bnd_e, chk_tt, bn_s, bt_s, bt_x, inb_n, nI_clamp, le_t, le_f, lt_t, lt_f, eq_f, nI_add, pk_mul, ne_eq, not_true_eq_false, not_false_eq_true, ↓reduceIte, L0_, L1_, L2_, L3_, L4_, L5_, L6_, L7_, L8_, L9_, L10_, L11_, L12_, L13_, L14_, L15_, L16_, L20_, L22_, L23_, L24_, L25_, L30_, L31_, L32_, L33_, L36_, L40_, L41_, L45_, L48_, L60_, L63_, L64_, L97_, L100_, L107_, L108_, L126_, L150_, L200_, L294_, L366_, L402_, L408_, L414_, L420_, L421_, L422_, L423_, L424_, L425_, L426_, L427_, L428_, L999_, L2568_, L2996_, m_t1 h1.1.1 hS.1, n10, f_X7_repay_37, f_X7_repay_70, mw_eq, eq_f]
  by_cases g : c < nI 1 ∨ nI 200 < c
  · refine Op.q (r := .inr exA) hX hM hS ⟨M, ?_, ag.rf⟩ (fun M1 h1 => ⟨nI 0, nI 2, mw M1 24 2 (nI 2), ?_, ag.rf, .e2⟩)
    · unfold f_X6_repay
      rw [x_ct1 hF hS.1 ht, bt_s, x_ct1 hF hS.1 hu, bt_s, x_cd1 e h6 hu6, bt_s, x_cg0 g, bt_x]
    · unfold f_X7_repay
      simp (disch := omega) only [bnd_e, chk_tt, bn_s, bt_s, bt_x, inb_n, nI_clamp, le_t, le_f, lt_t, lt_f, eq_f, nI_add, pk_mul, ne_eq, not_true_eq_false, not_false_eq_true, ↓reduceIte, L0_, L1_, L2_, L3_, L4_, L5_, L6_, L7_, L8_, L9_, L10_, L11_, L12_, L13_, L14_, L15_, L16_, L20_, L22_, L23_, L24_, L25_, L30_, L31_, L32_, L33_, L36_, L40_, L41_, L45_, L48_, L60_, L63_, L64_, L97_, L100_, L107_, L108_, L126_, L150_, L200_, L294_, L366_, L402_, L408_, L414_, L420_, L421_, L422_, L423_, L424_, L425_, L426_, L427_, L428_, L999_, L2568_, L2996_, m_t1 h1.1.1 hS.1, n10, eq_f, m_g0 g, f_X7_repay_37, f_X7_repay_70, mw_eq]
  by_cases z : c ≤ F (366 + 6 * t + u) ∧ goes F t u c
  · have s1 := hS.1.car h6 hu6 c
    have s2 : SI (va_up (va_up (carF F t u c) (366 + 6 * t + u) (F (366 + 6 * t + u) - c)) 425 (F 425 + c)) k := (s1.up (by omega) (by omega) (by omega) (fun _ _ => ⟨t, u, ht, hu, e, rfl⟩)).up (by omega) (by omega) (by omega) (by omega)
    refine Op.u (n' := nx n) (Sv' := pushS F n Sv) (l' := l) (B' := B) (k' := k) (F' := va_up (va_up (carF F t u c) (366 + 6 * t + u) (F (366 + 6 * t + u) - c)) 425 (F 425 + c)) (v := F (366 + 6 * t + u) - c) hM (JSnx hS s2) ?_ (fun M1 h1 => ?_)
    · obtain ⟨M1, e1, x1, a1⟩ := hX.save
      obtain ⟨M2, e2, x2, a2⟩ := x1.car h6 hu6 e c
      have x3 := (x2.w (F (366 + 6 * t + u) - c) (366 + 6 * t + u) (by omega) (lc_debt h6 hu6).1 (lc_debt h6 hu6).2).w (c := 34) (s := 5) (F 425 + c) 425 (by omega) rfl rfl
      have d1 : M2.1 (rc 34 t) u = F (366 + 6 * t + u) := (x2.1.1.debt h6 hu6).trans (carF_o h6 hu6 (by omega))
      have d2 : M2.1 34 5 = F 425 := x2.1.1.repd.trans (carF_o h6 hu6 (by omega))
      have d0 := hF.debt h6 hu6
      have hr : rc 34 t ≠ 34 := by unfold rc; omega
      refine ⟨_, ?_, x3, fun c i q => ?_⟩
      · unfold f_X6_repay
        rw [x_ct1 hF hS.1 ht, bt_s, x_ct1 hF hS.1 hu, bt_s, x_cd1 e h6 hu6, bt_s, x_cg1 g, bt_s]
        simp (disch := omega) only [bnd_e, chk_tt, bn_s, bt_s, bt_x, inb_n, nI_clamp, le_t, le_f, lt_t, lt_f, eq_f, nI_add, pk_mul, ne_eq, not_true_eq_false, not_false_eq_true, ↓reduceIte, L0_, L1_, L2_, L3_, L4_, L5_, L6_, L7_, L8_, L9_, L10_, L11_, L12_, L13_, L14_, L15_, L16_, L20_, L22_, L23_, L24_, L25_, L30_, L31_, L32_, L33_, L36_, L40_, L41_, L45_, L48_, L60_, L63_, L64_, L97_, L100_, L107_, L108_, L126_, L150_, L200_, L294_, L366_, L402_, L408_, L414_, L420_, L421_, L422_, L423_, L424_, L425_, L426_, L427_, L428_, L999_, L2568_, L2996_, rw_37, d0, z.1, x_cb1 hF h6 hu6 z.2, e1, e2, d1, mwn, d2, mw_eq]
      · rw [mwn (by unfold aX rc at *; omega), mwn (by unfold aX rc at *; omega), a2 c i q]
        exact a1.2 c i (by unfold aX at q; unfold xSv; omega)
    · obtain ⟨M2, e1, x1, a1⟩ := (h1.co (nI 0)).keep
      obtain ⟨M3, e2, x2, a2⟩ := x1.car h6 hu6 e c
      have x3 := (x2.w (F (366 + 6 * t + u) - c) (show 366 + 6 * t + u < 428 by omega)).w (F 425 + c) (show 425 < 428 by omega)
      have d1 : M3.1 25 (366 + 6 * t + u) = F (366 + 6 * t + u) := (x2.1.1 _ (by omega)).trans (carF_o h6 hu6 (by omega))
      have d2 : M3.1 25 425 = F 425 := (x2.1.1 _ (by omega)).trans (carF_o h6 hu6 (by omega))
      have d0 := h1.1.1 _ (show 366 + 6 * t + u < 428 by omega)
      have z1 : ¬ F (366 + 6 * t + u) < c := Int32.not_lt.mpr z.1
      refine ⟨_, ?_, x3, fun c i q => ?_, ?_, a2.1.trans a1.1⟩
      · unfold f_X7_repay
        simp (disch := omega) only [bnd_e, chk_tt, bn_s, bt_s, bt_x, inb_n, nI_clamp, le_t, le_f, lt_t, lt_f, eq_f, nI_add, pk_mul, ne_eq, not_true_eq_false, not_false_eq_true, ↓reduceIte, L0_, L1_, L2_, L3_, L4_, L5_, L6_, L7_, L8_, L9_, L10_, L11_, L12_, L13_, L14_, L15_, L16_, L20_, L22_, L23_, L24_, L25_, L30_, L31_, L32_, L33_, L36_, L40_, L41_, L45_, L48_, L60_, L63_, L64_, L97_, L100_, L107_, L108_, L126_, L150_, L200_, L294_, L366_, L402_, L408_, L414_, L420_, L421_, L422_, L423_, L424_, L425_, L426_, L427_, L428_, L999_, L2568_, L2996_, m_t1 h1.1.1 hS.1, n10, eq_f, m_g1 g, m_owes, d0, z1, m_cg1 h1.1.1 h6 hu6 z.2, f_X7_repay_70, mw_eq, e1, e2, d1, d2, mwn]
      · rw [mwn (by unfold aM at q; omega), mwn (by unfold aM at q; omega), a2.2 _ _ (by unfold aM at q; omega), a1.2 _ _ (by unfold aM at q; omega), mwn (by unfold aM at q; omega)]
      · rw [mwn (by omega), mwn (by omega), a2.2 _ _ (by omega), a1.2 _ _ (by omega), mw_eq]
  · refine Op.q (r := .inr exS) hX hM hS ⟨M, ?_, ag.rf⟩ (fun M1 h1 => ⟨nI 0, nI 3, mw M1 24 2 (nI 3), ?_, ag.rf, .e3⟩)
    · have d0 := hF.debt h6 hu6
      unfold f_X6_repay
      rw [x_ct1 hF hS.1 ht, bt_s, x_ct1 hF hS.1 hu, bt_s, x_cd1 e h6 hu6, bt_s, x_cg1 g, bt_s]
      by_cases w : c ≤ F (366 + 6 * t + u)
      · rw [inb_n h6 (by omega), chk_tt, rw_37 (by omega), bnd_e, inb_n hu6 (by omega), chk_tt, nI_clamp (by omega), d0, if_pos w, x_cb0 hF h6 hu6 (fun e => z ⟨w, e⟩), bt_x]
      · rw [inb_n h6 (by omega), chk_tt, rw_37 (by omega), bnd_e, inb_n hu6 (by omega), chk_tt, nI_clamp (by omega), d0, if_neg w]
    · have d0 := h1.1.1 _ (show 366 + 6 * t + u < 428 by omega)
      unfold f_X7_repay
      by_cases w : c ≤ F (366 + 6 * t + u)
      · have z1 : ¬ F (366 + 6 * t + u) < c := Int32.not_lt.mpr w
        simp (disch := omega) only [bnd_e, chk_tt, bn_s, bt_s, bt_x, inb_n, nI_clamp, le_t, le_f, lt_t, lt_f, eq_f, nI_add, pk_mul, ne_eq, not_true_eq_false, not_false_eq_true, ↓reduceIte, L0_, L1_, L2_, L3_, L4_, L5_, L6_, L7_, L8_, L9_, L10_, L11_, L12_, L13_, L14_, L15_, L16_, L20_, L22_, L23_, L24_, L25_, L30_, L31_, L32_, L33_, L36_, L40_, L41_, L45_, L48_, L60_, L63_, L64_, L97_, L100_, L107_, L108_, L126_, L150_, L200_, L294_, L366_, L402_, L408_, L414_, L420_, L421_, L422_, L423_, L424_, L425_, L426_, L427_, L428_, L999_, L2568_, L2996_, m_t1 h1.1.1 hS.1, n10, eq_f, m_g1 g, m_owes, d0, z1, m_cg0 h1.1.1 h6 hu6 (fun e => z ⟨w, e⟩), f_X7_repay_65, f_X7_repay_70, mw_eq]
      · have z1 : F (366 + 6 * t + u) < c := Int32.not_le.mp w
        simp (disch := omega) only [bnd_e, chk_tt, bn_s, bt_s, bt_x, inb_n, nI_clamp, le_t, le_f, lt_t, lt_f, eq_f, nI_add, pk_mul, ne_eq, not_true_eq_false, not_false_eq_true, ↓reduceIte, L0_, L1_, L2_, L3_, L4_, L5_, L6_, L7_, L8_, L9_, L10_, L11_, L12_, L13_, L14_, L15_, L16_, L20_, L22_, L23_, L24_, L25_, L30_, L31_, L32_, L33_, L36_, L40_, L41_, L45_, L48_, L60_, L63_, L64_, L97_, L100_, L107_, L108_, L126_, L150_, L200_, L294_, L366_, L402_, L408_, L414_, L420_, L421_, L422_, L423_, L424_, L425_, L426_, L427_, L428_, L999_, L2568_, L2996_, m_t1 h1.1.1 hS.1, n10, eq_f, m_g1 g, m_owes, d0, z1, f_X7_repay_65, f_X7_repay_70, mw_eq]
