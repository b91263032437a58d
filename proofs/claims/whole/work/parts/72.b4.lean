/-! ===== bestTrades, side by side ===== -/
theorem aT_Q {M M' : Mem} (a : ag aT M M') : ag xQ M M' := a.mono (fun c i q => by unfold xQ at q; unfold aT; omega)
theorem aV_Q {M M' : Mem} (a : ag aV M M') : ag mQ M M' := a.mono (fun c i q => by unfold mQ at q; unfold aV; omega)
theorem x_trtell {M : Mem} {F : Nat → Int32} {k w : Nat} (hk : k ≤ 6) (h : trO M F k) (hw : w = 0 ∨ (10 ≤ w ∧ w < 16)) : f_X4_tell (nI w) M = some (tdV F k w, M) := by
  obtain ⟨h1, h2, h3⟩ := h
  unfold f_X4_tell tdV
  rcases hw with rfl | hw
  · rw [if_neg (show ¬ (10 : Int32) ≤ nI 0 by decide), h2]
    rfl
  · obtain ⟨i, rfl⟩ : ∃ i, w = 10 + i := ⟨w - 10, by omega⟩
    have e10 : nI (10 + i) - (10 : Int32) = nI i := (show nI (10 + i) - nI 10 = nI i by rw [pk_sub (by omega)]; congr 1; omega)
    rw [if_pos (show (10 : Int32) ≤ nI (10 + i) by rw [show (10 : Int32) = nI 10 from rfl, nI_leI (by omega) (by omega)]; omega), e10, bnd_e, h1, if_neg (show ¬ 10 + i = 0 by omega), show 10 + i - 10 = i by omega]
    unfold f_X4_tell_34
    by_cases q : i < k
    · rw [if_pos q, if_neg (by rw [nI_leI (by omega) (by omega)]; omega), inb_n (by omega) (by omega), chk_tt, nI_clamp (by omega), h3 i q]
    · rw [if_neg q, if_pos (by rw [nI_leI (by omega) (by omega)]; omega)]
      rfl
theorem o_bestTrades {M : Mem} (h : Jt M) (a : Int32) : Op [exA] (f_X6_bestTrades a) (f_X7_bestTrades a) M := by
  obtain ⟨F, k, n, Sv, l, B, hX, hM, hS⟩ := h
  have hk := hS.1.1
  have hF := hX.1.1
  have good : ∀ w, (w = 0 ∨ (10 ≤ w ∧ w < 16)) → a = nI w → (f_X6_bestTrades a M = f_X6_bestTrades_22 a M) → (∀ M1, f_X7_bestTrades a M1 = f_X7_bestTrades_21 a (nI 0) M1) → Op [exA] (f_X6_bestTrades a) (f_X7_bestTrades a) M := by
    intro w hw e p1 p2
    subst e
    refine Op.q (r := .inl (tdV F k w)) hX hM hS ?_ (fun M1 h1 => ?_)
    · obtain ⟨M1, e1, a1, r1⟩ := x_trades hS.1 hF
      refine ⟨M1, ?_, aT_Q a1⟩
      rw [p1]
      unfold f_X6_bestTrades_22
      rw [e1, bn_s, x_trtell hk r1 hw, bn_s]
    · obtain ⟨M2, e2, a2⟩ := m_trades hS.1 hw (h1.1.1.co (nI 0))
      refine ⟨tdV F k w, nI 0, M2, ?_, aV_Q a2, .ok⟩
      rw [p2]
      unfold f_X7_bestTrades_21
      rw [bnd_e, mw_eq, if_pos (show nI 0 = 0 from rfl), e2, bn_s]
      rfl
  have bad : (∀ j, j < 1 → a ≠ nI j) → (a < nI 10 ∨ nI 15 < a) → Op [exA] (f_X6_bestTrades a) (f_X7_bestTrades a) M := by
    intro h2 h3
    have h0 : ¬ a = nI 0 := h2 0 (by omega)
    refine Op.q (r := .inr exA) hX hM hS ⟨M, ?_, ag.rf⟩ (fun M1 h1 => ⟨nI 0, nI 1, mw M1 24 2 (nI 1), ?_, ag.rf, .e1⟩)
    · unfold f_X6_bestTrades
      simp (disch := omega) only [bnd_e, chk_tt, bn_s, bt_s, bt_x, inb_n, nI_clamp, le_t, le_f, lt_t, lt_f, eq_f, nI_add, pk_mul, ne_eq, not_true_eq_false, not_false_eq_true, ↓reduceIte, L0_, L1_, L2_, L3_, L4_, L5_, L6_, L7_, L8_, L9_, L10_, L11_, L12_, L13_, L14_, L15_, L16_, L20_, L22_, L23_, L24_, L25_, L30_, L31_, L32_, L33_, L36_, L40_, L41_, L45_, L48_, L60_, L63_, L64_, L97_, L100_, L107_, L108_, L126_, L150_, L200_, L294_, L366_, L402_, L408_, L414_, L420_, L421_, L422_, L423_, L424_, L425_, L426_, L427_, L428_, L999_, L2568_, L2996_, h0, x_pl0 h3]
    · unfold f_X7_bestTrades
      simp (disch := omega) only [bnd_e, chk_tt, bn_s, bt_s, bt_x, inb_n, nI_clamp, le_t, le_f, lt_t, lt_f, eq_f, nI_add, pk_mul, ne_eq, not_true_eq_false, not_false_eq_true, ↓reduceIte, L0_, L1_, L2_, L3_, L4_, L5_, L6_, L7_, L8_, L9_, L10_, L11_, L12_, L13_, L14_, L15_, L16_, L20_, L22_, L23_, L24_, L25_, L30_, L31_, L32_, L33_, L36_, L40_, L41_, L45_, L48_, L60_, L63_, L64_, L97_, L100_, L107_, L108_, L126_, L150_, L200_, L294_, L366_, L402_, L408_, L414_, L420_, L421_, L422_, L423_, L424_, L425_, L426_, L427_, L428_, L999_, L2568_, L2996_, h0, m_pl0 h3, f_X7_bestTrades_21, f_X7_bestTrades_40, mw_eq, n10]
  rcases pl6 a with ⟨w, hw, rfl⟩ | ⟨i, hi, rfl⟩ | ⟨h2, h3⟩
  · rcases (show w = 0 ∨ w = 1 by omega) with rfl | rfl
    · refine good 0 (Or.inl rfl) rfl ?_ (fun M1 => ?_)
      · unfold f_X6_bestTrades
        simp (disch := omega) only [bnd_e, chk_tt, bn_s, bt_s, bt_x, inb_n, nI_clamp, le_t, le_f, lt_t, lt_f, eq_f, nI_add, pk_mul, ne_eq, not_true_eq_false, not_false_eq_true, ↓reduceIte, L0_, L1_, L2_, L3_, L4_, L5_, L6_, L7_, L8_, L9_, L10_, L11_, L12_, L13_, L14_, L15_, L16_, L20_, L22_, L23_, L24_, L25_, L30_, L31_, L32_, L33_, L36_, L40_, L41_, L45_, L48_, L60_, L63_, L64_, L97_, L100_, L107_, L108_, L126_, L150_, L200_, L294_, L366_, L402_, L408_, L414_, L420_, L421_, L422_, L423_, L424_, L425_, L426_, L427_, L428_, L999_, L2568_, L2996_]
      · unfold f_X7_bestTrades
        simp (disch := omega) only [bnd_e, chk_tt, bn_s, bt_s, bt_x, inb_n, nI_clamp, le_t, le_f, lt_t, lt_f, eq_f, nI_add, pk_mul, ne_eq, not_true_eq_false, not_false_eq_true, ↓reduceIte, L0_, L1_, L2_, L3_, L4_, L5_, L6_, L7_, L8_, L9_, L10_, L11_, L12_, L13_, L14_, L15_, L16_, L20_, L22_, L23_, L24_, L25_, L30_, L31_, L32_, L33_, L36_, L40_, L41_, L45_, L48_, L60_, L63_, L64_, L97_, L100_, L107_, L108_, L126_, L150_, L200_, L294_, L366_, L402_, L408_, L414_, L420_, L421_, L422_, L423_, L424_, L425_, L426_, L427_, L428_, L999_, L2568_, L2996_, f_X7_bestTrades_16]
    · exact bad (fun j hj => by rw [ne_eq, nI_eq (by omega) (by omega)]; omega) (Or.inl (by decide))
  · refine good (10 + i) (Or.inr (by omega)) rfl ?_ (fun M1 => ?_)
    · unfold f_X6_bestTrades
      simp (disch := omega) only [bnd_e, chk_tt, bn_s, bt_s, bt_x, inb_n, nI_clamp, le_t, le_f, lt_t, lt_f, eq_f, nI_add, pk_mul, ne_eq, not_true_eq_false, not_false_eq_true, ↓reduceIte, L0_, L1_, L2_, L3_, L4_, L5_, L6_, L7_, L8_, L9_, L10_, L11_, L12_, L13_, L14_, L15_, L16_, L20_, L22_, L23_, L24_, L25_, L30_, L31_, L32_, L33_, L36_, L40_, L41_, L45_, L48_, L60_, L63_, L64_, L97_, L100_, L107_, L108_, L126_, L150_, L200_, L294_, L366_, L402_, L408_, L414_, L420_, L421_, L422_, L423_, L424_, L425_, L426_, L427_, L428_, L999_, L2568_, L2996_, eq_f, x_pl1, n10]
    · unfold f_X7_bestTrades
      simp (disch := omega) only [bnd_e, chk_tt, bn_s, bt_s, bt_x, inb_n, nI_clamp, le_t, le_f, lt_t, lt_f, eq_f, nI_add, pk_mul, ne_eq, not_true_eq_false, not_false_eq_true, ↓reduceIte, L0_, L1_, L2_, L3_, L4_, L5_, L6_, L7_, L8_, L9_, L10_, L11_, L12_, L13_, L14_, L15_, L16_, L20_, L22_, L23_, L24_, L25_, L30_, L31_, L32_, L33_, L36_, L40_, L41_, L45_, L48_, L60_, L63_, L64_, L97_, L100_, L107_, L108_, L126_, L150_, L200_, L294_, L366_, L402_, L408_, L414_, L420_, L421_, L422_, L423_, L424_, L425_, L426_, L427_, L428_, L999_, L2568_, L2996_, eq_f, m_pl1, n10, f_X7_bestTrades_16]
  · refine bad (fun j hj e => ?_) h3
    rw [e, inb_n (by omega) (by omega)] at h2
    cases h2
