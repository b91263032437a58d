/-! ===== ring, side by side ===== -/
theorem aF_Q {M M' : Mem} (a : ag aF M M') : ag xQ M M' := a.mono (fun c i q => by unfold xQ at q; unfold aF; omega)
theorem aG_Q {M M' : Mem} (a : ag aG M M') : ag mQ M M' := a.mono (fun c i q => by unfold mQ at q; unfold aG; omega)
theorem pl6 (a : Int32) : (∃ w, w < 2 ∧ a = nI w) ∨ (∃ i, i < 6 ∧ a = nI (10 + i)) ∨ (inb a 2 = false ∧ (a < nI 10 ∨ nI 15 < a)) := by
  rcases inb_cs a (show 2 < 2 ^ 31 by omega) with ha | ⟨w, hw, rfl⟩
  · right
    rcases pk_ix a (show 16 < 2 ^ 31 by omega) with q | q | ⟨j, hj, rfl⟩
    · exact Or.inr ⟨ha, Or.inl (Int32.lt_of_lt_of_le q (by decide))⟩
    · exact Or.inr ⟨ha, Or.inr (Int32.lt_of_lt_of_le (show nI 15 < nI 16 by decide) q)⟩
    · by_cases z : j < 10
      · exact Or.inr ⟨ha, Or.inl ((nI_ltI (by omega) (by omega)).mpr z)⟩
      · exact Or.inl ⟨j - 10, by omega, by rw [show 10 + (j - 10) = j by omega]⟩
  · exact Or.inl ⟨w, hw, rfl⟩
section RP
variable {M : Mem}
theorem x_pl1 {i : Nat} (hi : i < 6) : f_X6_isPlace (nI (10 + i)) M = some (nI 1, M) := by
  unfold f_X6_isPlace
  simp (disch := omega) only [bnd_e, chk_tt, bn_s, bt_s, bt_x, inb_n, nI_clamp, le_t, le_f, lt_t, lt_f, eq_f, nI_add, pk_mul, ne_eq, not_true_eq_false, not_false_eq_true, ↓reduceIte, L0_, L1_, L2_, L3_, L4_, L5_, L6_, L7_, L8_, L9_, L10_, L11_, L12_, L13_, L14_, L15_, L16_, L20_, L22_, L23_, L24_, L25_, L30_, L31_, L32_, L33_, L36_, L40_, L41_, L45_, L48_, L60_, L63_, L64_, L97_, L100_, L107_, L108_, L126_, L150_, L200_, L294_, L366_, L402_, L408_, L414_, L420_, L421_, L422_, L423_, L424_, L425_, L426_, L427_, L428_, L999_, L2568_, L2996_, f_X6_isPlace_17, isb1]
theorem x_pl0 {a : Int32} (h : a < nI 10 ∨ nI 15 < a) : f_X6_isPlace a M = some (nI 0, M) := by
  unfold f_X6_isPlace
  rw [show ((10 : Int32)) = nI 10 from rfl, show ((16 : Int32)) = nI 16 from rfl]
  by_cases w : a < nI 10
  · rw [if_pos w]; rfl
  · rw [if_neg w, if_pos]
    · rfl
    · rcases pk_ix a (show 16 < 2 ^ 31 by omega) with q | q | ⟨j, hj, rfl⟩
      · exact absurd (Int32.lt_of_lt_of_le q (by decide)) w
      · exact q
      · have := h.resolve_left w
        rw [nI_ltI (by omega) (by omega)] at this
        omega
theorem m_pl1 {i : Nat} (hi : i < 6) : f_X7_in (nI (10 + i)) (nI 10) (nI 15) M = some (nI 1, M) := by
  rw [m_in]
  simp (disch := omega) only [bnd_e, chk_tt, bn_s, bt_s, bt_x, inb_n, nI_clamp, le_t, le_f, lt_t, lt_f, eq_f, nI_add, pk_mul, ne_eq, not_true_eq_false, not_false_eq_true, ↓reduceIte, L0_, L1_, L2_, L3_, L4_, L5_, L6_, L7_, L8_, L9_, L10_, L11_, L12_, L13_, L14_, L15_, L16_, L20_, L22_, L23_, L24_, L25_, L30_, L31_, L32_, L33_, L36_, L40_, L41_, L45_, L48_, L60_, L63_, L64_, L97_, L100_, L107_, L108_, L126_, L150_, L200_, L294_, L366_, L402_, L408_, L414_, L420_, L421_, L422_, L423_, L424_, L425_, L426_, L427_, L428_, L999_, L2568_, L2996_]
theorem m_pl0 {a : Int32} (h : a < nI 10 ∨ nI 15 < a) : f_X7_in a (nI 10) (nI 15) M = some (nI 0, M) := by
  rw [m_in]
  by_cases w : a < nI 10
  · rw [if_pos w]
  · rw [if_neg w, if_pos (h.resolve_left w)]
end RP
def rgV (F : Nat → Int32) (o : Option (Nat × (Nat → Nat))) (w : Nat) : Int32 := match o with
  | none => -nI 1
  | some (z, x) => if w = 0 then nI z else if w = 1 then lsF F x z else if w - 10 < z then nI (x (w - 10)) else -nI 1
theorem rng_ok {F : Nat → Int32} {k z : Nat} {x : Nat → Nat} (hk : k ≤ 6) (e : rngF F k = some (z, x)) : 2 ≤ z ∧ z ≤ k ∧ z ≤ 6 ∧ rok F k z x ∧ gp F (x (z - 1)) (x 0) = true ∧ ∀ i, i < z → x i < 6 ∧ fol x z i < 6 := by
  obtain ⟨h1, h2, h3, h4⟩ := fndS_ok 6 2 _ (Nat.le_refl _) e
  dsimp only at h1 h2 h3 h4
  exact ⟨h1, h2, Nat.le_trans h2 hk, h3, h4, fun i hi => by have := rng_e h3 h4 h1 hi; omega⟩
theorem x_rgtell {M : Mem} {F : Nat → Int32} {k w : Nat} (hk : k ≤ 6) (h : Rg M F (rngF F k)) (hw : w < 2 ∨ (10 ≤ w ∧ w < 16)) : f_X2_tell (nI w) M = some (rgV F (rngF F k) w, M) := by
  unfold f_X2_tell
  rcases h with ⟨e, h1⟩ | ⟨z, x, e, h1, h2, h3⟩
  · rw [e, h1]
    rfl
  · obtain ⟨z2, zk, z6, _, _, _⟩ := rng_ok hk e
    have q0 : ¬ nI z = nI 0 := by rw [nI_eq (by omega) (by omega)]; omega
    rw [e, h1]
    unfold rgV
    dsimp only
    rcases hw with hw | hw
    · rcases (show w = 0 ∨ w = 1 by omega) with rfl | rfl
      · simp (disch := omega) only [bnd_e, chk_tt, bn_s, bt_s, bt_x, inb_n, nI_clamp, le_t, le_f, lt_t, lt_f, eq_f, nI_add, pk_mul, ne_eq, not_true_eq_false, not_false_eq_true, ↓reduceIte, L0_, L1_, L2_, L3_, L4_, L5_, L6_, L7_, L8_, L9_, L10_, L11_, L12_, L13_, L14_, L15_, L16_, L20_, L22_, L23_, L24_, L25_, L30_, L31_, L32_, L33_, L36_, L40_, L41_, L45_, L48_, L60_, L63_, L64_, L97_, L100_, L107_, L108_, L126_, L150_, L200_, L294_, L366_, L402_, L408_, L414_, L420_, L421_, L422_, L423_, L424_, L425_, L426_, L427_, L428_, L999_, L2568_, L2996_, q0, f_X2_tell_30]
      · simp (disch := omega) only [bnd_e, chk_tt, bn_s, bt_s, bt_x, inb_n, nI_clamp, le_t, le_f, lt_t, lt_f, eq_f, nI_add, pk_mul, ne_eq, not_true_eq_false, not_false_eq_true, ↓reduceIte, L0_, L1_, L2_, L3_, L4_, L5_, L6_, L7_, L8_, L9_, L10_, L11_, L12_, L13_, L14_, L15_, L16_, L20_, L22_, L23_, L24_, L25_, L30_, L31_, L32_, L33_, L36_, L40_, L41_, L45_, L48_, L60_, L63_, L64_, L97_, L100_, L107_, L108_, L126_, L150_, L200_, L294_, L366_, L402_, L408_, L414_, L420_, L421_, L422_, L423_, L424_, L425_, L426_, L427_, L428_, L999_, L2568_, L2996_, q0, f_X2_tell_30, n10]
        rw [h2, if_neg (by omega)]
    · obtain ⟨i, rfl⟩ : ∃ i, w = 10 + i := ⟨w - 10, by omega⟩
      rw [if_neg (show ¬ 10 + i = 0 by omega), if_neg (show ¬ 10 + i = 1 by omega), show 10 + i - 10 = i by omega]
      have e10 : nI (10 + i) - nI 10 = nI i := by rw [pk_sub (by omega)]; congr 1; omega
      by_cases q : i < z
      · simp (disch := omega) only [bnd_e, chk_tt, bn_s, bt_s, bt_x, inb_n, nI_clamp, le_t, le_f, lt_t, lt_f, eq_f, nI_add, pk_mul, ne_eq, not_true_eq_false, not_false_eq_true, ↓reduceIte, L0_, L1_, L2_, L3_, L4_, L5_, L6_, L7_, L8_, L9_, L10_, L11_, L12_, L13_, L14_, L15_, L16_, L20_, L22_, L23_, L24_, L25_, L30_, L31_, L32_, L33_, L36_, L40_, L41_, L45_, L48_, L60_, L63_, L64_, L97_, L100_, L107_, L108_, L126_, L150_, L200_, L294_, L366_, L402_, L408_, L414_, L420_, L421_, L422_, L423_, L424_, L425_, L426_, L427_, L428_, L999_, L2568_, L2996_, q0, e10, f_X2_tell_54]
        rw [h3 i q, if_pos q]
      · simp (disch := omega) only [bnd_e, chk_tt, bn_s, bt_s, bt_x, inb_n, nI_clamp, le_t, le_f, lt_t, lt_f, eq_f, nI_add, pk_mul, ne_eq, not_true_eq_false, not_false_eq_true, ↓reduceIte, L0_, L1_, L2_, L3_, L4_, L5_, L6_, L7_, L8_, L9_, L10_, L11_, L12_, L13_, L14_, L15_, L16_, L20_, L22_, L23_, L24_, L25_, L30_, L31_, L32_, L33_, L36_, L40_, L41_, L45_, L48_, L60_, L63_, L64_, L97_, L100_, L107_, L108_, L126_, L150_, L200_, L294_, L366_, L402_, L408_, L414_, L420_, L421_, L422_, L423_, L424_, L425_, L426_, L427_, L428_, L999_, L2568_, L2996_, q0, e10, f_X2_tell_54]
        rw [if_neg q]
theorem m_rgtell {M : Mem} {F : Nat → Int32} {k w : Nat} (hS : SI F k) (hF : Mo M F) (hw : w < 2 ∨ (10 ≤ w ∧ w < 16)) : ∃ M', f_X7_ringOf (nI w) M = some (rgV F (rngF F k) w, M') ∧ ag aG M M' := by
  have hk := hS.1
  obtain ⟨M1, e1, a1, r1⟩ := m_finds hS hF
  have hF1 : Mo M1 F := hF.ag (aG_Q a1)
  refine ⟨M1, ?_, a1⟩
  unfold f_X7_ringOf
  rw [e1, bn_s]
  rcases r1 with ⟨e, h1⟩ | ⟨z, x, e, h1, h3⟩
  · rw [e]
    exact if_pos rfl
  · obtain ⟨z2, zk, z6, z3, z4, hx⟩ := rng_ok hk e
    rw [e]
    have q0 : ¬ b01 (some (z, x)) = 0 := show ¬ nI 1 = 0 by decide
    rw [if_neg q0, h1]
    unfold rgV
    dsimp only
    rcases hw with hw | hw
    · rcases (show w = 0 ∨ w = 1 by omega) with rfl | rfl
      · simp (disch := omega) only [bnd_e, chk_tt, bn_s, bt_s, bt_x, inb_n, nI_clamp, le_t, le_f, lt_t, lt_f, eq_f, nI_add, pk_mul, ne_eq, not_true_eq_false, not_false_eq_true, ↓reduceIte, L0_, L1_, L2_, L3_, L4_, L5_, L6_, L7_, L8_, L9_, L10_, L11_, L12_, L13_, L14_, L15_, L16_, L20_, L22_, L23_, L24_, L25_, L30_, L31_, L32_, L33_, L36_, L40_, L41_, L45_, L48_, L60_, L63_, L64_, L97_, L100_, L107_, L108_, L126_, L150_, L200_, L294_, L366_, L402_, L408_, L414_, L420_, L421_, L422_, L423_, L424_, L425_, L426_, L427_, L428_, L999_, L2568_, L2996_, f_X7_ringOf_29]
      · simp (disch := omega) only [bnd_e, chk_tt, bn_s, bt_s, bt_x, inb_n, nI_clamp, le_t, le_f, lt_t, lt_f, eq_f, nI_add, pk_mul, ne_eq, not_true_eq_false, not_false_eq_true, ↓reduceIte, L0_, L1_, L2_, L3_, L4_, L5_, L6_, L7_, L8_, L9_, L10_, L11_, L12_, L13_, L14_, L15_, L16_, L20_, L22_, L23_, L24_, L25_, L30_, L31_, L32_, L33_, L36_, L40_, L41_, L45_, L48_, L60_, L63_, L64_, L97_, L100_, L107_, L108_, L126_, L150_, L200_, L294_, L366_, L402_, L408_, L414_, L420_, L421_, L422_, L423_, L424_, L425_, L426_, L427_, L428_, L999_, L2568_, L2996_, f_X7_ringOf_29, n10, m_least z6 z2 hF1 h1 h3 hx]
        rw [if_neg (by omega)]
    · obtain ⟨i, rfl⟩ : ∃ i, w = 10 + i := ⟨w - 10, by omega⟩
      rw [if_neg (show ¬ 10 + i = 0 by omega), if_neg (show ¬ 10 + i = 1 by omega), show 10 + i - 10 = i by omega]
      have e10 : nI (10 + i) - nI 10 = nI i := by rw [pk_sub (by omega)]; congr 1; omega
      by_cases q : i < z
      · simp (disch := omega) only [bnd_e, chk_tt, bn_s, bt_s, bt_x, inb_n, nI_clamp, le_t, le_f, lt_t, lt_f, eq_f, nI_add, pk_mul, ne_eq, not_true_eq_false, not_false_eq_true, ↓reduceIte, L0_, L1_, L2_, L3_, L4_, L5_, L6_, L7_, L8_, L9_, L10_, L11_, L12_, L13_, L14_, L15_, L16_, L20_, L22_, L23_, L24_, L25_, L30_, L31_, L32_, L33_, L36_, L40_, L41_, L45_, L48_, L60_, L63_, L64_, L97_, L100_, L107_, L108_, L126_, L150_, L200_, L294_, L366_, L402_, L408_, L414_, L420_, L421_, L422_, L423_, L424_, L425_, L426_, L427_, L428_, L999_, L2568_, L2996_, e10, f_X7_ringOf_54]
        rw [h3 i q, if_pos q]
      · simp (disch := omega) only [bnd_e, chk_tt, bn_s, bt_s, bt_x, inb_n, nI_clamp, le_t, le_f, lt_t, lt_f, eq_f, nI_add, pk_mul, ne_eq, not_true_eq_false, not_false_eq_true, ↓reduceIte, L0_, L1_, L2_, L3_, L4_, L5_, L6_, L7_, L8_, L9_, L10_, L11_, L12_, L13_, L14_, L15_, L16_, L20_, L22_, L23_, L24_, L25_, L30_, L31_, L32_, L33_, L36_, L40_, L41_, L45_, L48_, L60_, L63_, L64_, L97_, L100_, L107_, L108_, L126_, L150_, L200_, L294_, L366_, L402_, L408_, L414_, L420_, L421_, L422_, L423_, L424_, L425_, L426_, L427_, L428_, L999_, L2568_, L2996_, e10, f_X7_ringOf_54]
        rw [if_neg q]
theorem o_ring {M : Mem} (h : Jt M) (a : Int32) : Op [exA] (f_X6_ring a) (f_X7_ring a) M := by
  obtain ⟨F, k, n, Sv, l, B, hX, hM, hS⟩ := h
  have hk := hS.1.1
  have hF := hX.1.1
  have good : ∀ w, (w < 2 ∨ (10 ≤ w ∧ w < 16)) → a = nI w → (f_X6_ring a M = f_X6_ring_27 a M) → (∀ M1, f_X7_ring a M1 = f_X7_ring_26 a (nI 0) M1) → Op [exA] (f_X6_ring a) (f_X7_ring a) M := by
    intro w hw e p1 p2
    subst e
    refine Op.q (r := .inl (rgV F (rngF F k) w)) hX hM hS ?_ (fun M1 h1 => ?_)
    · obtain ⟨M1, e1, a1, r1⟩ := x_find hS.1 hF
      refine ⟨M1, ?_, aF_Q a1⟩
      rw [p1]
      unfold f_X6_ring_27
      rw [e1, bn_s, x_rgtell hk r1 hw, bn_s]
    · obtain ⟨M2, e2, a2⟩ := m_rgtell hS.1 (h1.1.1.co (nI 0)) hw
      refine ⟨rgV F (rngF F k) w, nI 0, M2, ?_, aG_Q a2, .ok⟩
      rw [p2]
      unfold f_X7_ring_26
      rw [bnd_e, mw_eq, if_pos (show nI 0 = 0 from rfl), e2, bn_s]
      rfl
  rcases pl6 a with ⟨w, hw, rfl⟩ | ⟨i, hi, rfl⟩ | ⟨h2, h3⟩
  · refine good w (Or.inl hw) rfl ?_ (fun M1 => ?_)
    · unfold f_X6_ring
      rcases (show w = 0 ∨ w = 1 by omega) with rfl | rfl
      · simp (disch := omega) only [bnd_e, chk_tt, bn_s, bt_s, bt_x, inb_n, nI_clamp, le_t, le_f, lt_t, lt_f, eq_f, nI_add, pk_mul, ne_eq, not_true_eq_false, not_false_eq_true, ↓reduceIte, L0_, L1_, L2_, L3_, L4_, L5_, L6_, L7_, L8_, L9_, L10_, L11_, L12_, L13_, L14_, L15_, L16_, L20_, L22_, L23_, L24_, L25_, L30_, L31_, L32_, L33_, L36_, L40_, L41_, L45_, L48_, L60_, L63_, L64_, L97_, L100_, L107_, L108_, L126_, L150_, L200_, L294_, L366_, L402_, L408_, L414_, L420_, L421_, L422_, L423_, L424_, L425_, L426_, L427_, L428_, L999_, L2568_, L2996_]
      · simp (disch := omega) only [bnd_e, chk_tt, bn_s, bt_s, bt_x, inb_n, nI_clamp, le_t, le_f, lt_t, lt_f, eq_f, nI_add, pk_mul, ne_eq, not_true_eq_false, not_false_eq_true, ↓reduceIte, L0_, L1_, L2_, L3_, L4_, L5_, L6_, L7_, L8_, L9_, L10_, L11_, L12_, L13_, L14_, L15_, L16_, L20_, L22_, L23_, L24_, L25_, L30_, L31_, L32_, L33_, L36_, L40_, L41_, L45_, L48_, L60_, L63_, L64_, L97_, L100_, L107_, L108_, L126_, L150_, L200_, L294_, L366_, L402_, L408_, L414_, L420_, L421_, L422_, L423_, L424_, L425_, L426_, L427_, L428_, L999_, L2568_, L2996_, n10]
    · unfold f_X7_ring
      simp (disch := omega) only [bnd_e, chk_tt, bn_s, bt_s, bt_x, inb_n, nI_clamp, le_t, le_f, lt_t, lt_f, eq_f, nI_add, pk_mul, ne_eq, not_true_eq_false, not_false_eq_true, ↓reduceIte, L0_, L1_, L2_, L3_, L4_, L5_, L6_, L7_, L8_, L9_, L10_, L11_, L12_, L13_, L14_, L15_, L16_, L20_, L22_, L23_, L24_, L25_, L30_, L31_, L32_, L33_, L36_, L40_, L41_, L45_, L48_, L60_, L63_, L64_, L97_, L100_, L107_, L108_, L126_, L150_, L200_, L294_, L366_, L402_, L408_, L414_, L420_, L421_, L422_, L423_, L424_, L425_, L426_, L427_, L428_, L999_, L2568_, L2996_, m_i1, n10, f_X7_ring_21]
  · refine good (10 + i) (Or.inr (by omega)) rfl ?_ (fun M1 => ?_)
    · unfold f_X6_ring
      simp (disch := omega) only [bnd_e, chk_tt, bn_s, bt_s, bt_x, inb_n, nI_clamp, le_t, le_f, lt_t, lt_f, eq_f, nI_add, pk_mul, ne_eq, not_true_eq_false, not_false_eq_true, ↓reduceIte, L0_, L1_, L2_, L3_, L4_, L5_, L6_, L7_, L8_, L9_, L10_, L11_, L12_, L13_, L14_, L15_, L16_, L20_, L22_, L23_, L24_, L25_, L30_, L31_, L32_, L33_, L36_, L40_, L41_, L45_, L48_, L60_, L63_, L64_, L97_, L100_, L107_, L108_, L126_, L150_, L200_, L294_, L366_, L402_, L408_, L414_, L420_, L421_, L422_, L423_, L424_, L425_, L426_, L427_, L428_, L999_, L2568_, L2996_, eq_f, x_pl1, n10]
    · unfold f_X7_ring
      have h2 : inb (nI (10 + i)) 2 = false := by
        cases e : inb (nI (10 + i)) 2 with
        | false => rfl
        | true =>
          obtain ⟨j, hj, e⟩ := inb_ex (by omega) e
          rw [nI_eq (by omega) (by omega)] at e
          omega
      simp (disch := omega) only [bnd_e, chk_tt, bn_s, bt_s, bt_x, inb_n, nI_clamp, le_t, le_f, lt_t, lt_f, eq_f, nI_add, pk_mul, ne_eq, not_true_eq_false, not_false_eq_true, ↓reduceIte, L0_, L1_, L2_, L3_, L4_, L5_, L6_, L7_, L8_, L9_, L10_, L11_, L12_, L13_, L14_, L15_, L16_, L20_, L22_, L23_, L24_, L25_, L30_, L31_, L32_, L33_, L36_, L40_, L41_, L45_, L48_, L60_, L63_, L64_, L97_, L100_, L107_, L108_, L126_, L150_, L200_, L294_, L366_, L402_, L408_, L414_, L420_, L421_, L422_, L423_, L424_, L425_, L426_, L427_, L428_, L999_, L2568_, L2996_, m_i0 (b := 1) (by omega) h2, m_pl1, n10, f_X7_ring_21]
  · refine Op.q (r := .inr exA) hX hM hS ⟨M, ?_, ag.rf⟩ (fun M1 h1 => ⟨nI 0, nI 1, mw M1 24 2 (nI 1), ?_, ag.rf, .e1⟩)
    · unfold f_X6_ring
      simp (disch := omega) only [bnd_e, chk_tt, bn_s, bt_s, bt_x, inb_n, nI_clamp, le_t, le_f, lt_t, lt_f, eq_f, nI_add, pk_mul, ne_eq, not_true_eq_false, not_false_eq_true, ↓reduceIte, L0_, L1_, L2_, L3_, L4_, L5_, L6_, L7_, L8_, L9_, L10_, L11_, L12_, L13_, L14_, L15_, L16_, L20_, L22_, L23_, L24_, L25_, L30_, L31_, L32_, L33_, L36_, L40_, L41_, L45_, L48_, L60_, L63_, L64_, L97_, L100_, L107_, L108_, L126_, L150_, L200_, L294_, L366_, L402_, L408_, L414_, L420_, L421_, L422_, L423_, L424_, L425_, L426_, L427_, L428_, L999_, L2568_, L2996_, ninb h2, x_pl0 h3]
    · unfold f_X7_ring
      simp (disch := omega) only [bnd_e, chk_tt, bn_s, bt_s, bt_x, inb_n, nI_clamp, le_t, le_f, lt_t, lt_f, eq_f, nI_add, pk_mul, ne_eq, not_true_eq_false, not_false_eq_true, ↓reduceIte, L0_, L1_, L2_, L3_, L4_, L5_, L6_, L7_, L8_, L9_, L10_, L11_, L12_, L13_, L14_, L15_, L16_, L20_, L22_, L23_, L24_, L25_, L30_, L31_, L32_, L33_, L36_, L40_, L41_, L45_, L48_, L60_, L63_, L64_, L97_, L100_, L107_, L108_, L126_, L150_, L200_, L294_, L366_, L402_, L408_, L414_, L420_, L421_, L422_, L423_, L424_, L425_, L426_, L427_, L428_, L999_, L2568_, L2996_, m_i0 (b := 1) (by omega) h2, m_pl0 h3, f_X7_ring_26, f_X7_ring_45, mw_eq, n10]
