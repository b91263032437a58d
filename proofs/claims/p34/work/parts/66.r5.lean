/-! ===== ring, side by side ===== -/
theorem aF_Q {M M' : Mem} (a : ag aF M M') : ag xQ M M' := a.mono (fun c i q => by unfold xQ at q; unfold aF; omega)
theorem aG_Q {M M' : Mem} (a : ag aG M M') : ag mQ M M' := a.mono (fun c i q => by unfold mQ at q; unfold aG; omega)
theorem pl6 (a : Int32) : (∃ w, w < 2 ∧ a = nI w) ∨ (∃ i, i < 6 ∧ a = nI (10 + i)) ∨ (inb a 2 = false ∧ (a < nI 10 ∨ nI 15 < a)) := by
  rcases inb_cs a (show 2 < 2 ^ 31 by omega) with ha | ⟨w, hw, rfl⟩
  · right
    rcases pk_ix a (show 16 < 2 ^ 31 by omega) with q | q | ⟨j, hj, rfl⟩
    · exact Or.inr ⟨ha, Or.inl (Int32.lt_of_lt_of_le q (by decide))⟩
    · exact Or.inr ⟨ha, Or.inr (Int32.lt_of_lt_of_le (show nI 15 < nI 16 by decide) q)⟩
    · by_cases z : j < 10
      · exact Or.inr ⟨ha, Or.inl ((nI_ltI (by omega) (by omega)).mpr z)⟩
      · exact Or.inl ⟨j - 10, by omega, by rw [show 10 + (j - 10) = j by omega]⟩
  · exact Or.inl ⟨w, hw, rfl⟩
section RP
variable {M : Mem}
theorem x_pl1 {i : Nat} (hi : i < 6) : f_X6_isPlace (nI (10 + i)) M = some (nI 1, M) := by
  unfold f_X6_isPlace
  simp (disch := omega) only [bnd_e, chk_tt, bn_s, bt_s, bt_x, inb_n, nI_clamp, le_t, le_f, lt_t, lt_f, eq_f, nI_add, pk_mul, ne_eq, not_true_eq_false, not_false_eq_true, ↓reduceIte, L0_, L1_, L2_, L3_, L4_, L5_, L6_, L7_, L8_, L9_, L10_, L11_, L12_, L13_, L14_, L15_, L16_, L20_, L22_, L23_, L24_, L25_, L30_, L31_, L32_, L33_, L36_, L40_, L41_, L45_, L48_, L60_, L63_, L64_, L97_, L100_, L107_, L108_, L126_, L150_, L200_, L294_, L366_, L402_, L408_, L414_, L420_, L421_, L422_, L423_, L424_, L425_, L426_, L427_, L428_, L999_, L2568_, L2996_, f_X6_isPlace_17, isb1]
theorem x_pl0 {a : Int32} (h : a < nI 10 ∨ nI 15 < a) : f_X6_isPlace a M = some (nI 0, M) := by
  unfold f_X6_isPlace
  rw [show ((10 : Int32)) = nI 10 from rfl, show ((16 : Int32)) = nI 16 from rfl]
  by_cases w : a < nI 10
  · rw [if_pos w]; rfl
  · rw [if_neg w, if_pos]
    · rfl
    · rcases pk_ix a (show 16 < 2 ^ 31 by omega) with q | q | ⟨j, hj, rfl⟩
      · exact absurd (Int32.lt_of_lt_of_le q (by decide)) w
      · exact q
      · have := h.resolve_left w
        rw [nI_ltI (by omega) (by omega)] at this
        omega
end RP
def rgV (F : Nat → Int32) (o : Option (Nat × (Nat → Nat))) (w : Nat) : Int32 := match o with
  | none => -nI 1
  | some (z, x) => if w = 0 then nI z else if w = 1 then lsF F x z else if w - 10 < z then nI (x (w - 10)) else -nI 1
theorem rng_ok {F : Nat → Int32} {k z : Nat} {x : Nat → Nat} (hk : k ≤ 6) (e : rngF F k = some (z, x)) : 2 ≤ z ∧ z ≤ k ∧ z ≤ 6 ∧ rok F k z x ∧ gp F (x (z - 1)) (x 0) = true ∧ ∀ i, i < z → x i < 6 ∧ fol x z i < 6 := by
  obtain ⟨h1, h2, h3, h4⟩ := fndS_ok 6 2 _ (Nat.le_refl _) e
  dsimp only at h1 h2 h3 h4
  exact ⟨h1, h2, Nat.le_trans h2 hk, h3, h4, fun i hi => by have := rng_e h3 h4 h1 hi; omega⟩
theorem x_rgtell {M : Mem} {F : Nat → Int32} {k w : Nat} (hk : k ≤ 6) (h : Rg M F (rngF F k)) (hw : w < 2 ∨ (10 ≤ w ∧ w < 16)) : f_X2_tell (nI w) M = some (rgV F (rngF F k) w, M) := by
  unfold f_X2_tell
  rcases h with ⟨e, h1⟩ | ⟨z, x, e, h1, h2, h3⟩
  · rw [e, h1]
    rfl
  · obtain ⟨z2, zk, z6, _, _, _⟩ := rng_ok hk e
    have q0 : ¬ nI z = nI 0 := by rw [nI_eq (by omega) (by omega)]; omega
    rw [e, h1]
    unfold rgV
    dsimp only
    rcases hw with hw | hw
    · rcases (show w = 0 ∨ w = 1 by omega) with rfl | rfl
      · simp (disch := omega) only [bnd_e, chk_tt, bn_s, bt_s, bt_x, inb_n, nI_clamp, le_t, le_f, lt_t, lt_f, eq_f, nI_add, pk_mul, ne_eq, not_true_eq_false, not_false_eq_true, ↓reduceIte, L0_, L1_, L2_, L3_, L4_, L5_, L6_, L7_, L8_, L9_, L10_, L11_, L12_, L13_, L14_, L15_, L16_, L20_, L22_, L23_, L24_, L25_, L30_, L31_, L32_, L33_, L36_, L40_, L41_, L45_, L48_, L60_, L63_, L64_, L97_, L100_, L107_, L108_, L126_, L150_, L200_, L294_, L366_, L402_, L408_, L414_, L420_, L421_, L422_, L423_, L424_, L425_, L426_, L427_, L428_, L999_, L2568_, L2996_, q0, f_X2_tell_30]
      · simp (disch := omega) only [bnd_e, chk_tt, bn_s, bt_s, bt_x, inb_n, nI_clamp, le_t, le_f, lt_t, lt_f, eq_f, nI_add, pk_mul, ne_eq, not_true_eq_false, not_false_eq_true, ↓reduceIte, L0_, L1_, L2_, L3_, L4_, L5_, L6_, L7_, L8_, L9_, L10_, L11_, L12_, L13_, L14_, L15_, L16_, L20_, L22_, L23_, L24_, L25_, L30_, L31_, L32_, L33_, L36_, L40_, L41_, L45_, L48_, L60_, L63_, L64_, L97_, L100_, L107_, L108_, L126_, L150_, L200_, L294_, L366_, L402_, L408_, L414_, L420_, L421_, L422_, L423_, L424_, L425_, L426_, L427_, L428_, L999_, L2568_, L2996_, q0, f_X2_tell_30, n10]
        rw [h2, if_neg (by omega)]
    · obtain ⟨i, rfl⟩ : ∃ i, w = 10 + i := ⟨w - 10, by omega⟩
      rw [if_neg (show ¬ 10 + i = 0 by omega), if_neg (show ¬ 10 + i = 1 by omega), show 10 + i - 10 = i by omega]
      have e10 : nI (10 + i) - nI 10 = nI i := by rw [pk_sub (by omega)]; congr 1; omega
      by_cases q : i < z
      · simp (disch := omega) only [bnd_e, chk_tt, bn_s, bt_s, bt_x, inb_n, nI_clamp, le_t, le_f, lt_t, lt_f, eq_f, nI_add, pk_mul, ne_eq, not_true_eq_false, not_false_eq_true, ↓reduceIte, L0_, L1_, L2_, L3_, L4_, L5_, L6_, L7_, L8_, L9_, L10_, L11_, L12_, L13_, L14_, L15_, L16_, L20_, L22_, L23_, L24_, L25_, L30_, L31_, L32_, L33_, L36_, L40_, L41_, L45_, L48_, L60_, L63_, L64_, L97_, L100_, L107_, L108_, L126_, L150_, L200_, L294_, L366_, L402_, L408_, L414_, L420_, L421_, L422_, L423_, L424_, L425_, L426_, L427_, L428_, L999_, L2568_, L2996_, q0, e10, f_X2_tell_54]
        rw [h3 i q, if_pos q]
      · simp (disch := omega) only [bnd_e, chk_tt, bn_s, bt_s, bt_x, inb_n, nI_clamp, le_t, le_f, lt_t, lt_f, eq_f, nI_add, pk_mul, ne_eq, not_true_eq_false, not_false_eq_true, ↓reduceIte, L0_, L1_, L2_, L3_, L4_, L5_, L6_, L7_, L8_, L9_, L10_, L11_, L12_, L13_, L14_, L15_, L16_, L20_, L22_, L23_, L24_, L25_, L30_, L31_, L32_, L33_, L36_, L40_, L41_, L45_, L48_, L60_, L63_, L64_, L97_, L100_, L107_, L108_, L126_, L150_, L200_, L294_, L366_, L402_, L408_, L414_, L420_, L421_, L422_, L423_, L424_, L425_, L426_, L427_, L428_, L999_, L2568_, L2996_, q0, e10, f_X2_tell_54]
        rw [if_neg q]
