/-! ===== the reference's reads ===== -/
theorem m_in (v a b : Int32) (M : Mem) : f_X7_in v a b M = some (if v < a then nI 0 else if b < v then nI 0 else nI 1, M) := by
  unfold f_X7_in f_X7_in_14 f_X7_in_15
  split
  · rfl
  · split <;> rfl
theorem m_bits4 (v : Int32) (M : Mem) : ∀ (c j : Nat) (a : Int32) (n : Nat), j + c = 12 → c < n → f_X7_bits_4 n v a (nI j) M = some (acl (bitK v) c j a, M) := by
  intro c
  induction c with
  | zero =>
    intro j a n h hn
    obtain ⟨n, rfl, -⟩ := suc hn
    rw [f_X7_bits_4]
    simp (disch := omega) only [bnd_e, chk_tt, bn_s, bt_s, bt_x, inb_n, nI_clamp, le_t, le_f, lt_t, lt_f, eq_f, nI_add, pk_mul, ne_eq, not_true_eq_false, not_false_eq_true, ↓reduceIte, L0_, L1_, L2_, L3_, L4_, L5_, L6_, L7_, L8_, L9_, L10_, L11_, L12_, L13_, L14_, L15_, L16_, L20_, L22_, L23_, L24_, L25_, L30_, L31_, L32_, L33_, L36_, L40_, L41_, L45_, L48_, L60_, L63_, L64_, L97_, L100_, L107_, L108_, L126_, L150_, L200_, L294_, L366_, L402_, L408_, L414_, L420_, L421_, L422_, L423_, L424_, L425_, L426_, L427_, L428_, L999_, L2568_, L2996_]
    rfl
  | succ c ih =>
    intro j a n h hn
    obtain ⟨n, rfl, -⟩ := suc hn
    rw [f_X7_bits_4]
    simp (disch := omega) only [bnd_e, chk_tt, bn_s, bt_s, bt_x, inb_n, nI_clamp, le_t, le_f, lt_t, lt_f, eq_f, nI_add, pk_mul, ne_eq, not_true_eq_false, not_false_eq_true, ↓reduceIte, L0_, L1_, L2_, L3_, L4_, L5_, L6_, L7_, L8_, L9_, L10_, L11_, L12_, L13_, L14_, L15_, L16_, L20_, L22_, L23_, L24_, L25_, L30_, L31_, L32_, L33_, L36_, L40_, L41_, L45_, L48_, L60_, L63_, L64_, L97_, L100_, L107_, L108_, L126_, L150_, L200_, L294_, L366_, L402_, L408_, L414_, L420_, L421_, L422_, L423_, L424_, L425_, L426_, L427_, L428_, L999_, L2568_, L2996_]
    exact ih (j + 1) _ n (by omega) (by omega)
theorem m_bits (v : Int32) (M : Mem) : f_X7_bits v M = some (bitsI v, M) := m_bits4 v M 12 0 0 FU rfl (by decide)
theorem m_at (a b c : Int32) (M : Mem) : f_X7_at a b c M = some ((a + nI 24 * b) + c, M) := rfl
theorem m_owes (a b : Int32) (M : Mem) : f_X7_owes a b M = some ((nI 366 + nI 6 * a) + b, M) := rfl
theorem m_pins5 {M : Mem} {F : Nat → Int32} (hF : Mo M F) {r t : Nat} (hr : r + 24 * t + 24 ≤ 428) : ∀ (c j : Nat) (a : Int32) (n : Nat), j + c = 24 → c < n → f_X7_pinsOf_5 n (nI r) (nI t) a (nI j) M = some (acl (fun s => bitsI (F (r + 24 * t + s))) c j a, M) := by
  intro c
  induction c with
  | zero =>
    intro j a n h hn
    obtain ⟨n, rfl, -⟩ := suc hn
    rw [f_X7_pinsOf_5]
    simp (disch := omega) only [bnd_e, chk_tt, bn_s, bt_s, bt_x, inb_n, nI_clamp, le_t, le_f, lt_t, lt_f, eq_f, nI_add, pk_mul, ne_eq, not_true_eq_false, not_false_eq_true, ↓reduceIte, L0_, L1_, L2_, L3_, L4_, L5_, L6_, L7_, L8_, L9_, L10_, L11_, L12_, L13_, L14_, L15_, L16_, L20_, L22_, L23_, L24_, L25_, L30_, L31_, L32_, L33_, L36_, L40_, L41_, L45_, L48_, L60_, L63_, L64_, L97_, L100_, L107_, L108_, L126_, L150_, L200_, L294_, L366_, L402_, L408_, L414_, L420_, L421_, L422_, L423_, L424_, L425_, L426_, L427_, L428_, L999_, L2568_, L2996_]
    rfl
  | succ c ih =>
    intro j a n h hn
    obtain ⟨n, rfl, -⟩ := suc hn
    rw [f_X7_pinsOf_5]
    simp (disch := omega) only [bnd_e, chk_tt, bn_s, bt_s, bt_x, inb_n, nI_clamp, le_t, le_f, lt_t, lt_f, eq_f, nI_add, pk_mul, ne_eq, not_true_eq_false, not_false_eq_true, ↓reduceIte, L0_, L1_, L2_, L3_, L4_, L5_, L6_, L7_, L8_, L9_, L10_, L11_, L12_, L13_, L14_, L15_, L16_, L20_, L22_, L23_, L24_, L25_, L30_, L31_, L32_, L33_, L36_, L40_, L41_, L45_, L48_, L60_, L63_, L64_, L97_, L100_, L107_, L108_, L126_, L150_, L200_, L294_, L366_, L402_, L408_, L414_, L420_, L421_, L422_, L423_, L424_, L425_, L426_, L427_, L428_, L999_, L2568_, L2996_, m_at, m_bits]
    rw [hF _ (by omega)]
    exact ih (j + 1) _ n (by omega) (by omega)
theorem m_pins {M : Mem} {F : Nat → Int32} (hF : Mo M F) {r t : Nat} (hr : r + 24 * t + 24 ≤ 428) : f_X7_pinsOf (nI r) (nI t) M = some (pinsF F r t, M) := m_pins5 hF hr 24 0 _ FU rfl (by decide)
