/-! ===== the class's reads ===== -/
theorem add0 (x : Int32) : x + nI 0 = x := by rw [show nI 0 = (0 : Int32) from rfl]; exact Int32.add_zero x
theorem ofN (n : Nat) : Int32.ofNat n = nI n := rfl
theorem x_size10 {M : Mem} {k n : Nat} {f : Nat → Int32} (hk : kd k = 8) (ha : al k = n) (hn9 : n ≤ 64) (hf : ∀ j, j < n → M.1 k j = f j) (hm : ∀ j, j < n → msk (f j)) : ∀ (c j : Nat) (a : Int32) (m : Nat), j + c = n → c < m → f_X6_sizeOf_10 m a k (nI n) (nI j) M = some (acl (fun s => bitsI (f s)) c j a, M) := by
  intro c
  induction c with
  | zero =>
    intro j a m h hm9
    obtain ⟨m, rfl, -⟩ := suc hm9
    rw [f_X6_sizeOf_10]
    simp (disch := omega) only [bnd_e, chk_tt, bn_s, bt_s, bt_x, inb_n, nI_clamp, le_t, le_f, lt_t, lt_f, eq_f, nI_add, pk_mul, ne_eq, not_true_eq_false, not_false_eq_true, ↓reduceIte, L0_, L1_, L2_, L3_, L4_, L5_, L6_, L7_, L8_, L9_, L10_, L11_, L12_, L13_, L14_, L15_, L16_, L20_, L22_, L23_, L24_, L25_, L30_, L31_, L32_, L33_, L36_, L40_, L41_, L45_, L48_, L60_, L63_, L64_, L97_, L100_, L107_, L108_, L126_, L150_, L200_, L294_, L366_, L402_, L408_, L414_, L420_, L421_, L422_, L423_, L424_, L425_, L426_, L427_, L428_, L999_, L2568_, L2996_]
    rfl
  | succ c ih =>
    intro j a m h hm9
    obtain ⟨m, rfl, -⟩ := suc hm9
    rw [f_X6_sizeOf_10]
    simp (disch := omega) only [bnd_e, chk_tt, bn_s, bt_s, bt_x, inb_n, nI_clamp, le_t, le_f, lt_t, lt_f, eq_f, nI_add, pk_mul, ne_eq, not_true_eq_false, not_false_eq_true, ↓reduceIte, L0_, L1_, L2_, L3_, L4_, L5_, L6_, L7_, L8_, L9_, L10_, L11_, L12_, L13_, L14_, L15_, L16_, L20_, L22_, L23_, L24_, L25_, L30_, L31_, L32_, L33_, L36_, L40_, L41_, L45_, L48_, L60_, L63_, L64_, L97_, L100_, L107_, L108_, L126_, L150_, L200_, L294_, L366_, L402_, L408_, L414_, L420_, L421_, L422_, L423_, L424_, L425_, L426_, L427_, L428_, L999_, L2568_, L2996_, kb_t hk, ha, j_bit]
    rw [hf j (by omega), popJ_m (hm j (by omega))]
    exact ih (j + 1) _ m (by omega) (by omega)
theorem x_size {M : Mem} {k n : Nat} {f : Nat → Int32} (hk : kd k = 8) (ha : al k = n) (hn9 : n ≤ 64) (hf : ∀ j, j < n → M.1 k j = f j) (hm : ∀ j, j < n → msk (f j)) : f_X6_sizeOf k M = some (sumI (fun s => bitsI (f s)) n, M) := by
  unfold f_X6_sizeOf
  simp (disch := omega) only [bnd_e, chk_tt, bn_s, bt_s, bt_x, inb_n, nI_clamp, le_t, le_f, lt_t, lt_f, eq_f, nI_add, pk_mul, ne_eq, not_true_eq_false, not_false_eq_true, ↓reduceIte, L0_, L1_, L2_, L3_, L4_, L5_, L6_, L7_, L8_, L9_, L10_, L11_, L12_, L13_, L14_, L15_, L16_, L20_, L22_, L23_, L24_, L25_, L30_, L31_, L32_, L33_, L36_, L40_, L41_, L45_, L48_, L60_, L63_, L64_, L97_, L100_, L107_, L108_, L126_, L150_, L200_, L294_, L366_, L402_, L408_, L414_, L420_, L421_, L422_, L423_, L424_, L425_, L426_, L427_, L428_, L999_, L2568_, L2996_, kb_t hk, ha, ofN]
  exact x_size10 hk ha hn9 hf hm n 0 _ FU (by omega) (by show n < 100000; omega)
theorem x_shared4 {M : Mem} {k l : Nat} {f g : Nat → Int32} (hk : kd k = 8) (ha : al k = 24) (hl : kd l = 8) (hb : al l = 24) (hf : ∀ j, j < 24 → M.1 k j = f j) (hg : ∀ j, j < 24 → M.1 l j = g j) (hm : ∀ j, j < 24 → msk (f j)) : ∀ (c j : Nat) (a : Int32) (m : Nat), j + c = 24 → c < m → f_X6_sharedBy_4 m k l a (nI j) M = some (acl (fun s => bitsI (f s &&& g s)) c j a, M) := by
  intro c
  induction c with
  | zero =>
    intro j a m h hm9
    obtain ⟨m, rfl, -⟩ := suc hm9
    rw [f_X6_sharedBy_4]
    simp (disch := omega) only [bnd_e, chk_tt, bn_s, bt_s, bt_x, inb_n, nI_clamp, le_t, le_f, lt_t, lt_f, eq_f, nI_add, pk_mul, ne_eq, not_true_eq_false, not_false_eq_true, ↓reduceIte, L0_, L1_, L2_, L3_, L4_, L5_, L6_, L7_, L8_, L9_, L10_, L11_, L12_, L13_, L14_, L15_, L16_, L20_, L22_, L23_, L24_, L25_, L30_, L31_, L32_, L33_, L36_, L40_, L41_, L45_, L48_, L60_, L63_, L64_, L97_, L100_, L107_, L108_, L126_, L150_, L200_, L294_, L366_, L402_, L408_, L414_, L420_, L421_, L422_, L423_, L424_, L425_, L426_, L427_, L428_, L999_, L2568_, L2996_]
    rfl
  | succ c ih =>
    intro j a m h hm9
    obtain ⟨m, rfl, -⟩ := suc hm9
    rw [f_X6_sharedBy_4]
    simp (disch := omega) only [bnd_e, chk_tt, bn_s, bt_s, bt_x, inb_n, nI_clamp, le_t, le_f, lt_t, lt_f, eq_f, nI_add, pk_mul, ne_eq, not_true_eq_false, not_false_eq_true, ↓reduceIte, L0_, L1_, L2_, L3_, L4_, L5_, L6_, L7_, L8_, L9_, L10_, L11_, L12_, L13_, L14_, L15_, L16_, L20_, L22_, L23_, L24_, L25_, L30_, L31_, L32_, L33_, L36_, L40_, L41_, L45_, L48_, L60_, L63_, L64_, L97_, L100_, L107_, L108_, L126_, L150_, L200_, L294_, L366_, L402_, L408_, L414_, L420_, L421_, L422_, L423_, L424_, L425_, L426_, L427_, L428_, L999_, L2568_, L2996_, kb_t hk, ha, kb_t hl, hb, j_bit]
    rw [hf j (by omega), hg j (by omega), popJ_m (msk_and (hm j (by omega)))]
    exact ih (j + 1) _ m (by omega) (by omega)
section XR
variable {M : Mem} {L k : Nat} {F : Nat → Int32}
theorem x_shared (h : LR M L F) (hL : isL L) (hS : SI F k) {d t : Nat} (hd : d < 6) (ht : t < 6) : f_X6_sharedBy (tc L d + 1) (tc L t + 2) M = some (rightF F d t 0, M) := by
  unfold f_X6_sharedBy
  have := x_shared4 (f := fun s => F (6 + 24 * d + s)) (g := fun s => F (150 + 24 * t + (s + 0) % 24)) (kTd (kT hL hd)) (aTd (kT hL hd)) (kTt (kT hL ht)) (aTt (kT hL ht)) (fun j hj => h.drum hd hj) (fun j hj => by rw [h.tune ht hj]; congr 1; omega) (fun j hj => hS.2.2.1 _ (by omega) (by omega)) 24 0 (nI 0) FU rfl (by decide)
  exact this
theorem x_right (h : LR M L F) (hL : isL L) (hS : SI F k) {t : Nat} (ht : t < 6) : f_X3_rightPins (tc L t) M = some (rightF F t t 0, M) := by
  unfold f_X3_rightPins
  simp (disch := omega) only [bnd_e, chk_tt, bn_s, bt_s, bt_x, inb_n, nI_clamp, le_t, le_f, lt_t, lt_f, eq_f, nI_add, pk_mul, ne_eq, not_true_eq_false, not_false_eq_true, ↓reduceIte, L0_, L1_, L2_, L3_, L4_, L5_, L6_, L7_, L8_, L9_, L10_, L11_, L12_, L13_, L14_, L15_, L16_, L20_, L22_, L23_, L24_, L25_, L30_, L31_, L32_, L33_, L36_, L40_, L41_, L45_, L48_, L60_, L63_, L64_, L97_, L100_, L107_, L108_, L126_, L150_, L200_, L294_, L366_, L402_, L408_, L414_, L420_, L421_, L422_, L423_, L424_, L425_, L426_, L427_, L428_, L999_, L2568_, L2996_, kbT hL, x_shared h hL hS]
theorem x_drum (h : LR M L F) (hL : isL L) (hS : SI F k) {t : Nat} (ht : t < 6) : f_X6_sizeOf (tc L t + 1) M = some (pinsF F 6 t, M) :=
  x_size (kTd (kT hL ht)) (aTd (kT hL ht)) (by omega) (fun j hj => h.drum ht hj) (fun j hj => hS.2.2.1 _ (by omega) (by omega))
theorem x_tune (h : LR M L F) (hL : isL L) (hS : SI F k) {t : Nat} (ht : t < 6) : f_X6_sizeOf (tc L t + 2) M = some (pinsF F 150 t, M) :=
  x_size (kTt (kT hL ht)) (aTt (kT hL ht)) (by omega) (fun j hj => h.tune ht hj) (fun j hj => hS.2.2.1 _ (by omega) (by omega))
theorem x_ift4 (h : LR M L F) (hL : isL L) (hS : SI F k) {t b : Nat} (ht : t < 6) (hb : b < 24) : ∀ (c j : Nat) (a : Int32) (n : Nat), j + c = 24 → c < n → f_X3_rightIfTurned_4 n (tc L t) (nI b) a (nI j) M = some (acl (fun s => bitsI (F (6 + 24 * t + s) &&& F (150 + 24 * t + (s + b) % 24))) c j a, M) := by
  intro c
  induction c with
  | zero =>
    intro j a n h9 hn
    obtain ⟨n, rfl, -⟩ := suc hn
    rw [f_X3_rightIfTurned_4]
    simp (disch := omega) only [bnd_e, chk_tt, bn_s, bt_s, bt_x, inb_n, nI_clamp, le_t, le_f, lt_t, lt_f, eq_f, nI_add, pk_mul, ne_eq, not_true_eq_false, not_false_eq_true, ↓reduceIte, L0_, L1_, L2_, L3_, L4_, L5_, L6_, L7_, L8_, L9_, L10_, L11_, L12_, L13_, L14_, L15_, L16_, L20_, L22_, L23_, L24_, L25_, L30_, L31_, L32_, L33_, L36_, L40_, L41_, L45_, L48_, L60_, L63_, L64_, L97_, L100_, L107_, L108_, L126_, L150_, L200_, L294_, L366_, L402_, L408_, L414_, L420_, L421_, L422_, L423_, L424_, L425_, L426_, L427_, L428_, L999_, L2568_, L2996_]
    rfl
  | succ c ih =>
    intro j a n h9 hn
    obtain ⟨n, rfl, -⟩ := suc hn
    rw [f_X3_rightIfTurned_4]
    simp (disch := omega) only [bnd_e, chk_tt, bn_s, bt_s, bt_x, inb_n, nI_clamp, le_t, le_f, lt_t, lt_f, eq_f, nI_add, pk_mul, ne_eq, not_true_eq_false, not_false_eq_true, ↓reduceIte, L0_, L1_, L2_, L3_, L4_, L5_, L6_, L7_, L8_, L9_, L10_, L11_, L12_, L13_, L14_, L15_, L16_, L20_, L22_, L23_, L24_, L25_, L30_, L31_, L32_, L33_, L36_, L40_, L41_, L45_, L48_, L60_, L63_, L64_, L97_, L100_, L107_, L108_, L126_, L150_, L200_, L294_, L366_, L402_, L408_, L414_, L420_, L421_, L422_, L423_, L424_, L425_, L426_, L427_, L428_, L999_, L2568_, L2996_, kbT hL, pk_rem, j_bit]
    rw [h.drum ht (by omega), h.tune ht (by omega), popJ_m (msk_and (hS.2.2.1 _ (by omega) (by omega)))]
    exact ih (j + 1) _ n (by omega) (by omega)
theorem x_ift (h : LR M L F) (hL : isL L) (hS : SI F k) {t b : Nat} (ht : t < 6) (hb : b < 24) : f_X3_rightIfTurned (tc L t) (nI b) M = some (rightF F t t b, M) := x_ift4 h hL hS ht hb 24 0 _ FU rfl (by decide)
theorem x_dull11 {c9 : Nat} {W : Nat → Int32} {du : Int32} (hk : kd c9 = 8) (ha : al c9 = 12) (hW : ∀ j, j < 12 → M.1 c9 j = W j) : ∀ (c j : Nat) (a : Int32) (n : Nat), j + c = 12 → c < n → f_X6_dullTeeth_11 n du a c9 (nI 12) (nI j) M = some (acl (fun k => if W k < du then nI 0 else nI 1) c j a, M) := by
  intro c
  induction c with
  | zero =>
    intro j a n h9 hn
    obtain ⟨n, rfl, -⟩ := suc hn
    rw [f_X6_dullTeeth_11]
    simp (disch := omega) only [bnd_e, chk_tt, bn_s, bt_s, bt_x, inb_n, nI_clamp, le_t, le_f, lt_t, lt_f, eq_f, nI_add, pk_mul, ne_eq, not_true_eq_false, not_false_eq_true, ↓reduceIte, L0_, L1_, L2_, L3_, L4_, L5_, L6_, L7_, L8_, L9_, L10_, L11_, L12_, L13_, L14_, L15_, L16_, L20_, L22_, L23_, L24_, L25_, L30_, L31_, L32_, L33_, L36_, L40_, L41_, L45_, L48_, L60_, L63_, L64_, L97_, L100_, L107_, L108_, L126_, L150_, L200_, L294_, L366_, L402_, L408_, L414_, L420_, L421_, L422_, L423_, L424_, L425_, L426_, L427_, L428_, L999_, L2568_, L2996_]
    rfl
  | succ c ih =>
    intro j a n h9 hn
    obtain ⟨n, rfl, -⟩ := suc hn
    rw [f_X6_dullTeeth_11]
    simp (disch := omega) only [bnd_e, chk_tt, bn_s, bt_s, bt_x, inb_n, nI_clamp, le_t, le_f, lt_t, lt_f, eq_f, nI_add, pk_mul, ne_eq, not_true_eq_false, not_false_eq_true, ↓reduceIte, L0_, L1_, L2_, L3_, L4_, L5_, L6_, L7_, L8_, L9_, L10_, L11_, L12_, L13_, L14_, L15_, L16_, L20_, L22_, L23_, L24_, L25_, L30_, L31_, L32_, L33_, L36_, L40_, L41_, L45_, L48_, L60_, L63_, L64_, L97_, L100_, L107_, L108_, L126_, L150_, L200_, L294_, L366_, L402_, L408_, L414_, L420_, L421_, L422_, L423_, L424_, L425_, L426_, L427_, L428_, L999_, L2568_, L2996_, kb_t hk, ha, f_X6_dullTeeth_33]
    rw [hW j (by omega)]
    simp only [acl]
    by_cases q : W j < du
    · rw [if_pos q, if_pos q, add0]
      exact ih (j + 1) _ n (by omega) (by omega)
    · rw [if_neg q, if_neg q]
      exact ih (j + 1) _ n (by omega) (by omega)
theorem x_dull {c9 : Nat} {W : Nat → Int32} {du : Int32} (hk : kd c9 = 8) (ha : al c9 = 12) (hW : ∀ j, j < 12 → M.1 c9 j = W j) : f_X6_dullTeeth c9 du M = some (dullW W du, M) := by
  unfold f_X6_dullTeeth
  simp (disch := omega) only [bnd_e, chk_tt, bn_s, bt_s, bt_x, inb_n, nI_clamp, le_t, le_f, lt_t, lt_f, eq_f, nI_add, pk_mul, ne_eq, not_true_eq_false, not_false_eq_true, ↓reduceIte, L0_, L1_, L2_, L3_, L4_, L5_, L6_, L7_, L8_, L9_, L10_, L11_, L12_, L13_, L14_, L15_, L16_, L20_, L22_, L23_, L24_, L25_, L30_, L31_, L32_, L33_, L36_, L40_, L41_, L45_, L48_, L60_, L63_, L64_, L97_, L100_, L107_, L108_, L126_, L150_, L200_, L294_, L366_, L402_, L408_, L414_, L420_, L421_, L422_, L423_, L424_, L425_, L426_, L427_, L428_, L999_, L2568_, L2996_, kb_t hk, ha, ofN]
  exact x_dull11 hk ha hW 12 0 _ FU rfl (by decide)
theorem x_many (h : LR M L F) (hS : SI F k) : M.1 L 1 = nI k := h.many.trans hS.2.1
theorem acl0 {f : Nat → Int32} : ∀ (c j : Nat) (a : Int32), (∀ i, j ≤ i → i < j + c → f i = nI 0) → acl f c j a = a := by
  intro c
  induction c with
  | zero => intros; rfl
  | succ c ih =>
    intro j a h
    show acl f c (j + 1) (a + f j) = a
    rw [h j (Nat.le_refl _) (by omega), add0]
    exact ih (j + 1) a (fun i h1 h2 => h i (by omega) (by omega))
theorem acl_add {f : Nat → Int32} : ∀ (c c' j : Nat) (a : Int32), acl f (c + c') j a = acl f c' (j + c) (acl f c j a) := by
  intro c
  induction c with
  | zero => intro c' j a; rw [Nat.zero_add]; rfl
  | succ c ih =>
    intro c' j a
    rw [show c + 1 + c' = (c + c') + 1 by omega]
    show acl f (c + c') (j + 1) (a + f j) = acl f c' (j + (c + 1)) (acl f c (j + 1) (a + f j))
    rw [ih, show j + 1 + c = j + (c + 1) by omega]
/-- a sum's places behind k are empty -/
theorem sumI_cut {f : Nat → Int32} {k n : Nat} (hk : k ≤ n) (h : ∀ i, k ≤ i → i < n → f i = nI 0) : sumI f k = sumI f n := by
  unfold sumI
  obtain ⟨c, rfl⟩ : ∃ c, n = k + c := ⟨n - k, by omega⟩
  rw [acl_add, acl0 c]
  intro i h1 h2
  exact h i (by omega) (by omega)
theorem x_owes4 (h : LR M L F) (hL : isL L) (hS : SI F k) {t : Nat} (ht : t < 6) : ∀ (c j : Nat) (a : Int32) (n : Nat), j + c = k → c < n → f_X0_owedBy_4 n L (nI t) a (nI j) M = some (acl (fun u => F (366 + 6 * t + u)) c j a, M) := by
  have hk := hS.1
  intro c
  induction c with
  | zero =>
    intro j a n h9 hn
    obtain ⟨n, rfl, -⟩ := suc hn
    rw [f_X0_owedBy_4]
    simp (disch := omega) only [bnd_e, chk_tt, bn_s, bt_s, bt_x, inb_n, nI_clamp, le_t, le_f, lt_t, lt_f, eq_f, nI_add, pk_mul, ne_eq, not_true_eq_false, not_false_eq_true, ↓reduceIte, L0_, L1_, L2_, L3_, L4_, L5_, L6_, L7_, L8_, L9_, L10_, L11_, L12_, L13_, L14_, L15_, L16_, L20_, L22_, L23_, L24_, L25_, L30_, L31_, L32_, L33_, L36_, L40_, L41_, L45_, L48_, L60_, L63_, L64_, L97_, L100_, L107_, L108_, L126_, L150_, L200_, L294_, L366_, L402_, L408_, L414_, L420_, L421_, L422_, L423_, L424_, L425_, L426_, L427_, L428_, L999_, L2568_, L2996_, kbL hL, x_many h hS]
    rfl
  | succ c ih =>
    intro j a n h9 hn
    obtain ⟨n, rfl, -⟩ := suc hn
    rw [f_X0_owedBy_4]
    simp (disch := omega) only [bnd_e, chk_tt, bn_s, bt_s, bt_x, inb_n, nI_clamp, le_t, le_f, lt_t, lt_f, eq_f, nI_add, pk_mul, ne_eq, not_true_eq_false, not_false_eq_true, ↓reduceIte, L0_, L1_, L2_, L3_, L4_, L5_, L6_, L7_, L8_, L9_, L10_, L11_, L12_, L13_, L14_, L15_, L16_, L20_, L22_, L23_, L24_, L25_, L30_, L31_, L32_, L33_, L36_, L40_, L41_, L45_, L48_, L60_, L63_, L64_, L97_, L100_, L107_, L108_, L126_, L150_, L200_, L294_, L366_, L402_, L408_, L414_, L420_, L421_, L422_, L423_, L424_, L425_, L426_, L427_, L428_, L999_, L2568_, L2996_, kbL hL, x_many h hS, rw_c]
    rw [h.debt ht (by omega)]
    exact ih (j + 1) _ n (by omega) (by omega)
theorem x_owes (h : LR M L F) (hL : isL L) (hS : SI F k) {t : Nat} (ht : t < 6) : f_X0_owedBy L (nI t) M = some (owesF F t, M) := by
  have hk := hS.1
  unfold f_X0_owedBy
  simp (disch := omega) only [bnd_e, chk_tt, bn_s, bt_s, bt_x, inb_n, nI_clamp, le_t, le_f, lt_t, lt_f, eq_f, nI_add, pk_mul, ne_eq, not_true_eq_false, not_false_eq_true, ↓reduceIte, L0_, L1_, L2_, L3_, L4_, L5_, L6_, L7_, L8_, L9_, L10_, L11_, L12_, L13_, L14_, L15_, L16_, L20_, L22_, L23_, L24_, L25_, L30_, L31_, L32_, L33_, L36_, L40_, L41_, L45_, L48_, L60_, L63_, L64_, L97_, L100_, L107_, L108_, L126_, L150_, L200_, L294_, L366_, L402_, L408_, L414_, L420_, L421_, L422_, L423_, L424_, L425_, L426_, L427_, L428_, L999_, L2568_, L2996_, x_owes4 h hL hS ht k 0 (nI 0) FU (by omega) (by show k < 100000; omega)]
  congr 2
  exact sumI_cut (f := fun u => F (366 + 6 * t + u)) hk (fun i h1 h2 => hS.2.2.2.2 t i ht h2 (Or.inr (Or.inr h1)))
theorem x_owed4 (h : LR M L F) (hL : isL L) (hS : SI F k) {t : Nat} (ht : t < 6) : ∀ (c j : Nat) (a : Int32) (n : Nat), j + c = k → c < n → f_X0_owedTo_4 n L (nI t) a (nI j) M = some (acl (fun u => F (366 + 6 * u + t)) c j a, M) := by
  have hk := hS.1
  intro c
  induction c with
  | zero =>
    intro j a n h9 hn
    obtain ⟨n, rfl, -⟩ := suc hn
    rw [f_X0_owedTo_4]
    simp (disch := omega) only [bnd_e, chk_tt, bn_s, bt_s, bt_x, inb_n, nI_clamp, le_t, le_f, lt_t, lt_f, eq_f, nI_add, pk_mul, ne_eq, not_true_eq_false, not_false_eq_true, ↓reduceIte, L0_, L1_, L2_, L3_, L4_, L5_, L6_, L7_, L8_, L9_, L10_, L11_, L12_, L13_, L14_, L15_, L16_, L20_, L22_, L23_, L24_, L25_, L30_, L31_, L32_, L33_, L36_, L40_, L41_, L45_, L48_, L60_, L63_, L64_, L97_, L100_, L107_, L108_, L126_, L150_, L200_, L294_, L366_, L402_, L408_, L414_, L420_, L421_, L422_, L423_, L424_, L425_, L426_, L427_, L428_, L999_, L2568_, L2996_, kbL hL, x_many h hS]
    rfl
  | succ c ih =>
    intro j a n h9 hn
    obtain ⟨n, rfl, -⟩ := suc hn
    rw [f_X0_owedTo_4]
    simp (disch := omega) only [bnd_e, chk_tt, bn_s, bt_s, bt_x, inb_n, nI_clamp, le_t, le_f, lt_t, lt_f, eq_f, nI_add, pk_mul, ne_eq, not_true_eq_false, not_false_eq_true, ↓reduceIte, L0_, L1_, L2_, L3_, L4_, L5_, L6_, L7_, L8_, L9_, L10_, L11_, L12_, L13_, L14_, L15_, L16_, L20_, L22_, L23_, L24_, L25_, L30_, L31_, L32_, L33_, L36_, L40_, L41_, L45_, L48_, L60_, L63_, L64_, L97_, L100_, L107_, L108_, L126_, L150_, L200_, L294_, L366_, L402_, L408_, L414_, L420_, L421_, L422_, L423_, L424_, L425_, L426_, L427_, L428_, L999_, L2568_, L2996_, kbL hL, x_many h hS, rw_c]
    rw [h.debt (by omega) ht]
    exact ih (j + 1) _ n (by omega) (by omega)
theorem x_owed (h : LR M L F) (hL : isL L) (hS : SI F k) {t : Nat} (ht : t < 6) : f_X0_owedTo L (nI t) M = some (owedF F t, M) := by
  have hk := hS.1
  unfold f_X0_owedTo
  simp (disch := omega) only [bnd_e, chk_tt, bn_s, bt_s, bt_x, inb_n, nI_clamp, le_t, le_f, lt_t, lt_f, eq_f, nI_add, pk_mul, ne_eq, not_true_eq_false, not_false_eq_true, ↓reduceIte, L0_, L1_, L2_, L3_, L4_, L5_, L6_, L7_, L8_, L9_, L10_, L11_, L12_, L13_, L14_, L15_, L16_, L20_, L22_, L23_, L24_, L25_, L30_, L31_, L32_, L33_, L36_, L40_, L41_, L45_, L48_, L60_, L63_, L64_, L97_, L100_, L107_, L108_, L126_, L150_, L200_, L294_, L366_, L402_, L408_, L414_, L420_, L421_, L422_, L423_, L424_, L425_, L426_, L427_, L428_, L999_, L2568_, L2996_, x_owed4 h hL hS ht k 0 (nI 0) FU (by omega) (by show k < 100000; omega)]
  congr 2
  exact sumI_cut (f := fun u => F (366 + 6 * u + t)) hk (fun i h1 h2 => hS.2.2.2.2 i t h2 ht (Or.inr (Or.inl h1)))
theorem x_debts4 (h : LR M L F) (hL : isL L) (hS : SI F k) : ∀ (c j : Nat) (a : Int32) (n : Nat), j + c = k → c < n → f_X0_allDebts_4 n L a (nI j) M = some (acl (fun t => townF F t 6) c j a, M) := by
  have hk := hS.1
  intro c
  induction c with
  | zero =>
    intro j a n h9 hn
    obtain ⟨n, rfl, -⟩ := suc hn
    rw [f_X0_allDebts_4]
    simp (disch := omega) only [bnd_e, chk_tt, bn_s, bt_s, bt_x, inb_n, nI_clamp, le_t, le_f, lt_t, lt_f, eq_f, nI_add, pk_mul, ne_eq, not_true_eq_false, not_false_eq_true, ↓reduceIte, L0_, L1_, L2_, L3_, L4_, L5_, L6_, L7_, L8_, L9_, L10_, L11_, L12_, L13_, L14_, L15_, L16_, L20_, L22_, L23_, L24_, L25_, L30_, L31_, L32_, L33_, L36_, L40_, L41_, L45_, L48_, L60_, L63_, L64_, L97_, L100_, L107_, L108_, L126_, L150_, L200_, L294_, L366_, L402_, L408_, L414_, L420_, L421_, L422_, L423_, L424_, L425_, L426_, L427_, L428_, L999_, L2568_, L2996_, kbL hL, x_many h hS]
    rfl
  | succ c ih =>
    intro j a n h9 hn
    obtain ⟨n, rfl, -⟩ := suc hn
    rw [f_X0_allDebts_4]
    simp (disch := omega) only [bnd_e, chk_tt, bn_s, bt_s, bt_x, inb_n, nI_clamp, le_t, le_f, lt_t, lt_f, eq_f, nI_add, pk_mul, ne_eq, not_true_eq_false, not_false_eq_true, ↓reduceIte, L0_, L1_, L2_, L3_, L4_, L5_, L6_, L7_, L8_, L9_, L10_, L11_, L12_, L13_, L14_, L15_, L16_, L20_, L22_, L23_, L24_, L25_, L30_, L31_, L32_, L33_, L36_, L40_, L41_, L45_, L48_, L60_, L63_, L64_, L97_, L100_, L107_, L108_, L126_, L150_, L200_, L294_, L366_, L402_, L408_, L414_, L420_, L421_, L422_, L423_, L424_, L425_, L426_, L427_, L428_, L999_, L2568_, L2996_, kbL hL, x_many h hS, x_owes h hL hS]
    exact ih (j + 1) _ n (by omega) (by omega)
theorem x_debts (h : LR M L F) (hL : isL L) (hS : SI F k) : f_X0_allDebts L M = some (sumTF F k 6, M) := x_debts4 h hL hS k 0 _ FU (by omega) (by have := hS.1; show k < 100000; omega)
theorem x_rights4 (h : LR M L F) (hL : isL L) (hS : SI F k) : ∀ (c j : Nat) (a : Int32) (n : Nat), j + c = k → c < n → f_X0_allRightPins_4 n L a (nI j) M = some (acl (fun t => townF F t 3) c j a, M) := by
  have hk := hS.1
  intro c
  induction c with
  | zero =>
    intro j a n h9 hn
    obtain ⟨n, rfl, -⟩ := suc hn
    rw [f_X0_allRightPins_4]
    simp (disch := omega) only [bnd_e, chk_tt, bn_s, bt_s, bt_x, inb_n, nI_clamp, le_t, le_f, lt_t, lt_f, eq_f, nI_add, pk_mul, ne_eq, not_true_eq_false, not_false_eq_true, ↓reduceIte, L0_, L1_, L2_, L3_, L4_, L5_, L6_, L7_, L8_, L9_, L10_, L11_, L12_, L13_, L14_, L15_, L16_, L20_, L22_, L23_, L24_, L25_, L30_, L31_, L32_, L33_, L36_, L40_, L41_, L45_, L48_, L60_, L63_, L64_, L97_, L100_, L107_, L108_, L126_, L150_, L200_, L294_, L366_, L402_, L408_, L414_, L420_, L421_, L422_, L423_, L424_, L425_, L426_, L427_, L428_, L999_, L2568_, L2996_, kbL hL, x_many h hS]
    rfl
  | succ c ih =>
    intro j a n h9 hn
    obtain ⟨n, rfl, -⟩ := suc hn
    rw [f_X0_allRightPins_4]
    simp (disch := omega) only [bnd_e, chk_tt, bn_s, bt_s, bt_x, inb_n, nI_clamp, le_t, le_f, lt_t, lt_f, eq_f, nI_add, pk_mul, ne_eq, not_true_eq_false, not_false_eq_true, ↓reduceIte, L0_, L1_, L2_, L3_, L4_, L5_, L6_, L7_, L8_, L9_, L10_, L11_, L12_, L13_, L14_, L15_, L16_, L20_, L22_, L23_, L24_, L25_, L30_, L31_, L32_, L33_, L36_, L40_, L41_, L45_, L48_, L60_, L63_, L64_, L97_, L100_, L107_, L108_, L126_, L150_, L200_, L294_, L366_, L402_, L408_, L414_, L420_, L421_, L422_, L423_, L424_, L425_, L426_, L427_, L428_, L999_, L2568_, L2996_, kbL hL, x_many h hS, tw_c, x_right h hL hS]
    exact ih (j + 1) _ n (by omega) (by omega)
theorem x_rights (h : LR M L F) (hL : isL L) (hS : SI F k) : f_X0_allRightPins L M = some (sumTF F k 3, M) := x_rights4 h hL hS k 0 _ FU (by omega) (by have := hS.1; show k < 100000; omega)
theorem x_boxes4 (h : LR M L F) (hL : isL L) (hS : SI F k) : ∀ (c j : Nat) (a : Int32) (n : Nat), j + c = k → c < n → f_X0_pinsInBoxes_4 n L a (nI j) M = some (acl (fun t => townF F t 0) c j a, M) := by
  have hk := hS.1
  intro c
  induction c with
  | zero =>
    intro j a n h9 hn
    obtain ⟨n, rfl, -⟩ := suc hn
    rw [f_X0_pinsInBoxes_4]
    simp (disch := omega) only [bnd_e, chk_tt, bn_s, bt_s, bt_x, inb_n, nI_clamp, le_t, le_f, lt_t, lt_f, eq_f, nI_add, pk_mul, ne_eq, not_true_eq_false, not_false_eq_true, ↓reduceIte, L0_, L1_, L2_, L3_, L4_, L5_, L6_, L7_, L8_, L9_, L10_, L11_, L12_, L13_, L14_, L15_, L16_, L20_, L22_, L23_, L24_, L25_, L30_, L31_, L32_, L33_, L36_, L40_, L41_, L45_, L48_, L60_, L63_, L64_, L97_, L100_, L107_, L108_, L126_, L150_, L200_, L294_, L366_, L402_, L408_, L414_, L420_, L421_, L422_, L423_, L424_, L425_, L426_, L427_, L428_, L999_, L2568_, L2996_, kbL hL, x_many h hS]
    rfl
  | succ c ih =>
    intro j a n h9 hn
    obtain ⟨n, rfl, -⟩ := suc hn
    rw [f_X0_pinsInBoxes_4]
    simp (disch := omega) only [bnd_e, chk_tt, bn_s, bt_s, bt_x, inb_n, nI_clamp, le_t, le_f, lt_t, lt_f, eq_f, nI_add, pk_mul, ne_eq, not_true_eq_false, not_false_eq_true, ↓reduceIte, L0_, L1_, L2_, L3_, L4_, L5_, L6_, L7_, L8_, L9_, L10_, L11_, L12_, L13_, L14_, L15_, L16_, L20_, L22_, L23_, L24_, L25_, L30_, L31_, L32_, L33_, L36_, L40_, L41_, L45_, L48_, L60_, L63_, L64_, L97_, L100_, L107_, L108_, L126_, L150_, L200_, L294_, L366_, L402_, L408_, L414_, L420_, L421_, L422_, L423_, L424_, L425_, L426_, L427_, L428_, L999_, L2568_, L2996_, kbL hL, x_many h hS, tw_c]
    rw [h.box (by omega)]
    exact ih (j + 1) _ n (by omega) (by omega)
theorem x_boxes (h : LR M L F) (hL : isL L) (hS : SI F k) : f_X0_pinsInBoxes L M = some (sumTF F k 0, M) := x_boxes4 h hL hS k 0 _ FU (by omega) (by have := hS.1; show k < 100000; omega)
theorem x_drums4 (h : LR M L F) (hL : isL L) (hS : SI F k) : ∀ (c j : Nat) (a : Int32) (n : Nat), j + c = k → c < n → f_X0_pinsInDrums_4 n L a (nI j) M = some (acl (fun t => townF F t 1) c j a, M) := by
  have hk := hS.1
  intro c
  induction c with
  | zero =>
    intro j a n h9 hn
    obtain ⟨n, rfl, -⟩ := suc hn
    rw [f_X0_pinsInDrums_4]
    simp (disch := omega) only [bnd_e, chk_tt, bn_s, bt_s, bt_x, inb_n, nI_clamp, le_t, le_f, lt_t, lt_f, eq_f, nI_add, pk_mul, ne_eq, not_true_eq_false, not_false_eq_true, ↓reduceIte, L0_, L1_, L2_, L3_, L4_, L5_, L6_, L7_, L8_, L9_, L10_, L11_, L12_, L13_, L14_, L15_, L16_, L20_, L22_, L23_, L24_, L25_, L30_, L31_, L32_, L33_, L36_, L40_, L41_, L45_, L48_, L60_, L63_, L64_, L97_, L100_, L107_, L108_, L126_, L150_, L200_, L294_, L366_, L402_, L408_, L414_, L420_, L421_, L422_, L423_, L424_, L425_, L426_, L427_, L428_, L999_, L2568_, L2996_, kbL hL, x_many h hS]
    rfl
  | succ c ih =>
    intro j a n h9 hn
    obtain ⟨n, rfl, -⟩ := suc hn
    rw [f_X0_pinsInDrums_4]
    simp (disch := omega) only [bnd_e, chk_tt, bn_s, bt_s, bt_x, inb_n, nI_clamp, le_t, le_f, lt_t, lt_f, eq_f, nI_add, pk_mul, ne_eq, not_true_eq_false, not_false_eq_true, ↓reduceIte, L0_, L1_, L2_, L3_, L4_, L5_, L6_, L7_, L8_, L9_, L10_, L11_, L12_, L13_, L14_, L15_, L16_, L20_, L22_, L23_, L24_, L25_, L30_, L31_, L32_, L33_, L36_, L40_, L41_, L45_, L48_, L60_, L63_, L64_, L97_, L100_, L107_, L108_, L126_, L150_, L200_, L294_, L366_, L402_, L408_, L414_, L420_, L421_, L422_, L423_, L424_, L425_, L426_, L427_, L428_, L999_, L2568_, L2996_, kbL hL, x_many h hS, tw_c, x_drum h hL hS]
    exact ih (j + 1) _ n (by omega) (by omega)
theorem x_drums (h : LR M L F) (hL : isL L) (hS : SI F k) : f_X0_pinsInDrums L M = some (sumTF F k 1, M) := x_drums4 h hL hS k 0 _ FU (by omega) (by have := hS.1; show k < 100000; omega)
end XR
