theorem and1 (x : Int32) : x &&& 1 = nI 0 ∨ x &&& 1 = nI 1 := by
  have h := pk_and x (m := 1) 1 (by decide)
  rw [h]
  rcases Nat.mod_two_eq_zero_or_one x.toBitVec.toNat with q | q
  · left; rw [show 2 ^ 1 = 2 from rfl, q]
  · right; rw [show 2 ^ 1 = 2 from rfl, q]
theorem bitK01 (v : Int32) (k : Nat) : bitK v k = nI 0 ∨ bitK v k = nI 1 := and1 _
theorem n01 : (nI 0 = nI 1) = False := eq_f (by decide) (by decide) (by decide)
theorem n10 : (nI 1 = nI 0) = False := eq_f (by decide) (by decide) (by decide)
theorem isb0 : isb (nI 0) = true := rfl
theorem isb1 : isb (nI 1) = true := rfl
theorem m_has (v : Int32) (k : Nat) (M : Mem) : f_X7_has v (nI k) M = some (bitK v k, M) := by
  unfold f_X7_has f_X7_has_14
  show (if bitK v k = 1 then _ else _) = _
  rcases bitK01 v k with h | h <;> rw [h]
  · simp (disch := omega) only [bnd_e, chk_tt, bn_s, bt_s, bt_x, inb_n, nI_clamp, le_t, le_f, lt_t, lt_f, eq_f, nI_add, pk_mul, ne_eq, not_true_eq_false, not_false_eq_true, ↓reduceIte, L0_, L1_, L2_, L3_, L4_, L5_, L6_, L7_, L8_, L9_, L10_, L11_, L12_, L13_, L14_, L15_, L16_, L20_, L22_, L23_, L24_, L25_, L30_, L31_, L32_, L33_, L36_, L40_, L41_, L45_, L48_, L60_, L63_, L64_, L97_, L100_, L107_, L108_, L126_, L150_, L200_, L294_, L366_, L402_, L408_, L414_, L420_, L421_, L422_, L423_, L424_, L425_, L426_, L427_, L428_, L999_, L2568_, L2996_, n01, isb0]
  · simp (disch := omega) only [bnd_e, chk_tt, bn_s, bt_s, bt_x, inb_n, nI_clamp, le_t, le_f, lt_t, lt_f, eq_f, nI_add, pk_mul, ne_eq, not_true_eq_false, not_false_eq_true, ↓reduceIte, L0_, L1_, L2_, L3_, L4_, L5_, L6_, L7_, L8_, L9_, L10_, L11_, L12_, L13_, L14_, L15_, L16_, L20_, L22_, L23_, L24_, L25_, L30_, L31_, L32_, L33_, L36_, L40_, L41_, L45_, L48_, L60_, L63_, L64_, L97_, L100_, L107_, L108_, L126_, L150_, L200_, L294_, L366_, L402_, L408_, L414_, L420_, L421_, L422_, L423_, L424_, L425_, L426_, L427_, L428_, L999_, L2568_, L2996_, isb1]
/-- 0 to b, as both sides ask it -/
theorem in0 (v : Int32) (b : Nat) (hb : b < 2 ^ 30) : (if v < nI 0 then nI 0 else if nI b < v then nI 0 else nI 1) = (if inb v (b + 1) = true then nI 1 else nI 0) := by
  rcases pk_ix v (n := b + 1) (by omega) with h | h | ⟨j, hj, rfl⟩
  · rw [if_pos (show v < nI 0 from h), if_neg]
    intro q
    exact (inb_in q) (Or.inl h)
  · have h1 : nI b < v := by
      have := Int32.le_iff_toInt_le.mp h
      rw [nI_toInt (by omega)] at this
      rw [Int32.lt_iff_toInt_lt, nI_toInt (by omega)]
      omega
    have h2 : ¬ inb v (b + 1) = true := by
      intro q
      obtain ⟨j, hj, rfl⟩ := inb_ex (by omega) q
      have := (nI_leI (show b + 1 < 2 ^ 31 by omega) (by omega)).mp h
      omega
    rw [if_neg h2]
    split
    · rfl
    · rfl
  · simp (disch := omega) only [bnd_e, chk_tt, bn_s, bt_s, bt_x, inb_n, nI_clamp, le_t, le_f, lt_t, lt_f, eq_f, nI_add, pk_mul, ne_eq, not_true_eq_false, not_false_eq_true, ↓reduceIte, L0_, L1_, L2_, L3_, L4_, L5_, L6_, L7_, L8_, L9_, L10_, L11_, L12_, L13_, L14_, L15_, L16_, L20_, L22_, L23_, L24_, L25_, L30_, L31_, L32_, L33_, L36_, L40_, L41_, L45_, L48_, L60_, L63_, L64_, L97_, L100_, L107_, L108_, L126_, L150_, L200_, L294_, L366_, L402_, L408_, L414_, L420_, L421_, L422_, L423_, L424_, L425_, L426_, L427_, L428_, L999_, L2568_, L2996_]
theorem in0k (v : Int32) (k : Nat) (hk : k ≤ 6) : (if v < nI 0 then nI 0 else if nI k - nI 1 < v then nI 0 else nI 1) = (if inb v k = true then nI 1 else nI 0) := by
  cases k with
  | zero =>
    have h2 : ¬ inb v 0 = true := by
      intro q
      obtain ⟨j, hj, rfl⟩ := inb_ex (by omega) q
      omega
    rw [if_neg h2]
    split
    · rfl
    · rename_i h
      rw [if_pos]
      rw [show nI 0 - nI 1 = (-1 : Int32) from rfl]
      have : ¬ v.toInt < 0 := fun q => h (Int32.lt_iff_toInt_lt.mpr q)
      rw [Int32.lt_iff_toInt_lt]
      show (-1 : Int) < _
      omega
  | succ k =>
    rw [pk_sub (by omega)]
    exact in0 v k (by omega)
theorem isb_if (b : Bool) : isb (if b = true then nI 1 else nI 0) = true := by cases b <;> rfl
theorem if10 (b : Bool) {α : Type} (x y : α) : (if (if b = true then nI 1 else nI 0) = nI 0 then x else y) = (if b = true then y else x) := by
  cases b
  · rfl
  · rw [if_pos rfl, if_neg (by rw [n10]; exact id), if_pos rfl]
theorem m_isTown {M : Mem} {F : Nat → Int32} {k : Nat} (hF : Mo M F) (hS : SI F k) (t : Int32) : f_X7_isTown t M = some (if inb t k = true then nI 1 else nI 0, M) := by
  have h := hS.1
  unfold f_X7_isTown
  simp (disch := omega) only [bnd_e, chk_tt, bn_s, bt_s, bt_x, inb_n, nI_clamp, le_t, le_f, lt_t, lt_f, eq_f, nI_add, pk_mul, ne_eq, not_true_eq_false, not_false_eq_true, ↓reduceIte, L0_, L1_, L2_, L3_, L4_, L5_, L6_, L7_, L8_, L9_, L10_, L11_, L12_, L13_, L14_, L15_, L16_, L20_, L22_, L23_, L24_, L25_, L30_, L31_, L32_, L33_, L36_, L40_, L41_, L45_, L48_, L60_, L63_, L64_, L97_, L100_, L107_, L108_, L126_, L150_, L200_, L294_, L366_, L402_, L408_, L414_, L420_, L421_, L422_, L423_, L424_, L425_, L426_, L427_, L428_, L999_, L2568_, L2996_, m_in]
  rw [hF _ (by omega), hS.2.1, in0k _ _ hS.1, isb_if]
  rfl
theorem m_isPlace {M : Mem} {F : Nat → Int32} {k : Nat} (hF : Mo M F) (hS : SI F k) (t s q : Int32) : f_X7_isPlace t s q M = some (if (inb t k && (inb s 24 && inb q 12)) = true then nI 1 else nI 0, M) := by
  unfold f_X7_isPlace f_X7_isPlace_32 f_X7_isPlace_33
  rw [m_isTown hF hS]
  simp (disch := omega) only [bnd_e, chk_tt, bn_s, bt_s, bt_x, inb_n, nI_clamp, le_t, le_f, lt_t, lt_f, eq_f, nI_add, pk_mul, ne_eq, not_true_eq_false, not_false_eq_true, ↓reduceIte, L0_, L1_, L2_, L3_, L4_, L5_, L6_, L7_, L8_, L9_, L10_, L11_, L12_, L13_, L14_, L15_, L16_, L20_, L22_, L23_, L24_, L25_, L30_, L31_, L32_, L33_, L36_, L40_, L41_, L45_, L48_, L60_, L63_, L64_, L97_, L100_, L107_, L108_, L126_, L150_, L200_, L294_, L366_, L402_, L408_, L414_, L420_, L421_, L422_, L423_, L424_, L425_, L426_, L427_, L428_, L999_, L2568_, L2996_, m_in]
  rw [in0 s 23 (by omega), in0 q 11 (by omega)]
  cases inb t k <;> cases inb s 24 <;> cases inb q 12 <;> rfl
theorem m_right6 {M : Mem} {F : Nat → Int32} (hF : Mo M F) {d t b : Nat} (hd : d < 6) (ht : t < 6) (hb : b < 24) : ∀ (c j : Nat) (a : Int32) (n : Nat), j + c = 24 → c < n → f_X7_rightOf_6 n (nI d) (nI t) (nI b) a (nI j) M = some (acl (fun s => bitsI (F (6 + 24 * d + s) &&& F (150 + 24 * t + (s + b) % 24))) c j a, M) := by
  intro c
  induction c with
  | zero =>
    intro j a n h hn
    obtain ⟨n, rfl, -⟩ := suc hn
    rw [f_X7_rightOf_6]
    simp (disch := omega) only [bnd_e, chk_tt, bn_s, bt_s, bt_x, inb_n, nI_clamp, le_t, le_f, lt_t, lt_f, eq_f, nI_add, pk_mul, ne_eq, not_true_eq_false, not_false_eq_true, ↓reduceIte, L0_, L1_, L2_, L3_, L4_, L5_, L6_, L7_, L8_, L9_, L10_, L11_, L12_, L13_, L14_, L15_, L16_, L20_, L22_, L23_, L24_, L25_, L30_, L31_, L32_, L33_, L36_, L40_, L41_, L45_, L48_, L60_, L63_, L64_, L97_, L100_, L107_, L108_, L126_, L150_, L200_, L294_, L366_, L402_, L408_, L414_, L420_, L421_, L422_, L423_, L424_, L425_, L426_, L427_, L428_, L999_, L2568_, L2996_]
    rfl
  | succ c ih =>
    intro j a n h hn
    obtain ⟨n, rfl, -⟩ := suc hn
    rw [f_X7_rightOf_6]
    simp (disch := omega) only [bnd_e, chk_tt, bn_s, bt_s, bt_x, inb_n, nI_clamp, le_t, le_f, lt_t, lt_f, eq_f, nI_add, pk_mul, ne_eq, not_true_eq_false, not_false_eq_true, ↓reduceIte, L0_, L1_, L2_, L3_, L4_, L5_, L6_, L7_, L8_, L9_, L10_, L11_, L12_, L13_, L14_, L15_, L16_, L20_, L22_, L23_, L24_, L25_, L30_, L31_, L32_, L33_, L36_, L40_, L41_, L45_, L48_, L60_, L63_, L64_, L97_, L100_, L107_, L108_, L126_, L150_, L200_, L294_, L366_, L402_, L408_, L414_, L420_, L421_, L422_, L423_, L424_, L425_, L426_, L427_, L428_, L999_, L2568_, L2996_, m_at, m_bits, pk_rem]
    rw [hF _ (by omega), hF _ (by omega)]
    exact ih (j + 1) _ n (by omega) (by omega)
theorem m_right {M : Mem} {F : Nat → Int32} (hF : Mo M F) {d t b : Nat} (hd : d < 6) (ht : t < 6) (hb : b < 24) : f_X7_rightOf (nI d) (nI t) (nI b) M = some (rightF F d t b, M) := m_right6 hF hd ht hb 24 0 _ FU rfl (by decide)
theorem m_dull5 {M : Mem} {F : Nat → Int32} {b : Nat} (hF : ∀ i, i < 428 → M.1 25 (b + i) = F i) (hb : b + 428 ≤ 3424) {t : Nat} (ht : t < 6) : ∀ (c j : Nat) (a : Int32) (n : Nat), j + c = 12 → c < n → f_X7_dullIn_5 n (nI b) (nI t) a (nI j) M = some (acl (fun k => if F (294 + 12 * t + k) < F 421 then nI 0 else nI 1) c j a, M) := by
  intro c
  induction c with
  | zero =>
    intro j a n h hn
    obtain ⟨n, rfl, -⟩ := suc hn
    rw [f_X7_dullIn_5]
    simp (disch := omega) only [bnd_e, chk_tt, bn_s, bt_s, bt_x, inb_n, nI_clamp, le_t, le_f, lt_t, lt_f, eq_f, nI_add, pk_mul, ne_eq, not_true_eq_false, not_false_eq_true, ↓reduceIte, L0_, L1_, L2_, L3_, L4_, L5_, L6_, L7_, L8_, L9_, L10_, L11_, L12_, L13_, L14_, L15_, L16_, L20_, L22_, L23_, L24_, L25_, L30_, L31_, L32_, L33_, L36_, L40_, L41_, L45_, L48_, L60_, L63_, L64_, L97_, L100_, L107_, L108_, L126_, L150_, L200_, L294_, L366_, L402_, L408_, L414_, L420_, L421_, L422_, L423_, L424_, L425_, L426_, L427_, L428_, L999_, L2568_, L2996_]
    rfl
  | succ c ih =>
    intro j a n h hn
    obtain ⟨n, rfl, -⟩ := suc hn
    rw [f_X7_dullIn_5]
    simp (disch := omega) only [bnd_e, chk_tt, bn_s, bt_s, bt_x, inb_n, nI_clamp, le_t, le_f, lt_t, lt_f, eq_f, nI_add, pk_mul, ne_eq, not_true_eq_false, not_false_eq_true, ↓reduceIte, L0_, L1_, L2_, L3_, L4_, L5_, L6_, L7_, L8_, L9_, L10_, L11_, L12_, L13_, L14_, L15_, L16_, L20_, L22_, L23_, L24_, L25_, L30_, L31_, L32_, L33_, L36_, L40_, L41_, L45_, L48_, L60_, L63_, L64_, L97_, L100_, L107_, L108_, L126_, L150_, L200_, L294_, L366_, L402_, L408_, L414_, L420_, L421_, L422_, L423_, L424_, L425_, L426_, L427_, L428_, L999_, L2568_, L2996_, f_X7_dullIn_49]
    rw [show b + 294 + 12 * t + j = b + (294 + 12 * t + j) by omega, hF _ (by omega), hF _ (by omega)]
    show (if _ then f_X7_dullIn_5 n _ _ _ _ M else f_X7_dullIn_5 n _ _ _ _ M) = some (acl _ c (j + 1) (a + (if _ then _ else _)), M)
    by_cases q : F (294 + 12 * t + j) < F 421
    · rw [if_pos q, if_pos q]
      exact ih (j + 1) _ n (by omega) (by omega)
    · rw [if_neg q, if_neg q]
      exact ih (j + 1) _ n (by omega) (by omega)
theorem m_dull {M : Mem} {F : Nat → Int32} {b : Nat} (hF : ∀ i, i < 428 → M.1 25 (b + i) = F i) (hb : b + 428 ≤ 3424) {t : Nat} (ht : t < 6) : f_X7_dullIn (nI b) (nI t) M = some (dullF F t, M) := m_dull5 hF hb ht 12 0 _ FU rfl (by decide)
theorem Mo.b0 {M : Mem} {F : Nat → Int32} (h : Mo M F) : ∀ i, i < 428 → M.1 25 (0 + i) = F i := fun i hi => by rw [Nat.zero_add]; exact h i hi
theorem m_owed5 {M : Mem} {F : Nat → Int32} (hF : Mo M F) {t : Nat} (ht : t < 6) (o : Bool) : ∀ (c j : Nat) (a : Int32) (n : Nat), j + c = 6 → c < n → f_X7_owedIn_5 n (nI t) (if o = true then nI 1 else nI 0) a (nI j) M = some (acl (fun u => if o = true then F (366 + 6 * u + t) else F (366 + 6 * t + u)) c j a, M) := by
  intro c
  induction c with
  | zero =>
    intro j a n h hn
    obtain ⟨n, rfl, -⟩ := suc hn
    rw [f_X7_owedIn_5]
    simp (disch := omega) only [bnd_e, chk_tt, bn_s, bt_s, bt_x, inb_n, nI_clamp, le_t, le_f, lt_t, lt_f, eq_f, nI_add, pk_mul, ne_eq, not_true_eq_false, not_false_eq_true, ↓reduceIte, L0_, L1_, L2_, L3_, L4_, L5_, L6_, L7_, L8_, L9_, L10_, L11_, L12_, L13_, L14_, L15_, L16_, L20_, L22_, L23_, L24_, L25_, L30_, L31_, L32_, L33_, L36_, L40_, L41_, L45_, L48_, L60_, L63_, L64_, L97_, L100_, L107_, L108_, L126_, L150_, L200_, L294_, L366_, L402_, L408_, L414_, L420_, L421_, L422_, L423_, L424_, L425_, L426_, L427_, L428_, L999_, L2568_, L2996_]
    rfl
  | succ c ih =>
    intro j a n h hn
    obtain ⟨n, rfl, -⟩ := suc hn
    rw [f_X7_owedIn_5]
    simp (disch := omega) only [bnd_e, chk_tt, bn_s, bt_s, bt_x, inb_n, nI_clamp, le_t, le_f, lt_t, lt_f, eq_f, nI_add, pk_mul, ne_eq, not_true_eq_false, not_false_eq_true, ↓reduceIte, L0_, L1_, L2_, L3_, L4_, L5_, L6_, L7_, L8_, L9_, L10_, L11_, L12_, L13_, L14_, L15_, L16_, L20_, L22_, L23_, L24_, L25_, L30_, L31_, L32_, L33_, L36_, L40_, L41_, L45_, L48_, L60_, L63_, L64_, L97_, L100_, L107_, L108_, L126_, L150_, L200_, L294_, L366_, L402_, L408_, L414_, L420_, L421_, L422_, L423_, L424_, L425_, L426_, L427_, L428_, L999_, L2568_, L2996_, f_X7_owedIn_42, m_owes]
    rw [if10]
    cases o
    · rw [if_neg (by decide), hF _ (by omega)]
      exact ih (j + 1) _ n (by omega) (by omega)
    · rw [if_pos rfl, hF _ (by omega)]
      exact ih (j + 1) _ n (by omega) (by omega)
theorem m_owesT {M : Mem} {F : Nat → Int32} (hF : Mo M F) {t : Nat} (ht : t < 6) : f_X7_owedIn (nI t) (nI 0) M = some (owesF F t, M) := m_owed5 hF ht false 6 0 _ FU rfl (by decide)
theorem m_owedT {M : Mem} {F : Nat → Int32} (hF : Mo M F) {t : Nat} (ht : t < 6) : f_X7_owedIn (nI t) (nI 1) M = some (owedF F t, M) := m_owed5 hF ht true 6 0 _ FU rfl (by decide)
theorem m_townOf {M : Mem} {F : Nat → Int32} (hF : Mo M F) {t w : Nat} (ht : t < 6) (hw : w < 12) : f_X7_townOf (nI t) (nI w) M = some (townF F t w, M) := by
  unfold f_X7_townOf f_X7_townOf_140
  match w, hw with
  | 0, _ => simp (disch := omega) only [bnd_e, chk_tt, bn_s, bt_s, bt_x, inb_n, nI_clamp, le_t, le_f, lt_t, lt_f, eq_f, nI_add, pk_mul, ne_eq, not_true_eq_false, not_false_eq_true, ↓reduceIte, L0_, L1_, L2_, L3_, L4_, L5_, L6_, L7_, L8_, L9_, L10_, L11_, L12_, L13_, L14_, L15_, L16_, L20_, L22_, L23_, L24_, L25_, L30_, L31_, L32_, L33_, L36_, L40_, L41_, L45_, L48_, L60_, L63_, L64_, L97_, L100_, L107_, L108_, L126_, L150_, L200_, L294_, L366_, L402_, L408_, L414_, L420_, L421_, L422_, L423_, L424_, L425_, L426_, L427_, L428_, L999_, L2568_, L2996_, Nat.zero_add]; rw [hF _ (by omega)]; rfl
  | 1, _ => simp (disch := omega) only [bnd_e, chk_tt, bn_s, bt_s, bt_x, inb_n, nI_clamp, le_t, le_f, lt_t, lt_f, eq_f, nI_add, pk_mul, ne_eq, not_true_eq_false, not_false_eq_true, ↓reduceIte, L0_, L1_, L2_, L3_, L4_, L5_, L6_, L7_, L8_, L9_, L10_, L11_, L12_, L13_, L14_, L15_, L16_, L20_, L22_, L23_, L24_, L25_, L30_, L31_, L32_, L33_, L36_, L40_, L41_, L45_, L48_, L60_, L63_, L64_, L97_, L100_, L107_, L108_, L126_, L150_, L200_, L294_, L366_, L402_, L408_, L414_, L420_, L421_, L422_, L423_, L424_, L425_, L426_, L427_, L428_, L999_, L2568_, L2996_, m_pins hF]; rfl
  | 2, _ => simp (disch := omega) only [bnd_e, chk_tt, bn_s, bt_s, bt_x, inb_n, nI_clamp, le_t, le_f, lt_t, lt_f, eq_f, nI_add, pk_mul, ne_eq, not_true_eq_false, not_false_eq_true, ↓reduceIte, L0_, L1_, L2_, L3_, L4_, L5_, L6_, L7_, L8_, L9_, L10_, L11_, L12_, L13_, L14_, L15_, L16_, L20_, L22_, L23_, L24_, L25_, L30_, L31_, L32_, L33_, L36_, L40_, L41_, L45_, L48_, L60_, L63_, L64_, L97_, L100_, L107_, L108_, L126_, L150_, L200_, L294_, L366_, L402_, L408_, L414_, L420_, L421_, L422_, L423_, L424_, L425_, L426_, L427_, L428_, L999_, L2568_, L2996_, m_pins hF]; rfl
  | 3, _ => simp (disch := omega) only [bnd_e, chk_tt, bn_s, bt_s, bt_x, inb_n, nI_clamp, le_t, le_f, lt_t, lt_f, eq_f, nI_add, pk_mul, ne_eq, not_true_eq_false, not_false_eq_true, ↓reduceIte, L0_, L1_, L2_, L3_, L4_, L5_, L6_, L7_, L8_, L9_, L10_, L11_, L12_, L13_, L14_, L15_, L16_, L20_, L22_, L23_, L24_, L25_, L30_, L31_, L32_, L33_, L36_, L40_, L41_, L45_, L48_, L60_, L63_, L64_, L97_, L100_, L107_, L108_, L126_, L150_, L200_, L294_, L366_, L402_, L408_, L414_, L420_, L421_, L422_, L423_, L424_, L425_, L426_, L427_, L428_, L999_, L2568_, L2996_, m_right hF]; rfl
  | 4, _ => simp (disch := omega) only [bnd_e, chk_tt, bn_s, bt_s, bt_x, inb_n, nI_clamp, le_t, le_f, lt_t, lt_f, eq_f, nI_add, pk_mul, ne_eq, not_true_eq_false, not_false_eq_true, ↓reduceIte, L0_, L1_, L2_, L3_, L4_, L5_, L6_, L7_, L8_, L9_, L10_, L11_, L12_, L13_, L14_, L15_, L16_, L20_, L22_, L23_, L24_, L25_, L30_, L31_, L32_, L33_, L36_, L40_, L41_, L45_, L48_, L60_, L63_, L64_, L97_, L100_, L107_, L108_, L126_, L150_, L200_, L294_, L366_, L402_, L408_, L414_, L420_, L421_, L422_, L423_, L424_, L425_, L426_, L427_, L428_, L999_, L2568_, L2996_, m_pins hF, m_right hF]; rfl
  | 5, _ => simp (disch := omega) only [bnd_e, chk_tt, bn_s, bt_s, bt_x, inb_n, nI_clamp, le_t, le_f, lt_t, lt_f, eq_f, nI_add, pk_mul, ne_eq, not_true_eq_false, not_false_eq_true, ↓reduceIte, L0_, L1_, L2_, L3_, L4_, L5_, L6_, L7_, L8_, L9_, L10_, L11_, L12_, L13_, L14_, L15_, L16_, L20_, L22_, L23_, L24_, L25_, L30_, L31_, L32_, L33_, L36_, L40_, L41_, L45_, L48_, L60_, L63_, L64_, L97_, L100_, L107_, L108_, L126_, L150_, L200_, L294_, L366_, L402_, L408_, L414_, L420_, L421_, L422_, L423_, L424_, L425_, L426_, L427_, L428_, L999_, L2568_, L2996_, m_pins hF, m_right hF]; rfl
  | 6, _ => simp (disch := omega) only [bnd_e, chk_tt, bn_s, bt_s, bt_x, inb_n, nI_clamp, le_t, le_f, lt_t, lt_f, eq_f, nI_add, pk_mul, ne_eq, not_true_eq_false, not_false_eq_true, ↓reduceIte, L0_, L1_, L2_, L3_, L4_, L5_, L6_, L7_, L8_, L9_, L10_, L11_, L12_, L13_, L14_, L15_, L16_, L20_, L22_, L23_, L24_, L25_, L30_, L31_, L32_, L33_, L36_, L40_, L41_, L45_, L48_, L60_, L63_, L64_, L97_, L100_, L107_, L108_, L126_, L150_, L200_, L294_, L366_, L402_, L408_, L414_, L420_, L421_, L422_, L423_, L424_, L425_, L426_, L427_, L428_, L999_, L2568_, L2996_, m_owesT hF]; rfl
  | 7, _ => simp (disch := omega) only [bnd_e, chk_tt, bn_s, bt_s, bt_x, inb_n, nI_clamp, le_t, le_f, lt_t, lt_f, eq_f, nI_add, pk_mul, ne_eq, not_true_eq_false, not_false_eq_true, ↓reduceIte, L0_, L1_, L2_, L3_, L4_, L5_, L6_, L7_, L8_, L9_, L10_, L11_, L12_, L13_, L14_, L15_, L16_, L20_, L22_, L23_, L24_, L25_, L30_, L31_, L32_, L33_, L36_, L40_, L41_, L45_, L48_, L60_, L63_, L64_, L97_, L100_, L107_, L108_, L126_, L150_, L200_, L294_, L366_, L402_, L408_, L414_, L420_, L421_, L422_, L423_, L424_, L425_, L426_, L427_, L428_, L999_, L2568_, L2996_, m_owedT hF]; rfl
  | 8, _ => simp (disch := omega) only [bnd_e, chk_tt, bn_s, bt_s, bt_x, inb_n, nI_clamp, le_t, le_f, lt_t, lt_f, eq_f, nI_add, pk_mul, ne_eq, not_true_eq_false, not_false_eq_true, ↓reduceIte, L0_, L1_, L2_, L3_, L4_, L5_, L6_, L7_, L8_, L9_, L10_, L11_, L12_, L13_, L14_, L15_, L16_, L20_, L22_, L23_, L24_, L25_, L30_, L31_, L32_, L33_, L36_, L40_, L41_, L45_, L48_, L60_, L63_, L64_, L97_, L100_, L107_, L108_, L126_, L150_, L200_, L294_, L366_, L402_, L408_, L414_, L420_, L421_, L422_, L423_, L424_, L425_, L426_, L427_, L428_, L999_, L2568_, L2996_]; rw [hF _ (by omega)]; rfl
  | 9, _ => simp (disch := omega) only [bnd_e, chk_tt, bn_s, bt_s, bt_x, inb_n, nI_clamp, le_t, le_f, lt_t, lt_f, eq_f, nI_add, pk_mul, ne_eq, not_true_eq_false, not_false_eq_true, ↓reduceIte, L0_, L1_, L2_, L3_, L4_, L5_, L6_, L7_, L8_, L9_, L10_, L11_, L12_, L13_, L14_, L15_, L16_, L20_, L22_, L23_, L24_, L25_, L30_, L31_, L32_, L33_, L36_, L40_, L41_, L45_, L48_, L60_, L63_, L64_, L97_, L100_, L107_, L108_, L126_, L150_, L200_, L294_, L366_, L402_, L408_, L414_, L420_, L421_, L422_, L423_, L424_, L425_, L426_, L427_, L428_, L999_, L2568_, L2996_]; rw [hF _ (by omega)]; rfl
  | 10, _ => simp (disch := omega) only [bnd_e, chk_tt, bn_s, bt_s, bt_x, inb_n, nI_clamp, le_t, le_f, lt_t, lt_f, eq_f, nI_add, pk_mul, ne_eq, not_true_eq_false, not_false_eq_true, ↓reduceIte, L0_, L1_, L2_, L3_, L4_, L5_, L6_, L7_, L8_, L9_, L10_, L11_, L12_, L13_, L14_, L15_, L16_, L20_, L22_, L23_, L24_, L25_, L30_, L31_, L32_, L33_, L36_, L40_, L41_, L45_, L48_, L60_, L63_, L64_, L97_, L100_, L107_, L108_, L126_, L150_, L200_, L294_, L366_, L402_, L408_, L414_, L420_, L421_, L422_, L423_, L424_, L425_, L426_, L427_, L428_, L999_, L2568_, L2996_]; rw [hF _ (by omega)]; rfl
  | 11, _ => simp (disch := omega) only [bnd_e, chk_tt, bn_s, bt_s, bt_x, inb_n, nI_clamp, le_t, le_f, lt_t, lt_f, eq_f, nI_add, pk_mul, ne_eq, not_true_eq_false, not_false_eq_true, ↓reduceIte, L0_, L1_, L2_, L3_, L4_, L5_, L6_, L7_, L8_, L9_, L10_, L11_, L12_, L13_, L14_, L15_, L16_, L20_, L22_, L23_, L24_, L25_, L30_, L31_, L32_, L33_, L36_, L40_, L41_, L45_, L48_, L60_, L63_, L64_, L97_, L100_, L107_, L108_, L126_, L150_, L200_, L294_, L366_, L402_, L408_, L414_, L420_, L421_, L422_, L423_, L424_, L425_, L426_, L427_, L428_, L999_, L2568_, L2996_, m_dull hF.b0]; rfl
theorem m_sum4 {M : Mem} {F : Nat → Int32} {k : Nat} (hF : Mo M F) (hS : SI F k) {w : Nat} (hw : w < 12) : ∀ (c j : Nat) (a : Int32) (n : Nat), j + c = k → c < n → f_X7_sumOf_4 n (nI w) a (nI j) M = some (acl (fun t => townF F t w) c j a, M) := by
  have hk := hS.1
  have h0 : M.1 25 423 = nI k := (hF _ (by omega)).trans hS.2.1
  intro c
  induction c with
  | zero =>
    intro j a n h hn
    obtain ⟨n, rfl, -⟩ := suc hn
    rw [f_X7_sumOf_4]
    simp (disch := omega) only [bnd_e, chk_tt, bn_s, bt_s, bt_x, inb_n, nI_clamp, le_t, le_f, lt_t, lt_f, eq_f, nI_add, pk_mul, ne_eq, not_true_eq_false, not_false_eq_true, ↓reduceIte, L0_, L1_, L2_, L3_, L4_, L5_, L6_, L7_, L8_, L9_, L10_, L11_, L12_, L13_, L14_, L15_, L16_, L20_, L22_, L23_, L24_, L25_, L30_, L31_, L32_, L33_, L36_, L40_, L41_, L45_, L48_, L60_, L63_, L64_, L97_, L100_, L107_, L108_, L126_, L150_, L200_, L294_, L366_, L402_, L408_, L414_, L420_, L421_, L422_, L423_, L424_, L425_, L426_, L427_, L428_, L999_, L2568_, L2996_, h0]
    rfl
  | succ c ih =>
    intro j a n h hn
    obtain ⟨n, rfl, -⟩ := suc hn
    rw [f_X7_sumOf_4]
    simp (disch := omega) only [bnd_e, chk_tt, bn_s, bt_s, bt_x, inb_n, nI_clamp, le_t, le_f, lt_t, lt_f, eq_f, nI_add, pk_mul, ne_eq, not_true_eq_false, not_false_eq_true, ↓reduceIte, L0_, L1_, L2_, L3_, L4_, L5_, L6_, L7_, L8_, L9_, L10_, L11_, L12_, L13_, L14_, L15_, L16_, L20_, L22_, L23_, L24_, L25_, L30_, L31_, L32_, L33_, L36_, L40_, L41_, L45_, L48_, L60_, L63_, L64_, L97_, L100_, L107_, L108_, L126_, L150_, L200_, L294_, L366_, L402_, L408_, L414_, L420_, L421_, L422_, L423_, L424_, L425_, L426_, L427_, L428_, L999_, L2568_, L2996_, h0, m_townOf hF]
    exact ih (j + 1) _ n (by omega) (by omega)
theorem m_sum {M : Mem} {F : Nat → Int32} {k : Nat} (hF : Mo M F) (hS : SI F k) {w : Nat} (hw : w < 12) : f_X7_sumOf (nI w) M = some (sumTF F k w, M) := m_sum4 hF hS hw k 0 _ FU (by omega) (by have := hS.1; show k < 100000; omega)
theorem m_owing4 {M : Mem} {F : Nat → Int32} (hF : Mo M F) : ∀ (c j : Nat) (a : Int32) (n : Nat), j + c = 36 → c < n → f_X7_owing_4 n a (nI j) M = some (acl (fun k => if F (366 + k) ≤ nI 0 then nI 0 else nI 1) c j a, M) := by
  intro c
  induction c with
  | zero =>
    intro j a n h hn
    obtain ⟨n, rfl, -⟩ := suc hn
    rw [f_X7_owing_4]
    simp (disch := omega) only [bnd_e, chk_tt, bn_s, bt_s, bt_x, inb_n, nI_clamp, le_t, le_f, lt_t, lt_f, eq_f, nI_add, pk_mul, ne_eq, not_true_eq_false, not_false_eq_true, ↓reduceIte, L0_, L1_, L2_, L3_, L4_, L5_, L6_, L7_, L8_, L9_, L10_, L11_, L12_, L13_, L14_, L15_, L16_, L20_, L22_, L23_, L24_, L25_, L30_, L31_, L32_, L33_, L36_, L40_, L41_, L45_, L48_, L60_, L63_, L64_, L97_, L100_, L107_, L108_, L126_, L150_, L200_, L294_, L366_, L402_, L408_, L414_, L420_, L421_, L422_, L423_, L424_, L425_, L426_, L427_, L428_, L999_, L2568_, L2996_]
    rfl
  | succ c ih =>
    intro j a n h hn
    obtain ⟨n, rfl, -⟩ := suc hn
    rw [f_X7_owing_4]
    simp (disch := omega) only [bnd_e, chk_tt, bn_s, bt_s, bt_x, inb_n, nI_clamp, le_t, le_f, lt_t, lt_f, eq_f, nI_add, pk_mul, ne_eq, not_true_eq_false, not_false_eq_true, ↓reduceIte, L0_, L1_, L2_, L3_, L4_, L5_, L6_, L7_, L8_, L9_, L10_, L11_, L12_, L13_, L14_, L15_, L16_, L20_, L22_, L23_, L24_, L25_, L30_, L31_, L32_, L33_, L36_, L40_, L41_, L45_, L48_, L60_, L63_, L64_, L97_, L100_, L107_, L108_, L126_, L150_, L200_, L294_, L366_, L402_, L408_, L414_, L420_, L421_, L422_, L423_, L424_, L425_, L426_, L427_, L428_, L999_, L2568_, L2996_, f_X7_owing_29]
    rw [hF _ (by omega)]
    show (if _ then f_X7_owing_4 n _ _ M else f_X7_owing_4 n _ _ M) = some (acl _ c (j + 1) (a + (if _ then _ else _)), M)
    by_cases q : F (366 + j) ≤ nI 0
    · rw [if_pos q, if_pos q]
      exact ih (j + 1) _ n (by omega) (by omega)
    · rw [if_neg q, if_neg q]
      exact ih (j + 1) _ n (by omega) (by omega)
theorem m_owing {M : Mem} {F : Nat → Int32} (hF : Mo M F) : f_X7_owing M = some (owingF F, M) := m_owing4 hF 36 0 _ FU rfl (by decide)
theorem m_countOf {M : Mem} {F : Nat → Int32} {k n : Nat} (hF : Mo M F) (hS : SI F k) (hn : M.1 24 1 = nI n) {w : Nat} (hw : w < 11) : f_X7_countOf (nI w) M = some (countF F k n w, M) := by
  unfold f_X7_countOf
  match w, hw with
  | 0, _ => simp (disch := omega) only [bnd_e, chk_tt, bn_s, bt_s, bt_x, inb_n, nI_clamp, le_t, le_f, lt_t, lt_f, eq_f, nI_add, pk_mul, ne_eq, not_true_eq_false, not_false_eq_true, ↓reduceIte, L0_, L1_, L2_, L3_, L4_, L5_, L6_, L7_, L8_, L9_, L10_, L11_, L12_, L13_, L14_, L15_, L16_, L20_, L22_, L23_, L24_, L25_, L30_, L31_, L32_, L33_, L36_, L40_, L41_, L45_, L48_, L60_, L63_, L64_, L97_, L100_, L107_, L108_, L126_, L150_, L200_, L294_, L366_, L402_, L408_, L414_, L420_, L421_, L422_, L423_, L424_, L425_, L426_, L427_, L428_, L999_, L2568_, L2996_]; rw [hF _ (by omega), hS.2.1]; rfl
  | 1, _ => simp (disch := omega) only [bnd_e, chk_tt, bn_s, bt_s, bt_x, inb_n, nI_clamp, le_t, le_f, lt_t, lt_f, eq_f, nI_add, pk_mul, ne_eq, not_true_eq_false, not_false_eq_true, ↓reduceIte, L0_, L1_, L2_, L3_, L4_, L5_, L6_, L7_, L8_, L9_, L10_, L11_, L12_, L13_, L14_, L15_, L16_, L20_, L22_, L23_, L24_, L25_, L30_, L31_, L32_, L33_, L36_, L40_, L41_, L45_, L48_, L60_, L63_, L64_, L97_, L100_, L107_, L108_, L126_, L150_, L200_, L294_, L366_, L402_, L408_, L414_, L420_, L421_, L422_, L423_, L424_, L425_, L426_, L427_, L428_, L999_, L2568_, L2996_, m_sum hF hS]; rfl
  | 2, _ => simp (disch := omega) only [bnd_e, chk_tt, bn_s, bt_s, bt_x, inb_n, nI_clamp, le_t, le_f, lt_t, lt_f, eq_f, nI_add, pk_mul, ne_eq, not_true_eq_false, not_false_eq_true, ↓reduceIte, L0_, L1_, L2_, L3_, L4_, L5_, L6_, L7_, L8_, L9_, L10_, L11_, L12_, L13_, L14_, L15_, L16_, L20_, L22_, L23_, L24_, L25_, L30_, L31_, L32_, L33_, L36_, L40_, L41_, L45_, L48_, L60_, L63_, L64_, L97_, L100_, L107_, L108_, L126_, L150_, L200_, L294_, L366_, L402_, L408_, L414_, L420_, L421_, L422_, L423_, L424_, L425_, L426_, L427_, L428_, L999_, L2568_, L2996_, m_sum hF hS]; rfl
  | 3, _ => simp (disch := omega) only [bnd_e, chk_tt, bn_s, bt_s, bt_x, inb_n, nI_clamp, le_t, le_f, lt_t, lt_f, eq_f, nI_add, pk_mul, ne_eq, not_true_eq_false, not_false_eq_true, ↓reduceIte, L0_, L1_, L2_, L3_, L4_, L5_, L6_, L7_, L8_, L9_, L10_, L11_, L12_, L13_, L14_, L15_, L16_, L20_, L22_, L23_, L24_, L25_, L30_, L31_, L32_, L33_, L36_, L40_, L41_, L45_, L48_, L60_, L63_, L64_, L97_, L100_, L107_, L108_, L126_, L150_, L200_, L294_, L366_, L402_, L408_, L414_, L420_, L421_, L422_, L423_, L424_, L425_, L426_, L427_, L428_, L999_, L2568_, L2996_, m_sum hF hS]; rfl
  | 4, _ => simp (disch := omega) only [bnd_e, chk_tt, bn_s, bt_s, bt_x, inb_n, nI_clamp, le_t, le_f, lt_t, lt_f, eq_f, nI_add, pk_mul, ne_eq, not_true_eq_false, not_false_eq_true, ↓reduceIte, L0_, L1_, L2_, L3_, L4_, L5_, L6_, L7_, L8_, L9_, L10_, L11_, L12_, L13_, L14_, L15_, L16_, L20_, L22_, L23_, L24_, L25_, L30_, L31_, L32_, L33_, L36_, L40_, L41_, L45_, L48_, L60_, L63_, L64_, L97_, L100_, L107_, L108_, L126_, L150_, L200_, L294_, L366_, L402_, L408_, L414_, L420_, L421_, L422_, L423_, L424_, L425_, L426_, L427_, L428_, L999_, L2568_, L2996_, m_owing hF]; rfl
  | 5, _ => simp (disch := omega) only [bnd_e, chk_tt, bn_s, bt_s, bt_x, inb_n, nI_clamp, le_t, le_f, lt_t, lt_f, eq_f, nI_add, pk_mul, ne_eq, not_true_eq_false, not_false_eq_true, ↓reduceIte, L0_, L1_, L2_, L3_, L4_, L5_, L6_, L7_, L8_, L9_, L10_, L11_, L12_, L13_, L14_, L15_, L16_, L20_, L22_, L23_, L24_, L25_, L30_, L31_, L32_, L33_, L36_, L40_, L41_, L45_, L48_, L60_, L63_, L64_, L97_, L100_, L107_, L108_, L126_, L150_, L200_, L294_, L366_, L402_, L408_, L414_, L420_, L421_, L422_, L423_, L424_, L425_, L426_, L427_, L428_, L999_, L2568_, L2996_]; rw [hF _ (by omega)]; rfl
  | 6, _ => simp (disch := omega) only [bnd_e, chk_tt, bn_s, bt_s, bt_x, inb_n, nI_clamp, le_t, le_f, lt_t, lt_f, eq_f, nI_add, pk_mul, ne_eq, not_true_eq_false, not_false_eq_true, ↓reduceIte, L0_, L1_, L2_, L3_, L4_, L5_, L6_, L7_, L8_, L9_, L10_, L11_, L12_, L13_, L14_, L15_, L16_, L20_, L22_, L23_, L24_, L25_, L30_, L31_, L32_, L33_, L36_, L40_, L41_, L45_, L48_, L60_, L63_, L64_, L97_, L100_, L107_, L108_, L126_, L150_, L200_, L294_, L366_, L402_, L408_, L414_, L420_, L421_, L422_, L423_, L424_, L425_, L426_, L427_, L428_, L999_, L2568_, L2996_]; rw [hF _ (by omega)]; rfl
  | 7, _ => simp (disch := omega) only [bnd_e, chk_tt, bn_s, bt_s, bt_x, inb_n, nI_clamp, le_t, le_f, lt_t, lt_f, eq_f, nI_add, pk_mul, ne_eq, not_true_eq_false, not_false_eq_true, ↓reduceIte, L0_, L1_, L2_, L3_, L4_, L5_, L6_, L7_, L8_, L9_, L10_, L11_, L12_, L13_, L14_, L15_, L16_, L20_, L22_, L23_, L24_, L25_, L30_, L31_, L32_, L33_, L36_, L40_, L41_, L45_, L48_, L60_, L63_, L64_, L97_, L100_, L107_, L108_, L126_, L150_, L200_, L294_, L366_, L402_, L408_, L414_, L420_, L421_, L422_, L423_, L424_, L425_, L426_, L427_, L428_, L999_, L2568_, L2996_]; rw [hF _ (by omega)]; rfl
  | 8, _ => simp (disch := omega) only [bnd_e, chk_tt, bn_s, bt_s, bt_x, inb_n, nI_clamp, le_t, le_f, lt_t, lt_f, eq_f, nI_add, pk_mul, ne_eq, not_true_eq_false, not_false_eq_true, ↓reduceIte, L0_, L1_, L2_, L3_, L4_, L5_, L6_, L7_, L8_, L9_, L10_, L11_, L12_, L13_, L14_, L15_, L16_, L20_, L22_, L23_, L24_, L25_, L30_, L31_, L32_, L33_, L36_, L40_, L41_, L45_, L48_, L60_, L63_, L64_, L97_, L100_, L107_, L108_, L126_, L150_, L200_, L294_, L366_, L402_, L408_, L414_, L420_, L421_, L422_, L423_, L424_, L425_, L426_, L427_, L428_, L999_, L2568_, L2996_]; rw [hF _ (by omega)]; rfl
  | 9, _ => simp (disch := omega) only [bnd_e, chk_tt, bn_s, bt_s, bt_x, inb_n, nI_clamp, le_t, le_f, lt_t, lt_f, eq_f, nI_add, pk_mul, ne_eq, not_true_eq_false, not_false_eq_true, ↓reduceIte, L0_, L1_, L2_, L3_, L4_, L5_, L6_, L7_, L8_, L9_, L10_, L11_, L12_, L13_, L14_, L15_, L16_, L20_, L22_, L23_, L24_, L25_, L30_, L31_, L32_, L33_, L36_, L40_, L41_, L45_, L48_, L60_, L63_, L64_, L97_, L100_, L107_, L108_, L126_, L150_, L200_, L294_, L366_, L402_, L408_, L414_, L420_, L421_, L422_, L423_, L424_, L425_, L426_, L427_, L428_, L999_, L2568_, L2996_, m_sum hF hS]; rfl
  | 10, _ => simp (disch := omega) only [bnd_e, chk_tt, bn_s, bt_s, bt_x, inb_n, nI_clamp, le_t, le_f, lt_t, lt_f, eq_f, nI_add, pk_mul, ne_eq, not_true_eq_false, not_false_eq_true, ↓reduceIte, L0_, L1_, L2_, L3_, L4_, L5_, L6_, L7_, L8_, L9_, L10_, L11_, L12_, L13_, L14_, L15_, L16_, L20_, L22_, L23_, L24_, L25_, L30_, L31_, L32_, L33_, L36_, L40_, L41_, L45_, L48_, L60_, L63_, L64_, L97_, L100_, L107_, L108_, L126_, L150_, L200_, L294_, L366_, L402_, L408_, L414_, L420_, L421_, L422_, L423_, L424_, L425_, L426_, L427_, L428_, L999_, L2568_, L2996_]; rw [hn]; rfl
