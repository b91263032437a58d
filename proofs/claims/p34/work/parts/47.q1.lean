/-! ===== the questions ===== -/
theorem inb_cs (x : Int32) {n : Nat} (hn : n < 2 ^ 31) : inb x n = false ∨ ∃ j, j < n ∧ x = nI j := by
  cases e : inb x n with
  | false => exact Or.inl rfl
  | true => exact Or.inr (inb_ex hn e)
theorem ninb {x : Int32} {n j : Nat} (h : inb x n = false) (hj : j < n) (hn : n < 2 ^ 31) : (x = nI j) = False := eq_false (fun e => by rw [e, inb_n hj (by omega)] at h; cases h)
theorem ckF {α : Type} {x : Int32} {n : Nat} (h : inb x n = false) (hn : n < 2 ^ 31) {A B : α} : (if x < 0 then A else if x < nI n then B else A) = A := by
  by_cases q : x < 0
  · rw [if_pos q]
  · rw [if_neg q]
    rcases inb_f hn h with z | z
    · exact absurd z q
    · rw [if_neg (Int32.not_lt.mpr z)]
section CK
variable {M : Mem} {F : Nat → Int32} {k : Nat}
theorem x_ct0 (hF : LR M 34 F) (hS : SI F k) {x : Int32} (h : inb x k = false) : f_X6_checkTown x M = some (.inr exI, M) := by
  have hk := hS.1
  unfold f_X6_checkTown
  rw [x_many hF hS]
  exact ckF h (by omega)
theorem x_ct1 (hF : LR M 34 F) (hS : SI F k) {t : Nat} (h : t < k) : f_X6_checkTown (nI t) M = some (.inl (), M) := by
  have hk := hS.1
  unfold f_X6_checkTown
  rw [x_many hF hS]
  simp (disch := omega) only [bnd_e, chk_tt, bn_s, bt_s, bt_x, inb_n, nI_clamp, le_t, le_f, lt_t, lt_f, eq_f, nI_add, pk_mul, ne_eq, not_true_eq_false, not_false_eq_true, ↓reduceIte, L0_, L1_, L2_, L3_, L4_, L5_, L6_, L7_, L8_, L9_, L10_, L11_, L12_, L13_, L14_, L15_, L16_, L20_, L22_, L23_, L24_, L25_, L30_, L31_, L32_, L33_, L36_, L40_, L41_, L45_, L48_, L60_, L63_, L64_, L97_, L100_, L107_, L108_, L126_, L150_, L200_, L294_, L366_, L402_, L408_, L414_, L420_, L421_, L422_, L423_, L424_, L425_, L426_, L427_, L428_, L999_, L2568_, L2996_]
theorem x_cs0 {x : Int32} (h : inb x 24 = false) : f_X6_checkStep x M = some (.inr exI, M) := ckF h (by omega)
theorem x_cs1 {t : Nat} (h : t < 24) : f_X6_checkStep (nI t) M = some (.inl (), M) := by
  unfold f_X6_checkStep
  simp (disch := omega) only [bnd_e, chk_tt, bn_s, bt_s, bt_x, inb_n, nI_clamp, le_t, le_f, lt_t, lt_f, eq_f, nI_add, pk_mul, ne_eq, not_true_eq_false, not_false_eq_true, ↓reduceIte, L0_, L1_, L2_, L3_, L4_, L5_, L6_, L7_, L8_, L9_, L10_, L11_, L12_, L13_, L14_, L15_, L16_, L20_, L22_, L23_, L24_, L25_, L30_, L31_, L32_, L33_, L36_, L40_, L41_, L45_, L48_, L60_, L63_, L64_, L97_, L100_, L107_, L108_, L126_, L150_, L200_, L294_, L366_, L402_, L408_, L414_, L420_, L421_, L422_, L423_, L424_, L425_, L426_, L427_, L428_, L999_, L2568_, L2996_]
theorem x_cz0 {x : Int32} (h : inb x 3 = false) : f_X6_checkSetting x M = some (.inr exI, M) := ckF h (by omega)
theorem x_cz1 {t : Nat} (h : t < 3) : f_X6_checkSetting (nI t) M = some (.inl (), M) := by
  unfold f_X6_checkSetting
  simp (disch := omega) only [bnd_e, chk_tt, bn_s, bt_s, bt_x, inb_n, nI_clamp, le_t, le_f, lt_t, lt_f, eq_f, nI_add, pk_mul, ne_eq, not_true_eq_false, not_false_eq_true, ↓reduceIte, L0_, L1_, L2_, L3_, L4_, L5_, L6_, L7_, L8_, L9_, L10_, L11_, L12_, L13_, L14_, L15_, L16_, L20_, L22_, L23_, L24_, L25_, L30_, L31_, L32_, L33_, L36_, L40_, L41_, L45_, L48_, L60_, L63_, L64_, L97_, L100_, L107_, L108_, L126_, L150_, L200_, L294_, L366_, L402_, L408_, L414_, L420_, L421_, L422_, L423_, L424_, L425_, L426_, L427_, L428_, L999_, L2568_, L2996_]
theorem x_co0 {x : Int32} (h : inb x 12 = false) : f_X6_checkTooth x M = some (.inr exI, M) := ckF h (by omega)
theorem x_co1 {t : Nat} (h : t < 12) : f_X6_checkTooth (nI t) M = some (.inl (), M) := by
  unfold f_X6_checkTooth
  simp (disch := omega) only [bnd_e, chk_tt, bn_s, bt_s, bt_x, inb_n, nI_clamp, le_t, le_f, lt_t, lt_f, eq_f, nI_add, pk_mul, ne_eq, not_true_eq_false, not_false_eq_true, ↓reduceIte, L0_, L1_, L2_, L3_, L4_, L5_, L6_, L7_, L8_, L9_, L10_, L11_, L12_, L13_, L14_, L15_, L16_, L20_, L22_, L23_, L24_, L25_, L30_, L31_, L32_, L33_, L36_, L40_, L41_, L45_, L48_, L60_, L63_, L64_, L97_, L100_, L107_, L108_, L126_, L150_, L200_, L294_, L366_, L402_, L408_, L414_, L420_, L421_, L422_, L423_, L424_, L425_, L426_, L427_, L428_, L999_, L2568_, L2996_]
end CK
theorem Mo.co {M : Mem} {F : Nat → Int32} (h : Mo M F) (z : Int32) : Mo (mw M 24 2 z) F := fun i hi => by rw [mwn (by omega)]; exact h i hi
section QQ
variable {M : Mem}
end QQ
