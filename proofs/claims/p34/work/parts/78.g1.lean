/-! ===== digest: the class ===== -/
def mx (h : Int64) (v : Int32) : Int64 := (31 : Int64) * h + v.toInt64
def fo (f : Nat → Int32) : Nat → Nat → Int64 → Int64
  | 0, _, h => h
  | c + 1, i, h => fo f c (i + 1) (mx h (f i))
def fo3 (f g e : Nat → Int32) : Nat → Nat → Int64 → Int64
  | 0, _, h => h
  | c + 1, i, h => fo3 f g e c (i + 1) (mx (mx (mx h (f i)) (g i)) (e i))
def tnA (F : Nat → Int32) (k t : Nat) (h : Int64) : Int64 := mx (mx (mx (mx (fo (ifF F t) 5 0 (fo (townF F t) 12 0 h)) (lastsF F t)) (turnF F t 0)) (turnF F t 1)) (drumB F k t)
def tnB (F : Nat → Int32) (k t : Nat) (h : Int64) : Int64 := fo3 (drumF F t) (tuneF F t) (plF F t).2.2.2.1 24 0 (fo (fun u => F (366 + 6 * t + u)) k 0 (fo (wearF F t) 12 0 h))
def tnL (F : Nat → Int32) (k : Nat) : Nat → Nat → Int64 → Int64
  | 0, _, h => h
  | c + 1, t, h => tnL F k c (t + 1) (tnB F k t (tnA F k t h))
def dgA (F : Nat → Int32) (k n : Nat) : Int64 := tnL F k k 0 (fo (fun i => F (420 + i)) 3 0 (fo (countF F k n) 11 0 (2357 : Int64)))
def dgB (F : Nat → Int32) (k : Nat) (h : Int64) : Int64 := fo (fun i => tdV F k (10 + i)) 6 0 (mx h (tdV F k 0))
def dgC (F : Nat → Int32) (k : Nat) (h : Int64) : Int64 := fo (fun i => rgV F (rngF F k) (10 + i)) 6 0 (mx (mx h (rgV F (rngF F k) 0)) (rgV F (rngF F k) 1))
def dgH (F : Nat → Int32) (k n l : Nat) (B : Nat → Int32) : Int64 := fo B l 0 (mx ((31 : Int64) * (dgC F k (dgB F k (dgA F k n))) + (shF F k).toInt64) (nI l))
section DX
variable {M : Mem} {F : Nat → Int32} {k n l : Nat} {Sv : Nat → Nat → Int32} {B : Nat → Int32}
theorem x_mixed (h : Int64) (v : Int32) (M : Mem) : f_X6_mixed h v.toInt64 M = some (mx h v, M) := rfl
theorem x_townQ (hF : LR M 34 F) (hS : SI F k) {t w : Nat} (ht : t < k) (hw : w < 12) : f_X6_town (nI t) (nI w) M = some (.inl (townF F t w), M) := by
  have hk := hS.1
  have h6 : t < 6 := by omega
  unfold f_X6_town
  rcases (show w = 0 ∨ w = 1 ∨ w = 2 ∨ w = 3 ∨ w = 4 ∨ w = 5 ∨ w = 6 ∨ w = 7 ∨ w = 8 ∨ w = 9 ∨ w = 10 ∨ w = 11 by omega) with rfl | rfl | rfl | rfl | rfl | rfl | rfl | rfl | rfl | rfl | rfl | rfl
  · simp (disch := omega) only [bnd_e, chk_tt, bn_s, bt_s, bt_x, inb_n, nI_clamp, le_t, le_f, lt_t, lt_f, eq_f, nI_add, pk_mul, ne_eq, not_true_eq_false, not_false_eq_true, ↓reduceIte, L0_, L1_, L2_, L3_, L4_, L5_, L6_, L7_, L8_, L9_, L10_, L11_, L12_, L13_, L14_, L15_, L16_, L20_, L22_, L23_, L24_, L25_, L30_, L31_, L32_, L33_, L36_, L40_, L41_, L45_, L48_, L60_, L63_, L64_, L97_, L100_, L107_, L108_, L126_, L150_, L200_, L294_, L366_, L402_, L408_, L414_, L420_, L421_, L422_, L423_, L424_, L425_, L426_, L427_, L428_, L999_, L2568_, L2996_, x_ct1 hF hS, tw_35, eq_f]; rw [hF.box h6]; rfl
  · simp (disch := omega) only [bnd_e, chk_tt, bn_s, bt_s, bt_x, inb_n, nI_clamp, le_t, le_f, lt_t, lt_f, eq_f, nI_add, pk_mul, ne_eq, not_true_eq_false, not_false_eq_true, ↓reduceIte, L0_, L1_, L2_, L3_, L4_, L5_, L6_, L7_, L8_, L9_, L10_, L11_, L12_, L13_, L14_, L15_, L16_, L20_, L22_, L23_, L24_, L25_, L30_, L31_, L32_, L33_, L36_, L40_, L41_, L45_, L48_, L60_, L63_, L64_, L97_, L100_, L107_, L108_, L126_, L150_, L200_, L294_, L366_, L402_, L408_, L414_, L420_, L421_, L422_, L423_, L424_, L425_, L426_, L427_, L428_, L999_, L2568_, L2996_, x_ct1 hF hS, tw_35, eq_f, x_drum hF isL34 hS]; rfl
  · simp (disch := omega) only [bnd_e, chk_tt, bn_s, bt_s, bt_x, inb_n, nI_clamp, le_t, le_f, lt_t, lt_f, eq_f, nI_add, pk_mul, ne_eq, not_true_eq_false, not_false_eq_true, ↓reduceIte, L0_, L1_, L2_, L3_, L4_, L5_, L6_, L7_, L8_, L9_, L10_, L11_, L12_, L13_, L14_, L15_, L16_, L20_, L22_, L23_, L24_, L25_, L30_, L31_, L32_, L33_, L36_, L40_, L41_, L45_, L48_, L60_, L63_, L64_, L97_, L100_, L107_, L108_, L126_, L150_, L200_, L294_, L366_, L402_, L408_, L414_, L420_, L421_, L422_, L423_, L424_, L425_, L426_, L427_, L428_, L999_, L2568_, L2996_, x_ct1 hF hS, tw_35, eq_f, x_tune hF isL34 hS]; rfl
  · simp (disch := omega) only [bnd_e, chk_tt, bn_s, bt_s, bt_x, inb_n, nI_clamp, le_t, le_f, lt_t, lt_f, eq_f, nI_add, pk_mul, ne_eq, not_true_eq_false, not_false_eq_true, ↓reduceIte, L0_, L1_, L2_, L3_, L4_, L5_, L6_, L7_, L8_, L9_, L10_, L11_, L12_, L13_, L14_, L15_, L16_, L20_, L22_, L23_, L24_, L25_, L30_, L31_, L32_, L33_, L36_, L40_, L41_, L45_, L48_, L60_, L63_, L64_, L97_, L100_, L107_, L108_, L126_, L150_, L200_, L294_, L366_, L402_, L408_, L414_, L420_, L421_, L422_, L423_, L424_, L425_, L426_, L427_, L428_, L999_, L2568_, L2996_, x_ct1 hF hS, tw_35, eq_f, x_right hF isL34 hS]; rfl
  · simp (disch := omega) only [bnd_e, chk_tt, bn_s, bt_s, bt_x, inb_n, nI_clamp, le_t, le_f, lt_t, lt_f, eq_f, nI_add, pk_mul, ne_eq, not_true_eq_false, not_false_eq_true, ↓reduceIte, L0_, L1_, L2_, L3_, L4_, L5_, L6_, L7_, L8_, L9_, L10_, L11_, L12_, L13_, L14_, L15_, L16_, L20_, L22_, L23_, L24_, L25_, L30_, L31_, L32_, L33_, L36_, L40_, L41_, L45_, L48_, L60_, L63_, L64_, L97_, L100_, L107_, L108_, L126_, L150_, L200_, L294_, L366_, L402_, L408_, L414_, L420_, L421_, L422_, L423_, L424_, L425_, L426_, L427_, L428_, L999_, L2568_, L2996_, x_ct1 hF hS, tw_35, eq_f, x_drum hF isL34 hS, x_right hF isL34 hS]; rfl
  · simp (disch := omega) only [bnd_e, chk_tt, bn_s, bt_s, bt_x, inb_n, nI_clamp, le_t, le_f, lt_t, lt_f, eq_f, nI_add, pk_mul, ne_eq, not_true_eq_false, not_false_eq_true, ↓reduceIte, L0_, L1_, L2_, L3_, L4_, L5_, L6_, L7_, L8_, L9_, L10_, L11_, L12_, L13_, L14_, L15_, L16_, L20_, L22_, L23_, L24_, L25_, L30_, L31_, L32_, L33_, L36_, L40_, L41_, L45_, L48_, L60_, L63_, L64_, L97_, L100_, L107_, L108_, L126_, L150_, L200_, L294_, L366_, L402_, L408_, L414_, L420_, L421_, L422_, L423_, L424_, L425_, L426_, L427_, L428_, L999_, L2568_, L2996_, x_ct1 hF hS, tw_35, eq_f, x_tune hF isL34 hS, x_right hF isL34 hS]; rfl
  · simp (disch := omega) only [bnd_e, chk_tt, bn_s, bt_s, bt_x, inb_n, nI_clamp, le_t, le_f, lt_t, lt_f, eq_f, nI_add, pk_mul, ne_eq, not_true_eq_false, not_false_eq_true, ↓reduceIte, L0_, L1_, L2_, L3_, L4_, L5_, L6_, L7_, L8_, L9_, L10_, L11_, L12_, L13_, L14_, L15_, L16_, L20_, L22_, L23_, L24_, L25_, L30_, L31_, L32_, L33_, L36_, L40_, L41_, L45_, L48_, L60_, L63_, L64_, L97_, L100_, L107_, L108_, L126_, L150_, L200_, L294_, L366_, L402_, L408_, L414_, L420_, L421_, L422_, L423_, L424_, L425_, L426_, L427_, L428_, L999_, L2568_, L2996_, x_ct1 hF hS, tw_35, eq_f, x_owes hF isL34 hS]; rfl
  · simp (disch := omega) only [bnd_e, chk_tt, bn_s, bt_s, bt_x, inb_n, nI_clamp, le_t, le_f, lt_t, lt_f, eq_f, nI_add, pk_mul, ne_eq, not_true_eq_false, not_false_eq_true, ↓reduceIte, L0_, L1_, L2_, L3_, L4_, L5_, L6_, L7_, L8_, L9_, L10_, L11_, L12_, L13_, L14_, L15_, L16_, L20_, L22_, L23_, L24_, L25_, L30_, L31_, L32_, L33_, L36_, L40_, L41_, L45_, L48_, L60_, L63_, L64_, L97_, L100_, L107_, L108_, L126_, L150_, L200_, L294_, L366_, L402_, L408_, L414_, L420_, L421_, L422_, L423_, L424_, L425_, L426_, L427_, L428_, L999_, L2568_, L2996_, x_ct1 hF hS, tw_35, eq_f, x_owed hF isL34 hS]; rfl
  · simp (disch := omega) only [bnd_e, chk_tt, bn_s, bt_s, bt_x, inb_n, nI_clamp, le_t, le_f, lt_t, lt_f, eq_f, nI_add, pk_mul, ne_eq, not_true_eq_false, not_false_eq_true, ↓reduceIte, L0_, L1_, L2_, L3_, L4_, L5_, L6_, L7_, L8_, L9_, L10_, L11_, L12_, L13_, L14_, L15_, L16_, L20_, L22_, L23_, L24_, L25_, L30_, L31_, L32_, L33_, L36_, L40_, L41_, L45_, L48_, L60_, L63_, L64_, L97_, L100_, L107_, L108_, L126_, L150_, L200_, L294_, L366_, L402_, L408_, L414_, L420_, L421_, L422_, L423_, L424_, L425_, L426_, L427_, L428_, L999_, L2568_, L2996_, x_ct1 hF hS, tw_35, eq_f]; rw [hF.pld h6]; rfl
  · simp (disch := omega) only [bnd_e, chk_tt, bn_s, bt_s, bt_x, inb_n, nI_clamp, le_t, le_f, lt_t, lt_f, eq_f, nI_add, pk_mul, ne_eq, not_true_eq_false, not_false_eq_true, ↓reduceIte, L0_, L1_, L2_, L3_, L4_, L5_, L6_, L7_, L8_, L9_, L10_, L11_, L12_, L13_, L14_, L15_, L16_, L20_, L22_, L23_, L24_, L25_, L30_, L31_, L32_, L33_, L36_, L40_, L41_, L45_, L48_, L60_, L63_, L64_, L97_, L100_, L107_, L108_, L126_, L150_, L200_, L294_, L366_, L402_, L408_, L414_, L420_, L421_, L422_, L423_, L424_, L425_, L426_, L427_, L428_, L999_, L2568_, L2996_, x_ct1 hF hS, tw_35, eq_f]; rw [hF.snd h6]; rfl
  · simp (disch := omega) only [bnd_e, chk_tt, bn_s, bt_s, bt_x, inb_n, nI_clamp, le_t, le_f, lt_t, lt_f, eq_f, nI_add, pk_mul, ne_eq, not_true_eq_false, not_false_eq_true, ↓reduceIte, L0_, L1_, L2_, L3_, L4_, L5_, L6_, L7_, L8_, L9_, L10_, L11_, L12_, L13_, L14_, L15_, L16_, L20_, L22_, L23_, L24_, L25_, L30_, L31_, L32_, L33_, L36_, L40_, L41_, L45_, L48_, L60_, L63_, L64_, L97_, L100_, L107_, L108_, L126_, L150_, L200_, L294_, L366_, L402_, L408_, L414_, L420_, L421_, L422_, L423_, L424_, L425_, L426_, L427_, L428_, L999_, L2568_, L2996_, x_ct1 hF hS, tw_35, eq_f]; rw [hF.fell h6]; rfl
  · simp (disch := omega) only [bnd_e, chk_tt, bn_s, bt_s, bt_x, inb_n, nI_clamp, le_t, le_f, lt_t, lt_f, eq_f, nI_add, pk_mul, ne_eq, not_true_eq_false, not_false_eq_true, ↓reduceIte, L0_, L1_, L2_, L3_, L4_, L5_, L6_, L7_, L8_, L9_, L10_, L11_, L12_, L13_, L14_, L15_, L16_, L20_, L22_, L23_, L24_, L25_, L30_, L31_, L32_, L33_, L36_, L40_, L41_, L45_, L48_, L60_, L63_, L64_, L97_, L100_, L107_, L108_, L126_, L150_, L200_, L294_, L366_, L402_, L408_, L414_, L420_, L421_, L422_, L423_, L424_, L425_, L426_, L427_, L428_, L999_, L2568_, L2996_, x_ct1 hF hS, tw_35, eq_f]; rw [hF.set1, x_dull (W := wearF F t) (kTw (kT isL34 h6)) (alW isL34 h6) (fun j hj => hF.wear h6 hj)]; rfl
theorem x_countQ (hF : LR M 34 F) (hS : SI F k) (hn : M.1 0 2 = nI n) {w : Nat} (hw : w < 11) : f_X6_count (nI w) M = some (.inl (countF F k n w), M) := by
  unfold f_X6_count
  rcases (show w = 0 ∨ w = 1 ∨ w = 2 ∨ w = 3 ∨ w = 4 ∨ w = 5 ∨ w = 6 ∨ w = 7 ∨ w = 8 ∨ w = 9 ∨ w = 10 by omega) with rfl | rfl | rfl | rfl | rfl | rfl | rfl | rfl | rfl | rfl | rfl
  · simp (disch := omega) only [bnd_e, chk_tt, bn_s, bt_s, bt_x, inb_n, nI_clamp, le_t, le_f, lt_t, lt_f, eq_f, nI_add, pk_mul, ne_eq, not_true_eq_false, not_false_eq_true, ↓reduceIte, L0_, L1_, L2_, L3_, L4_, L5_, L6_, L7_, L8_, L9_, L10_, L11_, L12_, L13_, L14_, L15_, L16_, L20_, L22_, L23_, L24_, L25_, L30_, L31_, L32_, L33_, L36_, L40_, L41_, L45_, L48_, L60_, L63_, L64_, L97_, L100_, L107_, L108_, L126_, L150_, L200_, L294_, L366_, L402_, L408_, L414_, L420_, L421_, L422_, L423_, L424_, L425_, L426_, L427_, L428_, L999_, L2568_, L2996_]; rw [x_many hF hS]; rfl
  · simp (disch := omega) only [bnd_e, chk_tt, bn_s, bt_s, bt_x, inb_n, nI_clamp, le_t, le_f, lt_t, lt_f, eq_f, nI_add, pk_mul, ne_eq, not_true_eq_false, not_false_eq_true, ↓reduceIte, L0_, L1_, L2_, L3_, L4_, L5_, L6_, L7_, L8_, L9_, L10_, L11_, L12_, L13_, L14_, L15_, L16_, L20_, L22_, L23_, L24_, L25_, L30_, L31_, L32_, L33_, L36_, L40_, L41_, L45_, L48_, L60_, L63_, L64_, L97_, L100_, L107_, L108_, L126_, L150_, L200_, L294_, L366_, L402_, L408_, L414_, L420_, L421_, L422_, L423_, L424_, L425_, L426_, L427_, L428_, L999_, L2568_, L2996_, eq_f, x_boxes hF isL34 hS, x_drums hF isL34 hS]; rfl
  · simp (disch := omega) only [bnd_e, chk_tt, bn_s, bt_s, bt_x, inb_n, nI_clamp, le_t, le_f, lt_t, lt_f, eq_f, nI_add, pk_mul, ne_eq, not_true_eq_false, not_false_eq_true, ↓reduceIte, L0_, L1_, L2_, L3_, L4_, L5_, L6_, L7_, L8_, L9_, L10_, L11_, L12_, L13_, L14_, L15_, L16_, L20_, L22_, L23_, L24_, L25_, L30_, L31_, L32_, L33_, L36_, L40_, L41_, L45_, L48_, L60_, L63_, L64_, L97_, L100_, L107_, L108_, L126_, L150_, L200_, L294_, L366_, L402_, L408_, L414_, L420_, L421_, L422_, L423_, L424_, L425_, L426_, L427_, L428_, L999_, L2568_, L2996_, eq_f, x_boxes hF isL34 hS]; rfl
  · simp (disch := omega) only [bnd_e, chk_tt, bn_s, bt_s, bt_x, inb_n, nI_clamp, le_t, le_f, lt_t, lt_f, eq_f, nI_add, pk_mul, ne_eq, not_true_eq_false, not_false_eq_true, ↓reduceIte, L0_, L1_, L2_, L3_, L4_, L5_, L6_, L7_, L8_, L9_, L10_, L11_, L12_, L13_, L14_, L15_, L16_, L20_, L22_, L23_, L24_, L25_, L30_, L31_, L32_, L33_, L36_, L40_, L41_, L45_, L48_, L60_, L63_, L64_, L97_, L100_, L107_, L108_, L126_, L150_, L200_, L294_, L366_, L402_, L408_, L414_, L420_, L421_, L422_, L423_, L424_, L425_, L426_, L427_, L428_, L999_, L2568_, L2996_, eq_f, x_debts hF isL34 hS]; rfl
  · simp (disch := omega) only [bnd_e, chk_tt, bn_s, bt_s, bt_x, inb_n, nI_clamp, le_t, le_f, lt_t, lt_f, eq_f, nI_add, pk_mul, ne_eq, not_true_eq_false, not_false_eq_true, ↓reduceIte, L0_, L1_, L2_, L3_, L4_, L5_, L6_, L7_, L8_, L9_, L10_, L11_, L12_, L13_, L14_, L15_, L16_, L20_, L22_, L23_, L24_, L25_, L30_, L31_, L32_, L33_, L36_, L40_, L41_, L45_, L48_, L60_, L63_, L64_, L97_, L100_, L107_, L108_, L126_, L150_, L200_, L294_, L366_, L402_, L408_, L414_, L420_, L421_, L422_, L423_, L424_, L425_, L426_, L427_, L428_, L999_, L2568_, L2996_, eq_f, x_pairs hF isL34 hS]; rfl
  · simp (disch := omega) only [bnd_e, chk_tt, bn_s, bt_s, bt_x, inb_n, nI_clamp, le_t, le_f, lt_t, lt_f, eq_f, nI_add, pk_mul, ne_eq, not_true_eq_false, not_false_eq_true, ↓reduceIte, L0_, L1_, L2_, L3_, L4_, L5_, L6_, L7_, L8_, L9_, L10_, L11_, L12_, L13_, L14_, L15_, L16_, L20_, L22_, L23_, L24_, L25_, L30_, L31_, L32_, L33_, L36_, L40_, L41_, L45_, L48_, L60_, L63_, L64_, L97_, L100_, L107_, L108_, L126_, L150_, L200_, L294_, L366_, L402_, L408_, L414_, L420_, L421_, L422_, L423_, L424_, L425_, L426_, L427_, L428_, L999_, L2568_, L2996_, eq_f]; rw [hF.lent]; rfl
  · simp (disch := omega) only [bnd_e, chk_tt, bn_s, bt_s, bt_x, inb_n, nI_clamp, le_t, le_f, lt_t, lt_f, eq_f, nI_add, pk_mul, ne_eq, not_true_eq_false, not_false_eq_true, ↓reduceIte, L0_, L1_, L2_, L3_, L4_, L5_, L6_, L7_, L8_, L9_, L10_, L11_, L12_, L13_, L14_, L15_, L16_, L20_, L22_, L23_, L24_, L25_, L30_, L31_, L32_, L33_, L36_, L40_, L41_, L45_, L48_, L60_, L63_, L64_, L97_, L100_, L107_, L108_, L126_, L150_, L200_, L294_, L366_, L402_, L408_, L414_, L420_, L421_, L422_, L423_, L424_, L425_, L426_, L427_, L428_, L999_, L2568_, L2996_, eq_f]; rw [hF.repd]; rfl
  · simp (disch := omega) only [bnd_e, chk_tt, bn_s, bt_s, bt_x, inb_n, nI_clamp, le_t, le_f, lt_t, lt_f, eq_f, nI_add, pk_mul, ne_eq, not_true_eq_false, not_false_eq_true, ↓reduceIte, L0_, L1_, L2_, L3_, L4_, L5_, L6_, L7_, L8_, L9_, L10_, L11_, L12_, L13_, L14_, L15_, L16_, L20_, L22_, L23_, L24_, L25_, L30_, L31_, L32_, L33_, L36_, L40_, L41_, L45_, L48_, L60_, L63_, L64_, L97_, L100_, L107_, L108_, L126_, L150_, L200_, L294_, L366_, L402_, L408_, L414_, L420_, L421_, L422_, L423_, L424_, L425_, L426_, L427_, L428_, L999_, L2568_, L2996_, eq_f]; rw [hF.rings]; rfl
  · simp (disch := omega) only [bnd_e, chk_tt, bn_s, bt_s, bt_x, inb_n, nI_clamp, le_t, le_f, lt_t, lt_f, eq_f, nI_add, pk_mul, ne_eq, not_true_eq_false, not_false_eq_true, ↓reduceIte, L0_, L1_, L2_, L3_, L4_, L5_, L6_, L7_, L8_, L9_, L10_, L11_, L12_, L13_, L14_, L15_, L16_, L20_, L22_, L23_, L24_, L25_, L30_, L31_, L32_, L33_, L36_, L40_, L41_, L45_, L48_, L60_, L63_, L64_, L97_, L100_, L107_, L108_, L126_, L150_, L200_, L294_, L366_, L402_, L408_, L414_, L420_, L421_, L422_, L423_, L424_, L425_, L426_, L427_, L428_, L999_, L2568_, L2996_, eq_f]; rw [hF.less]; rfl
  · simp (disch := omega) only [bnd_e, chk_tt, bn_s, bt_s, bt_x, inb_n, nI_clamp, le_t, le_f, lt_t, lt_f, eq_f, nI_add, pk_mul, ne_eq, not_true_eq_false, not_false_eq_true, ↓reduceIte, L0_, L1_, L2_, L3_, L4_, L5_, L6_, L7_, L8_, L9_, L10_, L11_, L12_, L13_, L14_, L15_, L16_, L20_, L22_, L23_, L24_, L25_, L30_, L31_, L32_, L33_, L36_, L40_, L41_, L45_, L48_, L60_, L63_, L64_, L97_, L100_, L107_, L108_, L126_, L150_, L200_, L294_, L366_, L402_, L408_, L414_, L420_, L421_, L422_, L423_, L424_, L425_, L426_, L427_, L428_, L999_, L2568_, L2996_, eq_f, x_rights hF isL34 hS]; rfl
  · simp (disch := omega) only [bnd_e, chk_tt, bn_s, bt_s, bt_x, inb_n, nI_clamp, le_t, le_f, lt_t, lt_f, eq_f, nI_add, pk_mul, ne_eq, not_true_eq_false, not_false_eq_true, ↓reduceIte, L0_, L1_, L2_, L3_, L4_, L5_, L6_, L7_, L8_, L9_, L10_, L11_, L12_, L13_, L14_, L15_, L16_, L20_, L22_, L23_, L24_, L25_, L30_, L31_, L32_, L33_, L36_, L40_, L41_, L45_, L48_, L60_, L63_, L64_, L97_, L100_, L107_, L108_, L126_, L150_, L200_, L294_, L366_, L402_, L408_, L414_, L420_, L421_, L422_, L423_, L424_, L425_, L426_, L427_, L428_, L999_, L2568_, L2996_, eq_f]; rw [hn]; rfl
theorem x_turnQ (hF : LR M 34 F) (hS : SI F k) {t : Nat} (ht : t < k) : f_X6_bestTurn (nI t) 0 M = some (.inl (turnF F t 0), M) ∧ f_X6_bestTurn (nI t) 1 M = some (.inl (turnF F t 1), M) := by
  have hk := hS.1
  constructor
  · unfold f_X6_bestTurn
    rw [x_ct1 hF hS ht, bt_s, if_pos rfl]
    exact x_turnOf (w := 0) hF hS (by omega) (by omega)
  · unfold f_X6_bestTurn
    rw [x_ct1 hF hS ht, bt_s, if_neg (by decide), if_pos rfl]
    exact x_turnOf (w := 1) hF hS (by omega) (by omega)
theorem x_drumQ (hF : LR M 34 F) (hS : SI F k) {t : Nat} (ht : t < k) : f_X6_bestDrum (nI t) M = some (.inl (drumB F k t), M) := by
  have hk := hS.1
  unfold f_X6_bestDrum
  rw [x_ct1 hF hS ht, bt_s]
  exact x_drum12 hF hS (by omega) k 0 9 FU (by omega) (Or.inl rfl) (by show k < 100000; omega)
theorem x_mt42 (hS : SI F k) {t : Nat} (ht : t < k) : ∀ (c w m : Nat) (h : Int64) (M : Mem), w + c = 5 → c < m → LR M 34 F → Px M (F 421) (F 420) (plF F t) → ∃ M', f_X6_mixedWithTown_42 m (nI t) h (nI w) M = some (.inl (mx (mx (mx (mx (fo (ifF F t) c w h) (lastsF F t)) (turnF F t 0)) (turnF F t 1)) (drumB F k t)), M') ∧ ag xP M M' := by
  have hk := hS.1
  intro c
  induction c with
  | zero =>
    intro w m h M hw hm hL hP
    obtain ⟨m, rfl, -⟩ := suc hm
    obtain rfl : w = 5 := by omega
    obtain ⟨M1, e1, a1⟩ := x_lasts hL hS ht
    have hL1 : LR M1 34 F := hL.ag a1 (fun c i q _ => by unfold xP; omega)
    refine ⟨M1, ?_, a1⟩
    rw [f_X6_mixedWithTown_42, if_pos (show (5 : Int32) ≤ nI 5 from Int32.le_refl _), e1, bt_s, x_mixed, bn_s, (x_turnQ hL1 hS ht).1, bt_s, x_mixed, bn_s, (x_turnQ hL1 hS ht).2, bt_s, x_mixed, bn_s, x_drumQ hL1 hS ht, bt_s, x_mixed, bn_s]
    rfl
  | succ c ih =>
    intro w m h M hw hm hL hP
    obtain ⟨m, rfl, -⟩ := suc hm
    rw [f_X6_mixedWithTown_42, if_neg (show ¬ (5 : Int32) ≤ nI w by rw [show (5 : Int32) = nI 5 from rfl, nI_leI (by omega) (by omega)]; omega), x_tell (by omega) hP, bn_s, x_mixed, bn_s, show nI w + (1 : Int32) = nI (w + 1) from nI_add w 1, bnd_e]
    exact ih (w + 1) m _ M (by omega) (by omega) hL hP
theorem x_mt6 (hS : SI F k) {t : Nat} (ht : t < k) (hL : LR M 34 F) : ∀ (c w m : Nat) (h : Int64), w + c = 12 → c < m → ∃ M', f_X6_mixedWithTown_6 m (nI t) h (nI w) M = some (.inl (mx (mx (mx (mx (fo (ifF F t) 5 0 (fo (townF F t) c w h)) (lastsF F t)) (turnF F t 0)) (turnF F t 1)) (drumB F k t)), M') ∧ ag xP M M' := by
  have hk := hS.1
  intro c
  induction c with
  | zero =>
    intro w m h hw hm
    obtain ⟨m, rfl, -⟩ := suc hm
    obtain rfl : w = 12 := by omega
    obtain ⟨M1, e1, p1, a1⟩ := x_foresee hL hS (show t < 6 by omega)
    obtain ⟨M2, e2, a2⟩ := x_mt42 hS ht 5 0 FU h M1 rfl (by decide) (hL.ag a1 (fun c i q _ => by unfold xP; omega)) p1
    refine ⟨M2, ?_, a1.tr a2⟩
    rw [f_X6_mixedWithTown_6, if_pos (show (12 : Int32) ≤ nI 12 from Int32.le_refl _), e1, bn_s]
    exact e2
  | succ c ih =>
    intro w m h hw hm
    obtain ⟨m, rfl, -⟩ := suc hm
    rw [f_X6_mixedWithTown_6, if_neg (show ¬ (12 : Int32) ≤ nI w by rw [show (12 : Int32) = nI 12 from rfl, nI_leI (by omega) (by omega)]; omega), x_townQ hL hS ht (by omega), bt_s, x_mixed, bn_s, show nI w + (1 : Int32) = nI (w + 1) from nI_add w 1, bnd_e]
    exact ih (w + 1) m _ (by omega) (by omega)
theorem x_mr95 {t : Nat} (ht : t < 6) {P : PS} {du re : Int32} (hL : LR M 34 F) (hP : Px M du re P) : ∀ (c s m : Nat) (h : Int64), s + c = 24 → c < m → f_X6_mixedWithRows_95 m h (tc 34 t) (nI s) M = some (fo3 (drumF F t) (tuneF F t) P.2.2.2.1 c s h, M) := by
  intro c
  induction c with
  | zero =>
    intro s m h hs hm
    obtain ⟨m, rfl, -⟩ := suc hm
    obtain rfl : s = 24 := by omega
    rw [f_X6_mixedWithRows_95, if_pos (show (24 : Int32) ≤ nI 24 from Int32.le_refl _)]
    rfl
  | succ c ih =>
    intro s m h hs hm
    obtain ⟨m, rfl, -⟩ := suc hm
    have h24 : s < 24 := by omega
    rw [f_X6_mixedWithRows_95, if_neg (show ¬ (24 : Int32) ≤ nI s by rw [show (24 : Int32) = nI 24 from rfl, nI_leI (by omega) (by omega)]; omega), kbT isL34 ht, chk_tt, inb_n h24 (by omega), chk_tt, nI_clamp (by omega), hL.drum ht h24, x_mixed, bn_s, chk_tt, hL.tune ht h24, x_mixed, bn_s, chk_tt, hP.2.2.2.1 s h24, x_mixed, bn_s, show nI s + (1 : Int32) = nI (s + 1) from nI_add s 1, bnd_e]
    exact ih (s + 1) m _ (by omega) (by omega)
theorem x_mr49 (hS : SI F k) {t : Nat} (ht : t < k) (hL : LR M 34 F) : ∀ (c u m : Nat) (h : Int64), u + c = k → c < m → ∃ M', f_X6_mixedWithRows_49 m (nI t) h (tc 34 t) (nI u) M = some (fo3 (drumF F t) (tuneF F t) (plF F t).2.2.2.1 24 0 (fo (fun u => F (366 + 6 * t + u)) c u h), M') ∧ ag xP M M' := by
  have hk := hS.1
  intro c
  induction c with
  | zero =>
    intro u m h hu hm
    obtain ⟨m, rfl, -⟩ := suc hm
    obtain rfl : u = k := by omega
    obtain ⟨M1, e1, p1, a1⟩ := x_foresee hL hS (show t < 6 by omega)
    refine ⟨M1, ?_, a1⟩
    rw [f_X6_mixedWithRows_49, x_many hL hS, if_pos (Int32.le_refl _), e1, bn_s]
    exact x_mr95 (by omega) (hL.ag a1 (fun c i q _ => by unfold xP; omega)) p1 24 0 FU _ rfl (by decide)
  | succ c ih =>
    intro u m h hu hm
    obtain ⟨m, rfl, -⟩ := suc hm
    rw [f_X6_mixedWithRows_49, x_many hL hS, if_neg (by rw [nI_leI (by omega) (by omega)]; omega), inb_n (by omega) (by omega), chk_tt, rw_37 (by omega), bnd_e, inb_n (by omega) (by omega), chk_tt, nI_clamp (by omega), hL.debt (by omega) (by omega), x_mixed, bn_s, show nI u + (1 : Int32) = nI (u + 1) from nI_add u 1, bnd_e]
    exact ih (u + 1) m _ (by omega) (by omega)
theorem x_mr17 (hS : SI F k) {t : Nat} (ht : t < k) (hL : LR M 34 F) : ∀ (c u m : Nat) (h : Int64), u + c = 12 → c < m → ∃ M', f_X6_mixedWithRows_17 m (nI t) h (tc 34 t) (nI u) M = some (fo3 (drumF F t) (tuneF F t) (plF F t).2.2.2.1 24 0 (fo (fun u => F (366 + 6 * t + u)) k 0 (fo (wearF F t) c u h)), M') ∧ ag xP M M' := by
  have hk := hS.1
  intro c
  induction c with
  | zero =>
    intro u m h hu hm
    obtain ⟨m, rfl, -⟩ := suc hm
    obtain rfl : u = 12 := by omega
    obtain ⟨M1, e1, a1⟩ := x_mr49 hS ht hL k 0 FU h (Nat.zero_add k) (by show k < 100000; omega)
    refine ⟨M1, ?_, a1⟩
    rw [f_X6_mixedWithRows_17, if_pos (show (12 : Int32) ≤ nI 12 from Int32.le_refl _)]
    exact e1
  | succ c ih =>
    intro u m h hu hm
    obtain ⟨m, rfl, -⟩ := suc hm
    have h12 : u < 12 := by omega
    rw [f_X6_mixedWithRows_17, if_neg (show ¬ (12 : Int32) ≤ nI u by rw [show (12 : Int32) = nI 12 from rfl, nI_leI (by omega) (by omega)]; omega), kbT isL34 (by omega), chk_tt, inb_n h12 (by omega), chk_tt, nI_clamp (by omega), hL.wear (by omega) h12, x_mixed, bn_s, show nI u + (1 : Int32) = nI (u + 1) from nI_add u 1, bnd_e]
    exact ih (u + 1) m _ (by omega) (by omega)
theorem x_mtr28 (hk : k ≤ 6) (hT : trO M F k) : ∀ (c i m : Nat) (h : Int64), i + c = 6 → c < m → f_X6_mixedWithTrades_28 m h (nI i) M = some (fo (fun i => tdV F k (10 + i)) c i h, M) := by
  intro c
  induction c with
  | zero =>
    intro i m h hi hm
    obtain ⟨m, rfl, -⟩ := suc hm
    obtain rfl : i = 6 := by omega
    rw [f_X6_mixedWithTrades_28, if_pos (show (6 : Int32) ≤ nI 6 from Int32.le_refl _)]
    rfl
  | succ c ih =>
    intro i m h hi hm
    obtain ⟨m, rfl, -⟩ := suc hm
    rw [f_X6_mixedWithTrades_28, if_neg (show ¬ (6 : Int32) ≤ nI i by rw [show (6 : Int32) = nI 6 from rfl, nI_leI (by omega) (by omega)]; omega), show (10 : Int32) + nI i = nI (10 + i) from nI_add 10 i, x_trtell hk hT (Or.inr (by omega)), bn_s, x_mixed, bn_s, show nI i + (1 : Int32) = nI (i + 1) from nI_add i 1, bnd_e]
    exact ih (i + 1) m _ (by omega) (by omega)
theorem x_mtr (hS : SI F k) (hL : LR M 34 F) (h : Int64) : ∃ M', f_X6_mixedWithTrades h M = some (dgB F k h, M') ∧ ag aT M M' := by
  obtain ⟨M1, e1, a1, r1⟩ := x_trades hS hL
  refine ⟨M1, ?_, a1⟩
  unfold f_X6_mixedWithTrades
  rw [e1, bn_s, show f_X4_tell 0 M1 = some (tdV F k 0, M1) from x_trtell hS.1 r1 (Or.inl rfl), bn_s, x_mixed, bn_s]
  exact x_mtr28 hS.1 r1 6 0 FU _ rfl (by decide)
theorem x_mri42 (hk : k ≤ 6) (hR : Rg M F (rngF F k)) : ∀ (c i m : Nat) (h : Int64), i + c = 6 → c < m → f_X6_mixedWithRing_42 m h (nI i) M = some (fo (fun i => rgV F (rngF F k) (10 + i)) c i h, M) := by
  intro c
  induction c with
  | zero =>
    intro i m h hi hm
    obtain ⟨m, rfl, -⟩ := suc hm
    obtain rfl : i = 6 := by omega
    rw [f_X6_mixedWithRing_42, if_pos (show (6 : Int32) ≤ nI 6 from Int32.le_refl _)]
    rfl
  | succ c ih =>
    intro i m h hi hm
    obtain ⟨m, rfl, -⟩ := suc hm
    rw [f_X6_mixedWithRing_42, if_neg (show ¬ (6 : Int32) ≤ nI i by rw [show (6 : Int32) = nI 6 from rfl, nI_leI (by omega) (by omega)]; omega), show (10 : Int32) + nI i = nI (10 + i) from nI_add 10 i, x_rgtell hk hR (Or.inr (by omega)), bn_s, x_mixed, bn_s, show nI i + (1 : Int32) = nI (i + 1) from nI_add i 1, bnd_e]
    exact ih (i + 1) m _ (by omega) (by omega)
theorem x_mri (hS : SI F k) (hL : LR M 34 F) (h : Int64) : ∃ M', f_X6_mixedWithRing h M = some (dgC F k h, M') ∧ ag aF M M' := by
  obtain ⟨M1, e1, a1, r1⟩ := x_find hS hL
  refine ⟨M1, ?_, a1⟩
  unfold f_X6_mixedWithRing
  rw [e1, bn_s, show f_X2_tell 0 M1 = some (rgV F (rngF F k) 0, M1) from x_rgtell (w := 0) hS.1 r1 (Or.inl (by omega)), bn_s, x_mixed, bn_s, show f_X2_tell 1 M1 = some (rgV F (rngF F k) 1, M1) from x_rgtell (w := 1) hS.1 r1 (Or.inl (by omega)), bn_s, x_mixed, bn_s]
  exact x_mri42 hS.1 r1 6 0 FU _ rfl (by decide)
theorem x_dg129 (hl : l ≤ 60) (h1 : M.1 2 1 = nI l) (h2 : ∀ i, i < l → M.1 3 i = B i) : ∀ (c i m : Nat) (h : Int64), i + c = l → c < m → f_X6_digest_129 m h (nI i) M = some (.inl (fo B c i h), M) := by
  intro c
  induction c with
  | zero =>
    intro i m h hi hm
    obtain ⟨m, rfl, -⟩ := suc hm
    obtain rfl : i = l := by omega
    rw [f_X6_digest_129, h1, if_pos (Int32.le_refl _)]
    rfl
  | succ c ih =>
    intro i m h hi hm
    obtain ⟨m, rfl, -⟩ := suc hm
    rw [f_X6_digest_129, h1, if_neg (by rw [nI_leI (by omega) (by omega)]; omega), if_neg (show ¬ (60 : Int32) ≤ nI i by rw [show (60 : Int32) = nI 60 from rfl, nI_leI (by omega) (by omega)]; omega), inb_n (by omega) (by omega), chk_tt, nI_clamp (by omega), h2 i (by omega), x_mixed, bn_s, show nI i + (1 : Int32) = nI (i + 1) from nI_add i 1, bnd_e]
    exact ih (i + 1) m _ (by omega) (by omega)
theorem x_dg59 (hS : SI F k) (hl : l ≤ 60) : ∀ (c t m : Nat) (h : Int64) (M : Mem), t + c = k → c < m → JX M F n Sv l B → ∃ M', f_X6_digest_59 m h (nI t) M = some (.inl (fo B l 0 (mx ((31 : Int64) * (dgC F k (dgB F k (tnL F k c t h))) + (shF F k).toInt64) (nI l))), M') ∧ ag xQ M M' := by
  have hk := hS.1
  intro c
  induction c with
  | zero =>
    intro t m h M ht hm hX
    obtain ⟨m, rfl, -⟩ := suc hm
    obtain rfl : t = k := by omega
    have hL := hX.1.1
    obtain ⟨M1, e1, a1⟩ := x_mtr hS hL h
    have x1 := hX.q (aT_Q a1)
    obtain ⟨M2, e2, a2⟩ := x_mri hS x1.1.1 (dgB F t h)
    have x2 := x1.q (aF_Q a2)
    refine ⟨M2, ?_, (aT_Q a1).tr (aF_Q a2)⟩
    rw [f_X6_digest_59, x_many hL hS, if_pos (Int32.le_refl _), e1, bn_s, e2, bn_s, x_share x2.1.1 hS, bn_s, x_bitsOf (shF_is hS).1, bn_s]
    unfold f_X6_mixed
    rw [bn_s, bn_s, x2.2.1]
    exact x_dg129 hl x2.2.1 x2.2.2 l 0 FU _ (Nat.zero_add l) (by show l < 100000; omega)
  | succ c ih =>
    intro t m h M ht hm hX
    obtain ⟨m, rfl, -⟩ := suc hm
    have hL := hX.1.1
    obtain ⟨M1, e1, a1⟩ := x_mt6 hS (show t < k by omega) hL 12 0 FU h rfl (by decide)
    have x1 := hX.q a1.xP
    obtain ⟨M2, e2, a2⟩ := x_mr17 hS (show t < k by omega) x1.1.1 12 0 FU (tnA F k t h) rfl (by decide)
    have x2 := x1.q a2.xP
    obtain ⟨M3, e3, a3⟩ := ih (t + 1) m (tnB F k t (tnA F k t h)) M2 (by omega) (by omega) x2
    refine ⟨M3, ?_, (a1.xP.tr a2.xP).tr a3⟩
    have e1' : f_X6_mixedWithTown h (nI t) M = some (.inl (tnA F k t h), M1) := e1
    have e2' : f_X6_mixedWithRows (tnA F k t h) (nI t) M1 = some (tnB F k t (tnA F k t h), M2) := by
      unfold f_X6_mixedWithRows
      rw [inb_n (by omega) (by omega), chk_tt, tw_35 (by omega), bnd_e]
      exact e2
    rw [f_X6_digest_59, x_many hL hS, if_neg (by rw [nI_leI (by omega) (by omega)]; omega), e1', bt_s, e2', bn_s, show nI t + (1 : Int32) = nI (t + 1) from nI_add t 1, bnd_e]
    exact e3
theorem x_dg31 (hS : SI F k) (hl : l ≤ 60) (hX : JX M F n Sv l B) : ∀ (c i m : Nat) (h : Int64), i + c = 3 → c < m → ∃ M', f_X6_digest_31 m h (nI i) M = some (.inl (fo B l 0 (mx ((31 : Int64) * (dgC F k (dgB F k (tnL F k k 0 (fo (fun i => F (420 + i)) c i h)))) + (shF F k).toInt64) (nI l))), M') ∧ ag xQ M M' := by
  have hk := hS.1
  intro c
  induction c with
  | zero =>
    intro i m h hi hm
    obtain ⟨m, rfl, -⟩ := suc hm
    obtain rfl : i = 3 := by omega
    rw [f_X6_digest_31, if_pos (show (3 : Int32) ≤ nI 3 from Int32.le_refl _)]
    exact x_dg59 hS hl k 0 FU h M (Nat.zero_add k) (by show k < 100000; omega) hX
  | succ c ih =>
    intro i m h hi hm
    obtain ⟨m, rfl, -⟩ := suc hm
    have e : M.1 36 i = F (420 + i) := hX.1.1.rd (420 + i) (by omega) (lc_set (by omega)).1 (lc_set (by omega)).2
    rw [f_X6_digest_31, if_neg (show ¬ (3 : Int32) ≤ nI i by rw [show (3 : Int32) = nI 3 from rfl, nI_leI (by omega) (by omega)]; omega), inb_n (by omega) (by omega), chk_tt, nI_clamp (by omega), e, x_mixed, bn_s, show nI i + (1 : Int32) = nI (i + 1) from nI_add i 1, bnd_e]
    exact ih (i + 1) m _ (by omega) (by omega)
theorem x_dg6 (hS : SI F k) (hl : l ≤ 60) (hX : JX M F n Sv l B) : ∀ (c i m : Nat) (h : Int64), i + c = 11 → c < m → ∃ M', f_X6_digest_6 m h (nI i) M = some (.inl (fo B l 0 (mx ((31 : Int64) * (dgC F k (dgB F k (tnL F k k 0 (fo (fun i => F (420 + i)) 3 0 (fo (countF F k n) c i h))))) + (shF F k).toInt64) (nI l))), M') ∧ ag xQ M M' := by
  intro c
  induction c with
  | zero =>
    intro i m h hi hm
    obtain ⟨m, rfl, -⟩ := suc hm
    obtain rfl : i = 11 := by omega
    rw [f_X6_digest_6, if_pos (show (11 : Int32) ≤ nI 11 from Int32.le_refl _)]
    exact x_dg31 hS hl hX 3 0 FU h rfl (by decide)
  | succ c ih =>
    intro i m h hi hm
    obtain ⟨m, rfl, -⟩ := suc hm
    have hn : M.1 0 2 = nI n := by obtain ⟨_, p, hp, _⟩ := hX.1; exact hp.2.1
    rw [f_X6_digest_6, if_neg (show ¬ (11 : Int32) ≤ nI i by rw [show (11 : Int32) = nI 11 from rfl, nI_leI (by omega) (by omega)]; omega), x_countQ hX.1.1 hS hn (by omega), bt_s, x_mixed, bn_s, show nI i + (1 : Int32) = nI (i + 1) from nI_add i 1, bnd_e]
    exact ih (i + 1) m _ (by omega) (by omega)
theorem x_digest (hS : SI F k) (hl : l ≤ 60) (hX : JX M F n Sv l B) : ∃ M', f_X6_digest M = some (.inl (dgH F k n l B), M') ∧ ag xQ M M' := x_dg6 hS hl hX 11 0 FU (2357 : Int64) rfl (by decide)
end DX
