/-! ===== the class alone: what changes the state ===== -/
/-- the call throws one of es and the state is as it was; or it answers v, the land is F' then, and the one from before is saved -/
def Yo (es : List String) (cl : Mem → Option ((Int32 ⊕ String) × Mem)) (M : Mem) (F : Nat → Int32) (k n : Nat) (Sv : Nat → Nat → Int32) (l : Nat) (B : Nat → Int32) (R : Int32 → (Nat → Int32) → Prop) : Prop :=
  (∃ E, E ∈ es ∧ cl M = some (.inr E, M)) ∨ ∃ v F' M1, cl M = some (.inl v, M1) ∧ JX M1 F' (nx n) (pushS F n Sv) l B ∧ SI F' k ∧ R v F'
def putF (F : Nat → Int32) (t s q : Nat) : Nat → Int32 := va_up (va_up F t (F t - nI 1)) (6 + 24 * t + s) (F (6 + 24 * t + s) ||| bit q)
def pullF (F : Nat → Int32) (t s q : Nat) : Nat → Int32 := va_up (va_up F (6 + 24 * t + s) (F (6 + 24 * t + s) &&& nbit q)) t (F t + nI 1)
def moveF (F : Nat → Int32) (t u s q : Nat) : Nat → Int32 := va_up (va_up F (6 + 24 * t + s) (F (6 + 24 * t + s) &&& nbit q)) (6 + 24 * u + s) (F (6 + 24 * u + s) ||| bit q)
def lendF (F : Nat → Int32) (t u : Nat) (c : Int32) : Nat → Int32 := va_up (va_up (carF F t u c) (366 + 6 * u + t) (F (366 + 6 * u + t) + c)) 424 (F 424 + c)
def repF (F : Nat → Int32) (t u : Nat) (c : Int32) : Nat → Int32 := va_up (va_up (carF F t u c) (366 + 6 * t + u) (F (366 + 6 * t + u) - c)) 425 (F 425 + c)
def fileF (F : Nat → Int32) (t w : Nat) : Nat → Int32 := va_up F (294 + 12 * t + w) (nI 0)
def addF (F : Nat → Int32) (k : Nat) (v : Int32) : Nat → Int32 := va_up (va_up F k v) 423 (nI (k + 1))
section YY
variable {M : Mem} {F : Nat → Int32} {k n l : Nat} {Sv : Nat → Nat → Int32} {B : Nat → Int32}
theorem y_put (hX : JX M F n Sv l B) (hS : SI F k) (a b c : Int32) : Yo [exI, exS] (f_X6_put a b c) M F k n Sv l B (fun v F' => ∃ t s q, t < k ∧ s < 24 ∧ q < 12 ∧ bitK (F (6 + 24 * t + s)) q = nI 0 ∧ ¬ F t = nI 0 ∧ F' = putF F t s q ∧ v = pinsF F' 6 t) := by
  have hk := hS.1
  have hF := hX.1.1
  rcases pl_cs a b c hk with hb | ⟨t, s, q, ht, hs, hq, rfl, rfl, rfl⟩
  · refine Or.inl ⟨exI, List.mem_cons_self, ?_⟩
    unfold f_X6_put
    rw [x_cp0 hF hS hb, bt_x]
  · have h6 : t < 6 := by omega
    have hm := hS.2.2.1 (6 + 24 * t + s) (by omega) (by omega)
    by_cases z : bitK (F (6 + 24 * t + s)) q = nI 0 ∧ ¬ F t = nI 0
    · obtain ⟨M1, e1, x1, a1⟩ := hX.save
      have x2 := (x1.w (F t - nI 1) t (by omega) (lc_box h6).1 (lc_box h6).2).w (F (6 + 24 * t + s) ||| bit q) (6 + 24 * t + s) (by omega) (lc_drum h6 hs).1 (lc_drum h6 hs).2
      have s2 : SI (putF F t s q) k := (hS.up (by omega) (by omega) (by omega) (by omega)).up (fun _ _ => msk_or hm hq) (by omega) (by omega) (by omega)
      refine Or.inr ⟨pinsF (putF F t s q) 6 t, putF F t s q, _, ?_, x2, s2, t, s, q, ht, hs, hq, z.1, z.2, rfl, rfl⟩
      unfold f_X6_put
      rw [x_cp1 hF hS ht hs hq, bt_s]
      simp (disch := omega) only [bnd_e, chk_tt, bn_s, bt_s, bt_x, inb_n, nI_clamp, le_t, le_f, lt_t, lt_f, eq_f, nI_add, pk_mul, ne_eq, not_true_eq_false, not_false_eq_true, ↓reduceIte, L0_, L1_, L2_, L3_, L4_, L5_, L6_, L7_, L8_, L9_, L10_, L11_, L12_, L13_, L14_, L15_, L16_, L20_, L22_, L23_, L24_, L25_, L30_, L31_, L32_, L33_, L36_, L40_, L41_, L45_, L48_, L60_, L63_, L64_, L97_, L100_, L107_, L108_, L126_, L150_, L200_, L294_, L366_, L402_, L408_, L414_, L420_, L421_, L422_, L423_, L424_, L425_, L426_, L427_, L428_, L999_, L2568_, L2996_, tw_35, x_hasPin hF hS, z.1]
      rw [hF.box h6]
      simp (disch := omega) only [bnd_e, chk_tt, bn_s, bt_s, bt_x, inb_n, nI_clamp, le_t, le_f, lt_t, lt_f, eq_f, nI_add, pk_mul, ne_eq, not_true_eq_false, not_false_eq_true, ↓reduceIte, L0_, L1_, L2_, L3_, L4_, L5_, L6_, L7_, L8_, L9_, L10_, L11_, L12_, L13_, L14_, L15_, L16_, L20_, L22_, L23_, L24_, L25_, L30_, L31_, L32_, L33_, L36_, L40_, L41_, L45_, L48_, L60_, L63_, L64_, L97_, L100_, L107_, L108_, L126_, L150_, L200_, L294_, L366_, L402_, L408_, L414_, L420_, L421_, L422_, L423_, L424_, L425_, L426_, L427_, L428_, L999_, L2568_, L2996_, z.2, e1, bit_e]
      rw [x1.1.1.box h6, mwn (by omega), x1.1.1.drum h6 hs, x_drum x2.1.1 isL34 s2 h6]
      simp (disch := omega) only [bnd_e, chk_tt, bn_s, bt_s, bt_x, inb_n, nI_clamp, le_t, le_f, lt_t, lt_f, eq_f, nI_add, pk_mul, ne_eq, not_true_eq_false, not_false_eq_true, ↓reduceIte, L0_, L1_, L2_, L3_, L4_, L5_, L6_, L7_, L8_, L9_, L10_, L11_, L12_, L13_, L14_, L15_, L16_, L20_, L22_, L23_, L24_, L25_, L30_, L31_, L32_, L33_, L36_, L40_, L41_, L45_, L48_, L60_, L63_, L64_, L97_, L100_, L107_, L108_, L126_, L150_, L200_, L294_, L366_, L402_, L408_, L414_, L420_, L421_, L422_, L423_, L424_, L425_, L426_, L427_, L428_, L999_, L2568_, L2996_]
      rfl
    · refine Or.inl ⟨exS, by simp, ?_⟩
      unfold f_X6_put
      rw [x_cp1 hF hS ht hs hq, bt_s]
      simp (disch := omega) only [bnd_e, chk_tt, bn_s, bt_s, bt_x, inb_n, nI_clamp, le_t, le_f, lt_t, lt_f, eq_f, nI_add, pk_mul, ne_eq, not_true_eq_false, not_false_eq_true, ↓reduceIte, L0_, L1_, L2_, L3_, L4_, L5_, L6_, L7_, L8_, L9_, L10_, L11_, L12_, L13_, L14_, L15_, L16_, L20_, L22_, L23_, L24_, L25_, L30_, L31_, L32_, L33_, L36_, L40_, L41_, L45_, L48_, L60_, L63_, L64_, L97_, L100_, L107_, L108_, L126_, L150_, L200_, L294_, L366_, L402_, L408_, L414_, L420_, L421_, L422_, L423_, L424_, L425_, L426_, L427_, L428_, L999_, L2568_, L2996_, tw_35, x_hasPin hF hS]
      by_cases w : bitK (F (6 + 24 * t + s)) q = nI 0
      · have w' : F t = nI 0 := Classical.not_not.mp (fun e => z ⟨w, e⟩)
        simp (disch := omega) only [bnd_e, chk_tt, bn_s, bt_s, bt_x, inb_n, nI_clamp, le_t, le_f, lt_t, lt_f, eq_f, nI_add, pk_mul, ne_eq, not_true_eq_false, not_false_eq_true, ↓reduceIte, L0_, L1_, L2_, L3_, L4_, L5_, L6_, L7_, L8_, L9_, L10_, L11_, L12_, L13_, L14_, L15_, L16_, L20_, L22_, L23_, L24_, L25_, L30_, L31_, L32_, L33_, L36_, L40_, L41_, L45_, L48_, L60_, L63_, L64_, L97_, L100_, L107_, L108_, L126_, L150_, L200_, L294_, L366_, L402_, L408_, L414_, L420_, L421_, L422_, L423_, L424_, L425_, L426_, L427_, L428_, L999_, L2568_, L2996_, w, Nat.zero_add]
        rw [hF.box h6, w']
        rfl
      · simp (disch := omega) only [bnd_e, chk_tt, bn_s, bt_s, bt_x, inb_n, nI_clamp, le_t, le_f, lt_t, lt_f, eq_f, nI_add, pk_mul, ne_eq, not_true_eq_false, not_false_eq_true, ↓reduceIte, L0_, L1_, L2_, L3_, L4_, L5_, L6_, L7_, L8_, L9_, L10_, L11_, L12_, L13_, L14_, L15_, L16_, L20_, L22_, L23_, L24_, L25_, L30_, L31_, L32_, L33_, L36_, L40_, L41_, L45_, L48_, L60_, L63_, L64_, L97_, L100_, L107_, L108_, L126_, L150_, L200_, L294_, L366_, L402_, L408_, L414_, L420_, L421_, L422_, L423_, L424_, L425_, L426_, L427_, L428_, L999_, L2568_, L2996_, w, Nat.zero_add]
theorem y_pull (hX : JX M F n Sv l B) (hS : SI F k) (a b c : Int32) : Yo [exI, exS] (f_X6_pull a b c) M F k n Sv l B (fun v F' => ∃ t s q, t < k ∧ s < 24 ∧ q < 12 ∧ ¬ bitK (F (6 + 24 * t + s)) q = nI 0 ∧ F t < F 422 ∧ F' = pullF F t s q ∧ v = F t + nI 1) := by
  have hk := hS.1
  have hF := hX.1.1
  rcases pl_cs a b c hk with hb | ⟨t, s, q, ht, hs, hq, rfl, rfl, rfl⟩
  · refine Or.inl ⟨exI, List.mem_cons_self, ?_⟩
    unfold f_X6_pull
    rw [x_cp0 hF hS hb, bt_x]
  · have h6 : t < 6 := by omega
    have hm := hS.2.2.1 (6 + 24 * t + s) (by omega) (by omega)
    by_cases z : ¬ bitK (F (6 + 24 * t + s)) q = nI 0 ∧ F t < F 422
    · have s2 : SI (pullF F t s q) k := (hS.up (fun _ _ => msk_and hm) (by omega) (by omega) (by omega)).up (by omega) (by omega) (by omega) (by omega)
      obtain ⟨M1, e1, x1, a1⟩ := hX.save
      have x2 := (x1.w (F (6 + 24 * t + s) &&& nbit q) (6 + 24 * t + s) (by omega) (lc_drum h6 hs).1 (lc_drum h6 hs).2).w (F t + nI 1) t (by omega) (lc_box h6).1 (lc_box h6).2
      refine Or.inr ⟨F t + nI 1, pullF F t s q, _, ?_, x2, s2, t, s, q, ht, hs, hq, z.1, z.2, rfl, rfl⟩
      unfold f_X6_pull
      rw [x_cp1 hF hS ht hs hq, bt_s]
      simp (disch := omega) only [bnd_e, chk_tt, bn_s, bt_s, bt_x, inb_n, nI_clamp, le_t, le_f, lt_t, lt_f, eq_f, nI_add, pk_mul, ne_eq, not_true_eq_false, not_false_eq_true, ↓reduceIte, L0_, L1_, L2_, L3_, L4_, L5_, L6_, L7_, L8_, L9_, L10_, L11_, L12_, L13_, L14_, L15_, L16_, L20_, L22_, L23_, L24_, L25_, L30_, L31_, L32_, L33_, L36_, L40_, L41_, L45_, L48_, L60_, L63_, L64_, L97_, L100_, L107_, L108_, L126_, L150_, L200_, L294_, L366_, L402_, L408_, L414_, L420_, L421_, L422_, L423_, L424_, L425_, L426_, L427_, L428_, L999_, L2568_, L2996_, tw_35, x_hasPin hF hS, z.1]
      rw [hF.box h6, show M.1 36 2 = F 422 from hF.set2]
      simp (disch := omega) only [bnd_e, chk_tt, bn_s, bt_s, bt_x, inb_n, nI_clamp, le_t, le_f, lt_t, lt_f, eq_f, nI_add, pk_mul, ne_eq, not_true_eq_false, not_false_eq_true, ↓reduceIte, L0_, L1_, L2_, L3_, L4_, L5_, L6_, L7_, L8_, L9_, L10_, L11_, L12_, L13_, L14_, L15_, L16_, L20_, L22_, L23_, L24_, L25_, L30_, L31_, L32_, L33_, L36_, L40_, L41_, L45_, L48_, L60_, L63_, L64_, L97_, L100_, L107_, L108_, L126_, L150_, L200_, L294_, L366_, L402_, L408_, L414_, L420_, L421_, L422_, L423_, L424_, L425_, L426_, L427_, L428_, L999_, L2568_, L2996_, z.2, e1, bit_e, nbit_e]
      rw [x1.1.1.drum h6 hs]
      simp (disch := omega) only [bnd_e, chk_tt, bn_s, bt_s, bt_x, inb_n, nI_clamp, le_t, le_f, lt_t, lt_f, eq_f, nI_add, pk_mul, ne_eq, not_true_eq_false, not_false_eq_true, ↓reduceIte, L0_, L1_, L2_, L3_, L4_, L5_, L6_, L7_, L8_, L9_, L10_, L11_, L12_, L13_, L14_, L15_, L16_, L20_, L22_, L23_, L24_, L25_, L30_, L31_, L32_, L33_, L36_, L40_, L41_, L45_, L48_, L60_, L63_, L64_, L97_, L100_, L107_, L108_, L126_, L150_, L200_, L294_, L366_, L402_, L408_, L414_, L420_, L421_, L422_, L423_, L424_, L425_, L426_, L427_, L428_, L999_, L2568_, L2996_, mwn, mw_eq]
      rw [x1.1.1.box h6]
    · refine Or.inl ⟨exS, by simp, ?_⟩
      unfold f_X6_pull
      rw [x_cp1 hF hS ht hs hq, bt_s]
      simp (disch := omega) only [bnd_e, chk_tt, bn_s, bt_s, bt_x, inb_n, nI_clamp, le_t, le_f, lt_t, lt_f, eq_f, nI_add, pk_mul, ne_eq, not_true_eq_false, not_false_eq_true, ↓reduceIte, L0_, L1_, L2_, L3_, L4_, L5_, L6_, L7_, L8_, L9_, L10_, L11_, L12_, L13_, L14_, L15_, L16_, L20_, L22_, L23_, L24_, L25_, L30_, L31_, L32_, L33_, L36_, L40_, L41_, L45_, L48_, L60_, L63_, L64_, L97_, L100_, L107_, L108_, L126_, L150_, L200_, L294_, L366_, L402_, L408_, L414_, L420_, L421_, L422_, L423_, L424_, L425_, L426_, L427_, L428_, L999_, L2568_, L2996_, tw_35, x_hasPin hF hS]
      by_cases w : bitK (F (6 + 24 * t + s)) q = nI 0
      · simp (disch := omega) only [bnd_e, chk_tt, bn_s, bt_s, bt_x, inb_n, nI_clamp, le_t, le_f, lt_t, lt_f, eq_f, nI_add, pk_mul, ne_eq, not_true_eq_false, not_false_eq_true, ↓reduceIte, L0_, L1_, L2_, L3_, L4_, L5_, L6_, L7_, L8_, L9_, L10_, L11_, L12_, L13_, L14_, L15_, L16_, L20_, L22_, L23_, L24_, L25_, L30_, L31_, L32_, L33_, L36_, L40_, L41_, L45_, L48_, L60_, L63_, L64_, L97_, L100_, L107_, L108_, L126_, L150_, L200_, L294_, L366_, L402_, L408_, L414_, L420_, L421_, L422_, L423_, L424_, L425_, L426_, L427_, L428_, L999_, L2568_, L2996_, w]
      · have w' : ¬ F t < F 422 := fun e => z ⟨w, e⟩
        simp (disch := omega) only [bnd_e, chk_tt, bn_s, bt_s, bt_x, inb_n, nI_clamp, le_t, le_f, lt_t, lt_f, eq_f, nI_add, pk_mul, ne_eq, not_true_eq_false, not_false_eq_true, ↓reduceIte, L0_, L1_, L2_, L3_, L4_, L5_, L6_, L7_, L8_, L9_, L10_, L11_, L12_, L13_, L14_, L15_, L16_, L20_, L22_, L23_, L24_, L25_, L30_, L31_, L32_, L33_, L36_, L40_, L41_, L45_, L48_, L60_, L63_, L64_, L97_, L100_, L107_, L108_, L126_, L150_, L200_, L294_, L366_, L402_, L408_, L414_, L420_, L421_, L422_, L423_, L424_, L425_, L426_, L427_, L428_, L999_, L2568_, L2996_, w]
        rw [hF.box h6, show M.1 36 2 = F 422 from hF.set2, if_neg w']
theorem y_file (hX : JX M F n Sv l B) (hS : SI F k) (a b : Int32) : Yo [exI] (f_X6_file a b) M F k n Sv l B (fun v F' => ∃ t w, t < k ∧ w < 12 ∧ F' = fileF F t w ∧ v = F (294 + 12 * t + w)) := by
  have hk := hS.1
  have hF := hX.1.1
  rcases inb_cs a (show k < 2 ^ 31 by omega) with ha | ⟨t, ht, rfl⟩
  · refine Or.inl ⟨exI, List.mem_cons_self, ?_⟩
    unfold f_X6_file
    rw [x_ct0 hF hS ha, bt_x]
  · have h6 : t < 6 := by omega
    rcases inb_cs b (show 12 < 2 ^ 31 by omega) with hb | ⟨w, hw, rfl⟩
    · refine Or.inl ⟨exI, List.mem_cons_self, ?_⟩
      unfold f_X6_file
      rw [x_ct1 hF hS ht, bt_s, x_co0 hb, bt_x]
    · have s2 : SI (fileF F t w) k := hS.up (by omega) (by omega) (by omega) (by omega)
      obtain ⟨M1, e1, x1, a1⟩ := hX.save
      have x2 := x1.w (nI 0) (294 + 12 * t + w) (by omega) (lc_wear h6 hw).1 (lc_wear h6 hw).2
      refine Or.inr ⟨F (294 + 12 * t + w), fileF F t w, _, ?_, x2, s2, t, w, ht, hw, rfl, rfl⟩
      unfold f_X6_file
      rw [x_ct1 hF hS ht, bt_s, x_co1 hw, bt_s]
      simp (disch := omega) only [bnd_e, chk_tt, bn_s, bt_s, bt_x, inb_n, nI_clamp, le_t, le_f, lt_t, lt_f, eq_f, nI_add, pk_mul, ne_eq, not_true_eq_false, not_false_eq_true, ↓reduceIte, L0_, L1_, L2_, L3_, L4_, L5_, L6_, L7_, L8_, L9_, L10_, L11_, L12_, L13_, L14_, L15_, L16_, L20_, L22_, L23_, L24_, L25_, L30_, L31_, L32_, L33_, L36_, L40_, L41_, L45_, L48_, L60_, L63_, L64_, L97_, L100_, L107_, L108_, L126_, L150_, L200_, L294_, L366_, L402_, L408_, L414_, L420_, L421_, L422_, L423_, L424_, L425_, L426_, L427_, L428_, L999_, L2568_, L2996_, tw_35, e1]
      rw [x1.1.1.wear h6 hw]
theorem y_file0 (hX : JX M F n Sv l B) (hS : SI F k) {t : Nat} (ht : t < k) : f_X6_file (nI t) (nI 12) M = some (.inr exI, M) := by
  unfold f_X6_file
  rw [x_ct1 hX.1.1 hS ht, bt_s, x_co0 (by decide), bt_x]
theorem y_addA (a : Int32) (h : inb a 201 = false) : f_X6_addTown a M = some (.inr exA, M) := by
  unfold f_X6_addTown
  by_cases q : a < 0
  · rw [if_pos q]; rfl
  · rw [if_neg q, if_neg]
    · rfl
    · intro z
      rcases inb_f (show 201 < 2 ^ 31 by omega) h with w | w
      · exact q w
      · have := Int32.le_trans w z
        exact absurd this (by rw [show ((200 : Int32)) = nI 200 from rfl, nI_leI (by omega) (by omega)]; omega)
theorem y_add1 (hX : JX M F n Sv l B) (hS : SI F k) {t : Nat} (ht : t ≤ 200) (hk6 : k < 6) (h : nI t ≤ F 422) : ∃ M1, f_X6_addTown (nI t) M = some (.inl (nI k), M1) ∧ JX M1 (addF F k (nI t)) (nx n) (pushS F n Sv) l B ∧ SI (addF F k (nI t)) (k + 1) := by
  have hF := hX.1.1
  have hm := x_many hF hS
  obtain ⟨M1, e1, x1, a1⟩ := hX.save
  have x2 := (x1.w (nI t) k (by omega) (lc_box hk6).1 (lc_box hk6).2).w (c := 34) (s := 1) (nI (k + 1)) 423 (by omega) rfl rfl
  refine ⟨_, ?_, x2, hS.add hk6 (nI t)⟩
  unfold f_X6_addTown
  simp (disch := omega) only [bnd_e, chk_tt, bn_s, bt_s, bt_x, inb_n, nI_clamp, le_t, le_f, lt_t, lt_f, eq_f, nI_add, pk_mul, ne_eq, not_true_eq_false, not_false_eq_true, ↓reduceIte, L0_, L1_, L2_, L3_, L4_, L5_, L6_, L7_, L8_, L9_, L10_, L11_, L12_, L13_, L14_, L15_, L16_, L20_, L22_, L23_, L24_, L25_, L30_, L31_, L32_, L33_, L36_, L40_, L41_, L45_, L48_, L60_, L63_, L64_, L97_, L100_, L107_, L108_, L126_, L150_, L200_, L294_, L366_, L402_, L408_, L414_, L420_, L421_, L422_, L423_, L424_, L425_, L426_, L427_, L428_, L999_, L2568_, L2996_]
  rw [hm, show M.1 36 2 = F 422 from hF.set2]
  simp (disch := omega) only [bnd_e, chk_tt, bn_s, bt_s, bt_x, inb_n, nI_clamp, le_t, le_f, lt_t, lt_f, eq_f, nI_add, pk_mul, ne_eq, not_true_eq_false, not_false_eq_true, ↓reduceIte, L0_, L1_, L2_, L3_, L4_, L5_, L6_, L7_, L8_, L9_, L10_, L11_, L12_, L13_, L14_, L15_, L16_, L20_, L22_, L23_, L24_, L25_, L30_, L31_, L32_, L33_, L36_, L40_, L41_, L45_, L48_, L60_, L63_, L64_, L97_, L100_, L107_, L108_, L126_, L150_, L200_, L294_, L366_, L402_, L408_, L414_, L420_, L421_, L422_, L423_, L424_, L425_, L426_, L427_, L428_, L999_, L2568_, L2996_, h, e1]
  rw [show M1.1 34 1 = nI k from x1.1.1.many.trans hS.2.1]
  simp (disch := omega) only [bnd_e, chk_tt, bn_s, bt_s, bt_x, inb_n, nI_clamp, le_t, le_f, lt_t, lt_f, eq_f, nI_add, pk_mul, ne_eq, not_true_eq_false, not_false_eq_true, ↓reduceIte, L0_, L1_, L2_, L3_, L4_, L5_, L6_, L7_, L8_, L9_, L10_, L11_, L12_, L13_, L14_, L15_, L16_, L20_, L22_, L23_, L24_, L25_, L30_, L31_, L32_, L33_, L36_, L40_, L41_, L45_, L48_, L60_, L63_, L64_, L97_, L100_, L107_, L108_, L126_, L150_, L200_, L294_, L366_, L402_, L408_, L414_, L420_, L421_, L422_, L423_, L424_, L425_, L426_, L427_, L428_, L999_, L2568_, L2996_, tw_35]
theorem y_add0 (hX : JX M F n Sv l B) (hS : SI F k) {t : Nat} (ht : t ≤ 200) (h : ¬ (k < 6 ∧ nI t ≤ F 422)) : f_X6_addTown (nI t) M = some (.inr exS, M) := by
  have hF := hX.1.1
  have hk := hS.1
  have hm := x_many hF hS
  unfold f_X6_addTown
  simp (disch := omega) only [bnd_e, chk_tt, bn_s, bt_s, bt_x, inb_n, nI_clamp, le_t, le_f, lt_t, lt_f, eq_f, nI_add, pk_mul, ne_eq, not_true_eq_false, not_false_eq_true, ↓reduceIte, L0_, L1_, L2_, L3_, L4_, L5_, L6_, L7_, L8_, L9_, L10_, L11_, L12_, L13_, L14_, L15_, L16_, L20_, L22_, L23_, L24_, L25_, L30_, L31_, L32_, L33_, L36_, L40_, L41_, L45_, L48_, L60_, L63_, L64_, L97_, L100_, L107_, L108_, L126_, L150_, L200_, L294_, L366_, L402_, L408_, L414_, L420_, L421_, L422_, L423_, L424_, L425_, L426_, L427_, L428_, L999_, L2568_, L2996_]
  rw [hm]
  by_cases w : k < 6
  · simp (disch := omega) only [bnd_e, chk_tt, bn_s, bt_s, bt_x, inb_n, nI_clamp, le_t, le_f, lt_t, lt_f, eq_f, nI_add, pk_mul, ne_eq, not_true_eq_false, not_false_eq_true, ↓reduceIte, L0_, L1_, L2_, L3_, L4_, L5_, L6_, L7_, L8_, L9_, L10_, L11_, L12_, L13_, L14_, L15_, L16_, L20_, L22_, L23_, L24_, L25_, L30_, L31_, L32_, L33_, L36_, L40_, L41_, L45_, L48_, L60_, L63_, L64_, L97_, L100_, L107_, L108_, L126_, L150_, L200_, L294_, L366_, L402_, L408_, L414_, L420_, L421_, L422_, L423_, L424_, L425_, L426_, L427_, L428_, L999_, L2568_, L2996_]
    rw [show M.1 36 2 = F 422 from hF.set2, if_neg (fun e => h ⟨w, e⟩)]
  · simp (disch := omega) only [bnd_e, chk_tt, bn_s, bt_s, bt_x, inb_n, nI_clamp, le_t, le_f, lt_t, lt_f, eq_f, nI_add, pk_mul, ne_eq, not_true_eq_false, not_false_eq_true, ↓reduceIte, L0_, L1_, L2_, L3_, L4_, L5_, L6_, L7_, L8_, L9_, L10_, L11_, L12_, L13_, L14_, L15_, L16_, L20_, L22_, L23_, L24_, L25_, L30_, L31_, L32_, L33_, L36_, L40_, L41_, L45_, L48_, L60_, L63_, L64_, L97_, L100_, L107_, L108_, L126_, L150_, L200_, L294_, L366_, L402_, L408_, L414_, L420_, L421_, L422_, L423_, L424_, L425_, L426_, L427_, L428_, L999_, L2568_, L2996_]
theorem y_move (hX : JX M F n Sv l B) (hS : SI F k) (a b c d : Int32) : Yo [exI, exA, exS] (f_X6_move a b c d) M F k n Sv l B (fun v F' => ∃ t u s q, t < k ∧ u < k ∧ t ≠ u ∧ s < 24 ∧ q < 12 ∧ ¬ bitK (F (6 + 24 * t + s)) q = nI 0 ∧ bitK (F (6 + 24 * u + s)) q = nI 0 ∧ F' = moveF F t u s q ∧ v = pinsF F' 6 u) := by
  have hk := hS.1
  have hF := hX.1.1
  rcases pl_cs a c d hk with hb | ⟨t, s, q, ht, hs, hq, rfl, rfl, rfl⟩
  · refine Or.inl ⟨exI, List.mem_cons_self, ?_⟩
    unfold f_X6_move
    rw [x_cp0 hF hS hb, bt_x]
  · have h6 : t < 6 := by omega
    rcases inb_cs b (show k < 2 ^ 31 by omega) with hb | ⟨u, hu, rfl⟩
    · refine Or.inl ⟨exI, List.mem_cons_self, ?_⟩
      unfold f_X6_move
      rw [x_cp1 hF hS ht hs hq, bt_s, x_ct0 hF hS hb, bt_x]
    · have hu6 : u < 6 := by omega
      by_cases e : t = u
      · subst e
        refine Or.inl ⟨exA, by simp, ?_⟩
        unfold f_X6_move
        rw [x_cp1 hF hS ht hs hq, bt_s, x_ct1 hF hS ht, bt_s, x_cd0, bt_x]
      · have hm := hS.2.2.1 (6 + 24 * t + s) (by omega) (by omega)
        have hm' := hS.2.2.1 (6 + 24 * u + s) (by omega) (by omega)
        by_cases z : ¬ bitK (F (6 + 24 * t + s)) q = nI 0 ∧ bitK (F (6 + 24 * u + s)) q = nI 0
        · have s2 : SI (moveF F t u s q) k := (hS.up (fun _ _ => msk_and hm) (by omega) (by omega) (by omega)).up (fun _ _ => msk_or hm' hq) (by omega) (by omega) (by omega)
          obtain ⟨M1, e1, x1, a1⟩ := hX.save
          have x2 := (x1.w (F (6 + 24 * t + s) &&& nbit q) (6 + 24 * t + s) (by omega) (lc_drum h6 hs).1 (lc_drum h6 hs).2).w (F (6 + 24 * u + s) ||| bit q) (6 + 24 * u + s) (by omega) (lc_drum hu6 hs).1 (lc_drum hu6 hs).2
          refine Or.inr ⟨pinsF (moveF F t u s q) 6 u, moveF F t u s q, _, ?_, x2, s2, t, u, s, q, ht, hu, e, hs, hq, z.1, z.2, rfl, rfl⟩
          unfold f_X6_move
          rw [x_cp1 hF hS ht hs hq, bt_s, x_ct1 hF hS hu, bt_s, x_cd1 e h6 hu6, bt_s]
          simp (disch := omega) only [bnd_e, chk_tt, bn_s, bt_s, bt_x, inb_n, nI_clamp, le_t, le_f, lt_t, lt_f, eq_f, nI_add, pk_mul, ne_eq, not_true_eq_false, not_false_eq_true, ↓reduceIte, L0_, L1_, L2_, L3_, L4_, L5_, L6_, L7_, L8_, L9_, L10_, L11_, L12_, L13_, L14_, L15_, L16_, L20_, L22_, L23_, L24_, L25_, L30_, L31_, L32_, L33_, L36_, L40_, L41_, L45_, L48_, L60_, L63_, L64_, L97_, L100_, L107_, L108_, L126_, L150_, L200_, L294_, L366_, L402_, L408_, L414_, L420_, L421_, L422_, L423_, L424_, L425_, L426_, L427_, L428_, L999_, L2568_, L2996_, tw_35, x_hasPin hF hS, z.1, z.2, e1, bit_e, nbit_e]
          rw [x1.1.1.drum h6 hs, mwn (by unfold tc; omega), x1.1.1.drum hu6 hs, x_drum x2.1.1 isL34 s2 hu6]
          simp (disch := omega) only [bnd_e, chk_tt, bn_s, bt_s, bt_x, inb_n, nI_clamp, le_t, le_f, lt_t, lt_f, eq_f, nI_add, pk_mul, ne_eq, not_true_eq_false, not_false_eq_true, ↓reduceIte, L0_, L1_, L2_, L3_, L4_, L5_, L6_, L7_, L8_, L9_, L10_, L11_, L12_, L13_, L14_, L15_, L16_, L20_, L22_, L23_, L24_, L25_, L30_, L31_, L32_, L33_, L36_, L40_, L41_, L45_, L48_, L60_, L63_, L64_, L97_, L100_, L107_, L108_, L126_, L150_, L200_, L294_, L366_, L402_, L408_, L414_, L420_, L421_, L422_, L423_, L424_, L425_, L426_, L427_, L428_, L999_, L2568_, L2996_]
          rfl
        · refine Or.inl ⟨exS, by simp, ?_⟩
          unfold f_X6_move
          rw [x_cp1 hF hS ht hs hq, bt_s, x_ct1 hF hS hu, bt_s, x_cd1 e h6 hu6, bt_s]
          by_cases w : bitK (F (6 + 24 * t + s)) q = nI 0
          · simp (disch := omega) only [bnd_e, chk_tt, bn_s, bt_s, bt_x, inb_n, nI_clamp, le_t, le_f, lt_t, lt_f, eq_f, nI_add, pk_mul, ne_eq, not_true_eq_false, not_false_eq_true, ↓reduceIte, L0_, L1_, L2_, L3_, L4_, L5_, L6_, L7_, L8_, L9_, L10_, L11_, L12_, L13_, L14_, L15_, L16_, L20_, L22_, L23_, L24_, L25_, L30_, L31_, L32_, L33_, L36_, L40_, L41_, L45_, L48_, L60_, L63_, L64_, L97_, L100_, L107_, L108_, L126_, L150_, L200_, L294_, L366_, L402_, L408_, L414_, L420_, L421_, L422_, L423_, L424_, L425_, L426_, L427_, L428_, L999_, L2568_, L2996_, tw_35, x_hasPin hF hS, w]
          · have w' : ¬ bitK (F (6 + 24 * u + s)) q = nI 0 := fun e => z ⟨w, e⟩
            simp (disch := omega) only [bnd_e, chk_tt, bn_s, bt_s, bt_x, inb_n, nI_clamp, le_t, le_f, lt_t, lt_f, eq_f, nI_add, pk_mul, ne_eq, not_true_eq_false, not_false_eq_true, ↓reduceIte, L0_, L1_, L2_, L3_, L4_, L5_, L6_, L7_, L8_, L9_, L10_, L11_, L12_, L13_, L14_, L15_, L16_, L20_, L22_, L23_, L24_, L25_, L30_, L31_, L32_, L33_, L36_, L40_, L41_, L45_, L48_, L60_, L63_, L64_, L97_, L100_, L107_, L108_, L126_, L150_, L200_, L294_, L366_, L402_, L408_, L414_, L420_, L421_, L422_, L423_, L424_, L425_, L426_, L427_, L428_, L999_, L2568_, L2996_, tw_35, x_hasPin hF hS, w, w']
theorem y_set (hX : JX M F n Sv l B) (hS : SI F k) (a b : Int32) : Yo [exI, exA] (f_X6_set a b) M F k n Sv l B (fun v F' => ∃ t, t < 3 ∧ ¬ b < nI (lvN t) ∧ ¬ nI (gvN t) < b ∧ F' = va_up F (420 + t) b ∧ v = F (420 + t)) := by
  have hF := hX.1.1
  rcases inb_cs a (show 3 < 2 ^ 31 by omega) with ha | ⟨t, ht, rfl⟩
  · refine Or.inl ⟨exI, List.mem_cons_self, ?_⟩
    unfold f_X6_set
    rw [x_cz0 ha, bt_x]
  · obtain ⟨g1, g2, g3, g4⟩ := lv_e t ht
    by_cases z : b < nI (lvN t) ∨ nI (gvN t) < b
    · refine Or.inl ⟨exA, by simp, ?_⟩
      unfold f_X6_set
      rw [x_cz1 ht, bt_s]
      simp (disch := omega) only [bnd_e, chk_tt, bn_s, bt_s, bt_x, inb_n, nI_clamp, le_t, le_f, lt_t, lt_f, eq_f, nI_add, pk_mul, ne_eq, not_true_eq_false, not_false_eq_true, ↓reduceIte, L0_, L1_, L2_, L3_, L4_, L5_, L6_, L7_, L8_, L9_, L10_, L11_, L12_, L13_, L14_, L15_, L16_, L20_, L22_, L23_, L24_, L25_, L30_, L31_, L32_, L33_, L36_, L40_, L41_, L45_, L48_, L60_, L63_, L64_, L97_, L100_, L107_, L108_, L126_, L150_, L200_, L294_, L366_, L402_, L408_, L414_, L420_, L421_, L422_, L423_, L424_, L425_, L426_, L427_, L428_, L999_, L2568_, L2996_, f_X6_set_22, g1, g2]
      by_cases w : b < nI (lvN t)
      · rw [if_pos w]
      · rw [if_neg w, if_neg (Int32.not_le.mpr (z.resolve_left w))]
    · have z1 : ¬ b < nI (lvN t) := fun e => z (Or.inl e)
      have z2 : ¬ nI (gvN t) < b := fun e => z (Or.inr e)
      have s2 : SI (va_up F (420 + t) b) k := hS.up (by omega) (fun e => by
        obtain rfl : t = 0 := by omega
        rcases pk_ix b (show 25 < 2 ^ 31 by omega) with q | q | ⟨j, hj, rfl⟩
        · exact absurd q z1
        · exfalso
          refine z2 (Int32.lt_of_lt_of_le ?_ q)
          show nI 24 < nI 25
          decide
        · exact ⟨j, by omega, rfl⟩) (by omega) (by omega)
      obtain ⟨M1, e1, x1, a1⟩ := hX.save
      have x2 := x1.w b (420 + t) (by omega) (lc_set ht).1 (lc_set ht).2
      refine Or.inr ⟨F (420 + t), va_up F (420 + t) b, _, ?_, x2, s2, t, ht, z1, z2, rfl, rfl⟩
      unfold f_X6_set
      rw [x_cz1 ht, bt_s]
      simp (disch := omega) only [bnd_e, chk_tt, bn_s, bt_s, bt_x, inb_n, nI_clamp, le_t, le_f, lt_t, lt_f, eq_f, nI_add, pk_mul, ne_eq, not_true_eq_false, not_false_eq_true, ↓reduceIte, L0_, L1_, L2_, L3_, L4_, L5_, L6_, L7_, L8_, L9_, L10_, L11_, L12_, L13_, L14_, L15_, L16_, L20_, L22_, L23_, L24_, L25_, L30_, L31_, L32_, L33_, L36_, L40_, L41_, L45_, L48_, L60_, L63_, L64_, L97_, L100_, L107_, L108_, L126_, L150_, L200_, L294_, L366_, L402_, L408_, L414_, L420_, L421_, L422_, L423_, L424_, L425_, L426_, L427_, L428_, L999_, L2568_, L2996_, g1, g2, z1, Int32.not_lt.mp z2, e1]
      have : M1.1 36 t = F (420 + t) := x1.1.1.rd (420 + t) (by omega) (lc_set ht).1 (lc_set ht).2
      rw [this]
theorem y_set0 (b : Int32) : f_X6_set (nI 3) b M = some (.inr exI, M) := by
  unfold f_X6_set
  rw [x_cz0 (by decide), bt_x]
end YY
