/-! ===== the reference: what would be played; best turns and drums ===== -/
def drumF (F : Nat → Int32) (t : Nat) : Nat → Int32 := fun s => F (6 + 24 * t + s)
def tuneF (F : Nat → Int32) (t : Nat) : Nat → Int32 := fun s => F (150 + 24 * t + s)
def wearF (F : Nat → Int32) (t : Nat) : Nat → Int32 := fun k => F (294 + 12 * t + k)
/-- what playing town t's drum does -/
def plF (F : Nat → Int32) (t : Nat) : PS := playP (tuneF F t) (F 421) (F 420) (drumF F t) (wearF F t)
def dullW (W : Nat → Int32) (du : Int32) : Int32 := sumI (fun k => if W k < du then nI 0 else nI 1) 12
def ifF (F : Nat → Int32) (t w : Nat) : Int32 := match w with
  | 0 => (plF F t).2.2.2.2 0
  | 1 => (plF F t).2.2.2.2 2
  | 2 => (plF F t).2.2.2.2 3
  | 3 => (plF F t).2.2.2.2 1
  | _ => dullW (plF F t).2.1 (F 421)
/-- the reference's scratch: what its questions leave as it was -/
def mQ : Nat → Nat → Prop := fun c i => ¬ (27 ≤ c ∧ c < 34) ∧ ¬ (c = 24 ∧ 7 ≤ i) ∧ ¬ (c = 25 ∧ 2996 ≤ i)
theorem Mo.ag {M M' : Mem} {F : Nat → Int32} (h : Mo M F) (a : ag mQ M M') : Mo M' F := fun i hi => by
  rw [a.2 25 i (by unfold mQ; omega)]
  exact h i hi
theorem m_try {M : Mem} {F : Nat → Int32} {k : Nat} (hF : Mo M F) (hS : SI F k) {t : Nat} (ht : t < 6) : ∃ M', f_X7_tryPlaying (nI t) M = some ((), M') ∧ Pm M' 2996 t (tuneF F t) (F 421) (F 420) 24 (plF F t) ∧ ag mQ M M' := by
  unfold f_X7_tryPlaying
  simp (disch := omega) only [bnd_e, chk_tt, bn_s, bt_s, bt_x, inb_n, nI_clamp, le_t, le_f, lt_t, lt_f, eq_f, nI_add, pk_mul, ne_eq, not_true_eq_false, not_false_eq_true, ↓reduceIte, L0_, L1_, L2_, L3_, L4_, L5_, L6_, L7_, L8_, L9_, L10_, L11_, L12_, L13_, L14_, L15_, L16_, L20_, L22_, L23_, L24_, L25_, L30_, L31_, L32_, L33_, L36_, L40_, L41_, L45_, L48_, L60_, L63_, L64_, L97_, L100_, L107_, L108_, L126_, L150_, L200_, L294_, L366_, L402_, L408_, L414_, L420_, L421_, L422_, L423_, L424_, L425_, L426_, L427_, L428_, L999_, L2568_, L2996_]
  obtain ⟨M1, e1, a1, c1⟩ := m_copy (f := 0) (t := 2996) (by omega) (by omega) (by omega) M
  rw [e1]
  simp (disch := omega) only [bnd_e, chk_tt, bn_s, bt_s, bt_x, inb_n, nI_clamp, le_t, le_f, lt_t, lt_f, eq_f, nI_add, pk_mul, ne_eq, not_true_eq_false, not_false_eq_true, ↓reduceIte, L0_, L1_, L2_, L3_, L4_, L5_, L6_, L7_, L8_, L9_, L10_, L11_, L12_, L13_, L14_, L15_, L16_, L20_, L22_, L23_, L24_, L25_, L30_, L31_, L32_, L33_, L36_, L40_, L41_, L45_, L48_, L60_, L63_, L64_, L97_, L100_, L107_, L108_, L126_, L150_, L200_, L294_, L366_, L402_, L408_, L414_, L420_, L421_, L422_, L423_, L424_, L425_, L426_, L427_, L428_, L999_, L2568_, L2996_]
  have g : ∀ i, i < 428 → M1.1 25 (2996 + i) = F i := fun i hi => by rw [c1 i hi, Nat.zero_add]; exact hF i hi
  obtain ⟨M2, e2, h2, a2⟩ := m_playIn (M := M1) (b := 2996) (t := t) (T := tuneF F t) (D := drumF F t) (W := wearF F t) (du := F 421) (re := F 420) (by omega) ht hS.2.2.2.1 (fun s hs => by rw [show 2996 + 6 + 24 * t + s = 2996 + (6 + 24 * t + s) by omega]; exact g _ (by omega)) (fun k hk => by rw [show 2996 + 294 + 12 * t + k = 2996 + (294 + 12 * t + k) by omega]; exact g _ (by omega)) (fun s hs => by rw [show 2996 + 150 + 24 * t + s = 2996 + (150 + 24 * t + s) by omega]; exact g _ (by omega)) (g _ (by omega)) (g _ (by omega))
  rw [e2]
  simp (disch := omega) only [bnd_e, chk_tt, bn_s, bt_s, bt_x, inb_n, nI_clamp, le_t, le_f, lt_t, lt_f, eq_f, nI_add, pk_mul, ne_eq, not_true_eq_false, not_false_eq_true, ↓reduceIte, L0_, L1_, L2_, L3_, L4_, L5_, L6_, L7_, L8_, L9_, L10_, L11_, L12_, L13_, L14_, L15_, L16_, L20_, L22_, L23_, L24_, L25_, L30_, L31_, L32_, L33_, L36_, L40_, L41_, L45_, L48_, L60_, L63_, L64_, L97_, L100_, L107_, L108_, L126_, L150_, L200_, L294_, L366_, L402_, L408_, L414_, L420_, L421_, L422_, L423_, L424_, L425_, L426_, L427_, L428_, L999_, L2568_, L2996_]
  exact ⟨M2, rfl, h2, (a1.mono (fun c i q => by unfold mQ at q; omega)).tr (a2.mono (fun c i q => by unfold mQ at q; unfold QP; omega))⟩
theorem m_dullP {M : Mem} {t : Nat} {T : Nat → Int32} {du re : Int32} {P : PS} (h : Pm M 2996 t T du re 24 P) (ht : t < 6) : f_X7_dullIn (nI 2996) (nI t) M = some (dullW P.2.1 du, M) := by
  rw [m_dull (F := fun i => M.1 25 (2996 + i)) (fun i _ => rfl) (by omega) ht]
  have h9 : dullF (fun i => M.1 25 (2996 + i)) t = dullW P.2.1 du := by
    unfold dullF dullW
    apply sumI_congr
    intro k hk
    have h1 := h.2.1 k hk
    rw [show 2996 + 294 + 12 * t + k = 2996 + (294 + 12 * t + k) by omega] at h1
    show (if M.1 25 (2996 + (294 + 12 * t + k)) < M.1 25 (2996 + 421) then _ else _) = _
    rw [h1, h.2.2.2.2.2.2.1]
  rw [h9]
theorem m_ifP {M : Mem} {F : Nat → Int32} {k : Nat} (hF : Mo M F) (hS : SI F k) {t w : Nat} (ht : t < 6) (hw : w < 5) : ∃ M', f_X7_ifPlayedOf (nI t) (nI w) M = some (ifF F t w, M') ∧ ag mQ M M' := by
  obtain ⟨M1, e1, h1, a1⟩ := m_try hF hS ht
  obtain ⟨c0, c1, c2, c3, c4⟩ := h1.2.2.2.2.1
  unfold f_X7_ifPlayedOf f_X7_ifPlayedOf_60
  rw [e1]
  refine ⟨M1, ?_, a1⟩
  match w, hw with
  | 0, _ => simp (disch := omega) only [bnd_e, chk_tt, bn_s, bt_s, bt_x, inb_n, nI_clamp, le_t, le_f, lt_t, lt_f, eq_f, nI_add, pk_mul, ne_eq, not_true_eq_false, not_false_eq_true, ↓reduceIte, L0_, L1_, L2_, L3_, L4_, L5_, L6_, L7_, L8_, L9_, L10_, L11_, L12_, L13_, L14_, L15_, L16_, L20_, L22_, L23_, L24_, L25_, L30_, L31_, L32_, L33_, L36_, L40_, L41_, L45_, L48_, L60_, L63_, L64_, L97_, L100_, L107_, L108_, L126_, L150_, L200_, L294_, L366_, L402_, L408_, L414_, L420_, L421_, L422_, L423_, L424_, L425_, L426_, L427_, L428_, L999_, L2568_, L2996_]; rw [c0]; rfl
  | 1, _ => simp (disch := omega) only [bnd_e, chk_tt, bn_s, bt_s, bt_x, inb_n, nI_clamp, le_t, le_f, lt_t, lt_f, eq_f, nI_add, pk_mul, ne_eq, not_true_eq_false, not_false_eq_true, ↓reduceIte, L0_, L1_, L2_, L3_, L4_, L5_, L6_, L7_, L8_, L9_, L10_, L11_, L12_, L13_, L14_, L15_, L16_, L20_, L22_, L23_, L24_, L25_, L30_, L31_, L32_, L33_, L36_, L40_, L41_, L45_, L48_, L60_, L63_, L64_, L97_, L100_, L107_, L108_, L126_, L150_, L200_, L294_, L366_, L402_, L408_, L414_, L420_, L421_, L422_, L423_, L424_, L425_, L426_, L427_, L428_, L999_, L2568_, L2996_]; rw [c2]; rfl
  | 2, _ => simp (disch := omega) only [bnd_e, chk_tt, bn_s, bt_s, bt_x, inb_n, nI_clamp, le_t, le_f, lt_t, lt_f, eq_f, nI_add, pk_mul, ne_eq, not_true_eq_false, not_false_eq_true, ↓reduceIte, L0_, L1_, L2_, L3_, L4_, L5_, L6_, L7_, L8_, L9_, L10_, L11_, L12_, L13_, L14_, L15_, L16_, L20_, L22_, L23_, L24_, L25_, L30_, L31_, L32_, L33_, L36_, L40_, L41_, L45_, L48_, L60_, L63_, L64_, L97_, L100_, L107_, L108_, L126_, L150_, L200_, L294_, L366_, L402_, L408_, L414_, L420_, L421_, L422_, L423_, L424_, L425_, L426_, L427_, L428_, L999_, L2568_, L2996_]; rw [c3]; rfl
  | 3, _ => simp (disch := omega) only [bnd_e, chk_tt, bn_s, bt_s, bt_x, inb_n, nI_clamp, le_t, le_f, lt_t, lt_f, eq_f, nI_add, pk_mul, ne_eq, not_true_eq_false, not_false_eq_true, ↓reduceIte, L0_, L1_, L2_, L3_, L4_, L5_, L6_, L7_, L8_, L9_, L10_, L11_, L12_, L13_, L14_, L15_, L16_, L20_, L22_, L23_, L24_, L25_, L30_, L31_, L32_, L33_, L36_, L40_, L41_, L45_, L48_, L60_, L63_, L64_, L97_, L100_, L107_, L108_, L126_, L150_, L200_, L294_, L366_, L402_, L408_, L414_, L420_, L421_, L422_, L423_, L424_, L425_, L426_, L427_, L428_, L999_, L2568_, L2996_]; rw [c1]; rfl
  | 4, _ => simp (disch := omega) only [bnd_e, chk_tt, bn_s, bt_s, bt_x, inb_n, nI_clamp, le_t, le_f, lt_t, lt_f, eq_f, nI_add, pk_mul, ne_eq, not_true_eq_false, not_false_eq_true, ↓reduceIte, L0_, L1_, L2_, L3_, L4_, L5_, L6_, L7_, L8_, L9_, L10_, L11_, L12_, L13_, L14_, L15_, L16_, L20_, L22_, L23_, L24_, L25_, L30_, L31_, L32_, L33_, L36_, L40_, L41_, L45_, L48_, L60_, L63_, L64_, L97_, L100_, L107_, L108_, L126_, L150_, L200_, L294_, L366_, L402_, L408_, L414_, L420_, L421_, L422_, L423_, L424_, L425_, L426_, L427_, L428_, L999_, L2568_, L2996_, m_dullP h1 ht]; rfl
/-- how often town t's drum can be played until a right pin falls out: c more playings are looked at -/
def lastsL (T : Nat → Int32) (du re : Int32) : Nat → Nat → (Nat → Int32) → (Nat → Int32) → Int32
  | 0, _, _, _ => -nI 1
  | c + 1, y, D, W => if (playP T du re D W).2.2.2.2 4 ≤ nI 0 then lastsL T du re c (y + 1) (playP T du re D W).1 (playP T du re D W).2.1 else nI y
def lastsF (F : Nat → Int32) (t : Nat) : Int32 := lastsL (tuneF F t) (F 421) (F 420) 200 1 (drumF F t) (wearF F t)
theorem m_lasts10 {t : Nat} {T : Nat → Int32} {du re : Int32} (ht : t < 6) (hre : ∃ r, r ≤ 24 ∧ re = nI r) : ∀ (c y n : Nat) (M : Mem) (D W : Nat → Int32), y + c = 201 → c < n → (∀ s, s < 24 → M.1 25 (2996 + 6 + 24 * t + s) = D s) → (∀ k, k < 12 → M.1 25 (2996 + 294 + 12 * t + k) = W k) → (∀ s, s < 24 → M.1 25 (2996 + 150 + 24 * t + s) = T s) → M.1 25 (2996 + 421) = du → M.1 25 (2996 + 420) = re →
    ∃ M', f_X7_lastsOf_10 n (nI t) (nI y) M = some (lastsL T du re c y D W, M') ∧ ag mQ M M' := by
  intro c
  induction c with
  | zero =>
    intro y n M D W h hn hD hW hT hdu hre'
    obtain ⟨n, rfl, -⟩ := suc hn
    rw [f_X7_lastsOf_10]
    simp (disch := omega) only [bnd_e, chk_tt, bn_s, bt_s, bt_x, inb_n, nI_clamp, le_t, le_f, lt_t, lt_f, eq_f, nI_add, pk_mul, ne_eq, not_true_eq_false, not_false_eq_true, ↓reduceIte, L0_, L1_, L2_, L3_, L4_, L5_, L6_, L7_, L8_, L9_, L10_, L11_, L12_, L13_, L14_, L15_, L16_, L20_, L22_, L23_, L24_, L25_, L30_, L31_, L32_, L33_, L36_, L40_, L41_, L45_, L48_, L60_, L63_, L64_, L97_, L100_, L107_, L108_, L126_, L150_, L200_, L294_, L366_, L402_, L408_, L414_, L420_, L421_, L422_, L423_, L424_, L425_, L426_, L427_, L428_, L999_, L2568_, L2996_]
    exact ⟨M, rfl, ag.rf⟩
  | succ c ih =>
    intro y n M D W h hn hD hW hT hdu hre'
    obtain ⟨n, rfl, -⟩ := suc hn
    rw [f_X7_lastsOf_10]
    simp (disch := omega) only [bnd_e, chk_tt, bn_s, bt_s, bt_x, inb_n, nI_clamp, le_t, le_f, lt_t, lt_f, eq_f, nI_add, pk_mul, ne_eq, not_true_eq_false, not_false_eq_true, ↓reduceIte, L0_, L1_, L2_, L3_, L4_, L5_, L6_, L7_, L8_, L9_, L10_, L11_, L12_, L13_, L14_, L15_, L16_, L20_, L22_, L23_, L24_, L25_, L30_, L31_, L32_, L33_, L36_, L40_, L41_, L45_, L48_, L60_, L63_, L64_, L97_, L100_, L107_, L108_, L126_, L150_, L200_, L294_, L366_, L402_, L408_, L414_, L420_, L421_, L422_, L423_, L424_, L425_, L426_, L427_, L428_, L999_, L2568_, L2996_]
    obtain ⟨M1, e1, h1, a1⟩ := m_playIn (by omega) ht hre hD hW hT hdu hre'
    rw [e1]
    simp (disch := omega) only [bnd_e, chk_tt, bn_s, bt_s, bt_x, inb_n, nI_clamp, le_t, le_f, lt_t, lt_f, eq_f, nI_add, pk_mul, ne_eq, not_true_eq_false, not_false_eq_true, ↓reduceIte, L0_, L1_, L2_, L3_, L4_, L5_, L6_, L7_, L8_, L9_, L10_, L11_, L12_, L13_, L14_, L15_, L16_, L20_, L22_, L23_, L24_, L25_, L30_, L31_, L32_, L33_, L36_, L40_, L41_, L45_, L48_, L60_, L63_, L64_, L97_, L100_, L107_, L108_, L126_, L150_, L200_, L294_, L366_, L402_, L408_, L414_, L420_, L421_, L422_, L423_, L424_, L425_, L426_, L427_, L428_, L999_, L2568_, L2996_]
    have a1' := a1.mono (P' := mQ) (fun c i q => by unfold mQ at q; unfold QP; omega)
    rw [h1.2.2.2.2.1.2.2.2.2]
    simp only [lastsL]
    by_cases q : (playP T du re D W).2.2.2.2 4 ≤ nI 0
    · rw [if_pos q, if_pos q]
      obtain ⟨M2, e2, a2⟩ := ih (y + 1) n M1 _ _ (by omega) (by omega) h1.1 h1.2.1 h1.2.2.2.2.2.1 h1.2.2.2.2.2.2.1 h1.2.2.2.2.2.2.2.1
      exact ⟨M2, e2, a1'.tr a2⟩
    · rw [if_neg q, if_neg q]
      exact ⟨M1, rfl, a1'⟩
theorem m_lasts {M : Mem} {F : Nat → Int32} {k : Nat} (hF : Mo M F) (hS : SI F k) {t : Nat} (ht : t < 6) : ∃ M', f_X7_lastsOf (nI t) M = some (lastsF F t, M') ∧ ag mQ M M' := by
  unfold f_X7_lastsOf
  simp (disch := omega) only [bnd_e, chk_tt, bn_s, bt_s, bt_x, inb_n, nI_clamp, le_t, le_f, lt_t, lt_f, eq_f, nI_add, pk_mul, ne_eq, not_true_eq_false, not_false_eq_true, ↓reduceIte, L0_, L1_, L2_, L3_, L4_, L5_, L6_, L7_, L8_, L9_, L10_, L11_, L12_, L13_, L14_, L15_, L16_, L20_, L22_, L23_, L24_, L25_, L30_, L31_, L32_, L33_, L36_, L40_, L41_, L45_, L48_, L60_, L63_, L64_, L97_, L100_, L107_, L108_, L126_, L150_, L200_, L294_, L366_, L402_, L408_, L414_, L420_, L421_, L422_, L423_, L424_, L425_, L426_, L427_, L428_, L999_, L2568_, L2996_]
  obtain ⟨M1, e1, a1, c1⟩ := m_copy (f := 0) (t := 2996) (by omega) (by omega) (by omega) M
  rw [e1]
  simp (disch := omega) only [bnd_e, chk_tt, bn_s, bt_s, bt_x, inb_n, nI_clamp, le_t, le_f, lt_t, lt_f, eq_f, nI_add, pk_mul, ne_eq, not_true_eq_false, not_false_eq_true, ↓reduceIte, L0_, L1_, L2_, L3_, L4_, L5_, L6_, L7_, L8_, L9_, L10_, L11_, L12_, L13_, L14_, L15_, L16_, L20_, L22_, L23_, L24_, L25_, L30_, L31_, L32_, L33_, L36_, L40_, L41_, L45_, L48_, L60_, L63_, L64_, L97_, L100_, L107_, L108_, L126_, L150_, L200_, L294_, L366_, L402_, L408_, L414_, L420_, L421_, L422_, L423_, L424_, L425_, L426_, L427_, L428_, L999_, L2568_, L2996_]
  have g : ∀ i, i < 428 → M1.1 25 (2996 + i) = F i := fun i hi => by rw [c1 i hi, Nat.zero_add]; exact hF i hi
  obtain ⟨M2, e2, a2⟩ := m_lasts10 (t := t) (T := tuneF F t) (du := F 421) (re := F 420) ht hS.2.2.2.1 200 1 FU M1 (drumF F t) (wearF F t) rfl (by decide) (fun s hs => by rw [show 2996 + 6 + 24 * t + s = 2996 + (6 + 24 * t + s) by omega]; exact g _ (by omega)) (fun k hk => by rw [show 2996 + 294 + 12 * t + k = 2996 + (294 + 12 * t + k) by omega]; exact g _ (by omega)) (fun s hs => by rw [show 2996 + 150 + 24 * t + s = 2996 + (150 + 24 * t + s) by omega]; exact g _ (by omega)) (g _ (by omega)) (g _ (by omega))
  exact ⟨M2, e2, (a1.mono (fun c i q => by unfold mQ at q; omega)).tr a2⟩
def stepF (F : Nat → Int32) (t s w : Nat) : Int32 := match w with
  | 0 => F (6 + 24 * t + s)
  | 1 => F (150 + 24 * t + s)
  | _ => (plF F t).2.2.2.1 s
theorem m_stepOf {M : Mem} {F : Nat → Int32} {k : Nat} (hF : Mo M F) (hS : SI F k) {t s w : Nat} (ht : t < 6) (hs : s < 24) (hw : w < 3) : ∃ M', f_X7_stepOf (nI t) (nI s) (nI w) M = some (stepF F t s w, M') ∧ ag mQ M M' := by
  unfold f_X7_stepOf f_X7_stepOf_21
  match w, hw with
  | 0, _ => simp (disch := omega) only [bnd_e, chk_tt, bn_s, bt_s, bt_x, inb_n, nI_clamp, le_t, le_f, lt_t, lt_f, eq_f, nI_add, pk_mul, ne_eq, not_true_eq_false, not_false_eq_true, ↓reduceIte, L0_, L1_, L2_, L3_, L4_, L5_, L6_, L7_, L8_, L9_, L10_, L11_, L12_, L13_, L14_, L15_, L16_, L20_, L22_, L23_, L24_, L25_, L30_, L31_, L32_, L33_, L36_, L40_, L41_, L45_, L48_, L60_, L63_, L64_, L97_, L100_, L107_, L108_, L126_, L150_, L200_, L294_, L366_, L402_, L408_, L414_, L420_, L421_, L422_, L423_, L424_, L425_, L426_, L427_, L428_, L999_, L2568_, L2996_, m_at]; rw [hF _ (by omega)]; exact ⟨M, rfl, ag.rf⟩
  | 1, _ => simp (disch := omega) only [bnd_e, chk_tt, bn_s, bt_s, bt_x, inb_n, nI_clamp, le_t, le_f, lt_t, lt_f, eq_f, nI_add, pk_mul, ne_eq, not_true_eq_false, not_false_eq_true, ↓reduceIte, L0_, L1_, L2_, L3_, L4_, L5_, L6_, L7_, L8_, L9_, L10_, L11_, L12_, L13_, L14_, L15_, L16_, L20_, L22_, L23_, L24_, L25_, L30_, L31_, L32_, L33_, L36_, L40_, L41_, L45_, L48_, L60_, L63_, L64_, L97_, L100_, L107_, L108_, L126_, L150_, L200_, L294_, L366_, L402_, L408_, L414_, L420_, L421_, L422_, L423_, L424_, L425_, L426_, L427_, L428_, L999_, L2568_, L2996_, m_at]; rw [hF _ (by omega)]; exact ⟨M, rfl, ag.rf⟩
  | 2, _ =>
    obtain ⟨M1, e1, h1, a1⟩ := m_try hF hS ht
    simp (disch := omega) only [bnd_e, chk_tt, bn_s, bt_s, bt_x, inb_n, nI_clamp, le_t, le_f, lt_t, lt_f, eq_f, nI_add, pk_mul, ne_eq, not_true_eq_false, not_false_eq_true, ↓reduceIte, L0_, L1_, L2_, L3_, L4_, L5_, L6_, L7_, L8_, L9_, L10_, L11_, L12_, L13_, L14_, L15_, L16_, L20_, L22_, L23_, L24_, L25_, L30_, L31_, L32_, L33_, L36_, L40_, L41_, L45_, L48_, L60_, L63_, L64_, L97_, L100_, L107_, L108_, L126_, L150_, L200_, L294_, L366_, L402_, L408_, L414_, L420_, L421_, L422_, L423_, L424_, L425_, L426_, L427_, L428_, L999_, L2568_, L2996_]
    rw [e1]
    simp (disch := omega) only [bnd_e, chk_tt, bn_s, bt_s, bt_x, inb_n, nI_clamp, le_t, le_f, lt_t, lt_f, eq_f, nI_add, pk_mul, ne_eq, not_true_eq_false, not_false_eq_true, ↓reduceIte, L0_, L1_, L2_, L3_, L4_, L5_, L6_, L7_, L8_, L9_, L10_, L11_, L12_, L13_, L14_, L15_, L16_, L20_, L22_, L23_, L24_, L25_, L30_, L31_, L32_, L33_, L36_, L40_, L41_, L45_, L48_, L60_, L63_, L64_, L97_, L100_, L107_, L108_, L126_, L150_, L200_, L294_, L366_, L402_, L408_, L414_, L420_, L421_, L422_, L423_, L424_, L425_, L426_, L427_, L428_, L999_, L2568_, L2996_]
    rw [h1.2.2.2.1 s hs]
    exact ⟨M1, rfl, a1⟩
/-- the best turn of those that c more are looked at, from y on -/
def bestT (F : Nat → Int32) (t : Nat) : Nat → Nat → Nat → Nat
  | 0, _, b => b
  | c + 1, y, b => bestT F t c (y + 1) (if rightF F t t y ≤ rightF F t t b then b else y)
theorem bestT_lt {F : Nat → Int32} {t : Nat} : ∀ (c y b : Nat), y + c = 24 → b < 24 → bestT F t c y b < 24 := by
  intro c
  induction c with
  | zero => intro y b _ h; exact h
  | succ c ih =>
    intro y b h hb
    refine ih (y + 1) _ (by omega) ?_
    split <;> omega
def turnF (F : Nat → Int32) (t w : Nat) : Int32 := match w with
  | 0 => nI (bestT F t 23 1 0)
  | _ => rightF F t t (bestT F t 23 1 0)
theorem m_turn5 {M : Mem} {F : Nat → Int32} (hF : Mo M F) {t w : Nat} (ht : t < 6) (hw : w < 2) : ∀ (c y b n : Nat), y + c = 24 → b < 24 → c < n → f_X7_bestTurnOf_5 n (nI t) (nI w) (nI b) (nI y) M = some (if w = 0 then nI (bestT F t c y b) else rightF F t t (bestT F t c y b), M) := by
  intro c
  induction c with
  | zero =>
    intro y b n h hb hn
    obtain ⟨n, rfl, -⟩ := suc hn
    rw [f_X7_bestTurnOf_5]
    match w, hw with
    | 0, _ => simp (disch := omega) only [bnd_e, chk_tt, bn_s, bt_s, bt_x, inb_n, nI_clamp, le_t, le_f, lt_t, lt_f, eq_f, nI_add, pk_mul, ne_eq, not_true_eq_false, not_false_eq_true, ↓reduceIte, L0_, L1_, L2_, L3_, L4_, L5_, L6_, L7_, L8_, L9_, L10_, L11_, L12_, L13_, L14_, L15_, L16_, L20_, L22_, L23_, L24_, L25_, L30_, L31_, L32_, L33_, L36_, L40_, L41_, L45_, L48_, L60_, L63_, L64_, L97_, L100_, L107_, L108_, L126_, L150_, L200_, L294_, L366_, L402_, L408_, L414_, L420_, L421_, L422_, L423_, L424_, L425_, L426_, L427_, L428_, L999_, L2568_, L2996_, f_X7_bestTurnOf_58]; rfl
    | 1, _ => simp (disch := omega) only [bnd_e, chk_tt, bn_s, bt_s, bt_x, inb_n, nI_clamp, le_t, le_f, lt_t, lt_f, eq_f, nI_add, pk_mul, ne_eq, not_true_eq_false, not_false_eq_true, ↓reduceIte, L0_, L1_, L2_, L3_, L4_, L5_, L6_, L7_, L8_, L9_, L10_, L11_, L12_, L13_, L14_, L15_, L16_, L20_, L22_, L23_, L24_, L25_, L30_, L31_, L32_, L33_, L36_, L40_, L41_, L45_, L48_, L60_, L63_, L64_, L97_, L100_, L107_, L108_, L126_, L150_, L200_, L294_, L366_, L402_, L408_, L414_, L420_, L421_, L422_, L423_, L424_, L425_, L426_, L427_, L428_, L999_, L2568_, L2996_, f_X7_bestTurnOf_58, m_right hF]; rfl
  | succ c ih =>
    intro y b n h hb hn
    obtain ⟨n, rfl, -⟩ := suc hn
    rw [f_X7_bestTurnOf_5]
    simp (disch := omega) only [bnd_e, chk_tt, bn_s, bt_s, bt_x, inb_n, nI_clamp, le_t, le_f, lt_t, lt_f, eq_f, nI_add, pk_mul, ne_eq, not_true_eq_false, not_false_eq_true, ↓reduceIte, L0_, L1_, L2_, L3_, L4_, L5_, L6_, L7_, L8_, L9_, L10_, L11_, L12_, L13_, L14_, L15_, L16_, L20_, L22_, L23_, L24_, L25_, L30_, L31_, L32_, L33_, L36_, L40_, L41_, L45_, L48_, L60_, L63_, L64_, L97_, L100_, L107_, L108_, L126_, L150_, L200_, L294_, L366_, L402_, L408_, L414_, L420_, L421_, L422_, L423_, L424_, L425_, L426_, L427_, L428_, L999_, L2568_, L2996_, m_right hF, f_X7_bestTurnOf_36]
    simp only [bestT]
    by_cases q : rightF F t t y ≤ rightF F t t b
    · rw [if_pos q, if_pos q]
      exact ih (y + 1) b n (by omega) hb (by omega)
    · rw [if_neg q, if_neg q]
      exact ih (y + 1) y n (by omega) (by omega) (by omega)
theorem m_turnOf {M : Mem} {F : Nat → Int32} (hF : Mo M F) {t w : Nat} (ht : t < 6) (hw : w < 2) : f_X7_bestTurnOf (nI t) (nI w) M = some (turnF F t w, M) := by
  unfold f_X7_bestTurnOf
  rw [L0_, L1_, m_turn5 hF ht hw 23 1 0 FU rfl (by decide) (by decide)]
  match w, hw with
  | 0, _ => rfl
  | 1, _ => rfl
/-- the best drum of those of c more towns, from u on; 9: none yet -/
def bestD (F : Nat → Int32) (t : Nat) : Nat → Nat → Nat → Nat
  | 0, _, b => b
  | c + 1, u, b => bestD F t c (u + 1) (if u = t then b else if b = 9 then u else if rightF F u t 0 ≤ rightF F b t 0 then b else u)
def drumB (F : Nat → Int32) (k t : Nat) : Int32 := if bestD F t k 0 9 = 9 then -nI 1 else nI (bestD F t k 0 9)
theorem nI_m1 {a : Nat} (h : a < 2 ^ 31) : (nI a = -nI 1) = False := eq_false (fun q => by
  have := congrArg Int32.toInt q
  rw [nI_toInt h] at this
  have h1 : (-nI 1).toInt = -1 := by decide
  omega)
theorem m_drum4 {M : Mem} {F : Nat → Int32} {k : Nat} (hF : Mo M F) (hS : SI F k) {t : Nat} (ht : t < 6) : ∀ (c u b n : Nat), u + c = k → (b = 9 ∨ b < 6) → c < n → f_X7_bestDrumOf_4 n (nI t) (if b = 9 then -nI 1 else nI b) (nI u) M = some (if bestD F t c u b = 9 then -nI 1 else nI (bestD F t c u b), M) := by
  have hk := hS.1
  have h0 : M.1 25 423 = nI k := (hF _ (by omega)).trans hS.2.1
  intro c
  induction c with
  | zero =>
    intro u b n h hb hn
    obtain ⟨n, rfl, -⟩ := suc hn
    rw [f_X7_bestDrumOf_4]
    simp (disch := omega) only [bnd_e, chk_tt, bn_s, bt_s, bt_x, inb_n, nI_clamp, le_t, le_f, lt_t, lt_f, eq_f, nI_add, pk_mul, ne_eq, not_true_eq_false, not_false_eq_true, ↓reduceIte, L0_, L1_, L2_, L3_, L4_, L5_, L6_, L7_, L8_, L9_, L10_, L11_, L12_, L13_, L14_, L15_, L16_, L20_, L22_, L23_, L24_, L25_, L30_, L31_, L32_, L33_, L36_, L40_, L41_, L45_, L48_, L60_, L63_, L64_, L97_, L100_, L107_, L108_, L126_, L150_, L200_, L294_, L366_, L402_, L408_, L414_, L420_, L421_, L422_, L423_, L424_, L425_, L426_, L427_, L428_, L999_, L2568_, L2996_, h0]
    rfl
  | succ c ih =>
    intro u b n h hb hn
    obtain ⟨n, rfl, -⟩ := suc hn
    rw [f_X7_bestDrumOf_4]
    simp (disch := omega) only [bnd_e, chk_tt, bn_s, bt_s, bt_x, inb_n, nI_clamp, le_t, le_f, lt_t, lt_f, eq_f, nI_add, pk_mul, ne_eq, not_true_eq_false, not_false_eq_true, ↓reduceIte, L0_, L1_, L2_, L3_, L4_, L5_, L6_, L7_, L8_, L9_, L10_, L11_, L12_, L13_, L14_, L15_, L16_, L20_, L22_, L23_, L24_, L25_, L30_, L31_, L32_, L33_, L36_, L40_, L41_, L45_, L48_, L60_, L63_, L64_, L97_, L100_, L107_, L108_, L126_, L150_, L200_, L294_, L366_, L402_, L408_, L414_, L420_, L421_, L422_, L423_, L424_, L425_, L426_, L427_, L428_, L999_, L2568_, L2996_, h0, f_X7_bestDrumOf_43, f_X7_bestDrumOf_47, f_X7_bestDrumOf_48]
    simp only [bestD]
    by_cases q : u = t
    · subst q
      simp (disch := omega) only [bnd_e, chk_tt, bn_s, bt_s, bt_x, inb_n, nI_clamp, le_t, le_f, lt_t, lt_f, eq_f, nI_add, pk_mul, ne_eq, not_true_eq_false, not_false_eq_true, ↓reduceIte, L0_, L1_, L2_, L3_, L4_, L5_, L6_, L7_, L8_, L9_, L10_, L11_, L12_, L13_, L14_, L15_, L16_, L20_, L22_, L23_, L24_, L25_, L30_, L31_, L32_, L33_, L36_, L40_, L41_, L45_, L48_, L60_, L63_, L64_, L97_, L100_, L107_, L108_, L126_, L150_, L200_, L294_, L366_, L402_, L408_, L414_, L420_, L421_, L422_, L423_, L424_, L425_, L426_, L427_, L428_, L999_, L2568_, L2996_]
      exact ih (u + 1) b n (by omega) hb (by omega)
    · simp (disch := omega) only [bnd_e, chk_tt, bn_s, bt_s, bt_x, inb_n, nI_clamp, le_t, le_f, lt_t, lt_f, eq_f, nI_add, pk_mul, ne_eq, not_true_eq_false, not_false_eq_true, ↓reduceIte, L0_, L1_, L2_, L3_, L4_, L5_, L6_, L7_, L8_, L9_, L10_, L11_, L12_, L13_, L14_, L15_, L16_, L20_, L22_, L23_, L24_, L25_, L30_, L31_, L32_, L33_, L36_, L40_, L41_, L45_, L48_, L60_, L63_, L64_, L97_, L100_, L107_, L108_, L126_, L150_, L200_, L294_, L366_, L402_, L408_, L414_, L420_, L421_, L422_, L423_, L424_, L425_, L426_, L427_, L428_, L999_, L2568_, L2996_, q]
      by_cases z : b = 9
      · subst z
        simp (disch := omega) only [bnd_e, chk_tt, bn_s, bt_s, bt_x, inb_n, nI_clamp, le_t, le_f, lt_t, lt_f, eq_f, nI_add, pk_mul, ne_eq, not_true_eq_false, not_false_eq_true, ↓reduceIte, L0_, L1_, L2_, L3_, L4_, L5_, L6_, L7_, L8_, L9_, L10_, L11_, L12_, L13_, L14_, L15_, L16_, L20_, L22_, L23_, L24_, L25_, L30_, L31_, L32_, L33_, L36_, L40_, L41_, L45_, L48_, L60_, L63_, L64_, L97_, L100_, L107_, L108_, L126_, L150_, L200_, L294_, L366_, L402_, L408_, L414_, L420_, L421_, L422_, L423_, L424_, L425_, L426_, L427_, L428_, L999_, L2568_, L2996_]
        have := ih (u + 1) u n (by omega) (by omega) (by omega)
        rw [if_neg (by omega)] at this
        exact this
      · rw [if_neg z]
        simp (disch := omega) only [bnd_e, chk_tt, bn_s, bt_s, bt_x, inb_n, nI_clamp, le_t, le_f, lt_t, lt_f, eq_f, nI_add, pk_mul, ne_eq, not_true_eq_false, not_false_eq_true, ↓reduceIte, L0_, L1_, L2_, L3_, L4_, L5_, L6_, L7_, L8_, L9_, L10_, L11_, L12_, L13_, L14_, L15_, L16_, L20_, L22_, L23_, L24_, L25_, L30_, L31_, L32_, L33_, L36_, L40_, L41_, L45_, L48_, L60_, L63_, L64_, L97_, L100_, L107_, L108_, L126_, L150_, L200_, L294_, L366_, L402_, L408_, L414_, L420_, L421_, L422_, L423_, L424_, L425_, L426_, L427_, L428_, L999_, L2568_, L2996_, nI_m1, m_right hF, z]
        by_cases r : rightF F u t 0 ≤ rightF F b t 0
        · rw [if_pos r, if_pos r]
          have := ih (u + 1) b n (by omega) hb (by omega)
          rw [if_neg z] at this
          exact this
        · rw [if_neg r, if_neg r]
          have := ih (u + 1) u n (by omega) (by omega) (by omega)
          rw [if_neg (by omega)] at this
          exact this
theorem m_drumOf {M : Mem} {F : Nat → Int32} {k : Nat} (hF : Mo M F) (hS : SI F k) {t : Nat} (ht : t < 6) : f_X7_bestDrumOf (nI t) M = some (drumB F k t, M) := m_drum4 hF hS ht k 0 9 FU (by omega) (Or.inl rfl) (by have := hS.1; show k < 100000; omega)
