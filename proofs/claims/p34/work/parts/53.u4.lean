/-! ===== lend, repay ===== -/
section LE
variable {M : Mem} {F : Nat → Int32} {k : Nat}
theorem x_cg0 {c : Int32} (h : c < nI 1 ∨ nI 200 < c) : f_X6_checkGiven c M = some (.inr exA, M) := by
  unfold f_X6_checkGiven
  rw [show ((1 : Int32)) = nI 1 from rfl, show ((200 : Int32)) = nI 200 from rfl]
  by_cases w : c < nI 1
  · rw [if_pos w]; rfl
  · rw [if_neg w, if_neg (Int32.not_le.mpr (h.resolve_left w))]; rfl
theorem x_cg1 {c : Int32} (h : ¬ (c < nI 1 ∨ nI 200 < c)) : f_X6_checkGiven c M = some (.inl (), M) := by
  unfold f_X6_checkGiven
  rw [show ((1 : Int32)) = nI 1 from rfl, show ((200 : Int32)) = nI 200 from rfl]
  rw [if_neg (fun e => h (Or.inl e)), if_pos (Int32.not_lt.mp (fun e => h (Or.inr e)))]
def goes (F : Nat → Int32) (t u : Nat) (c : Int32) : Prop := c ≤ F t ∧ F u + c ≤ F 422
theorem x_cb1 (hF : LR M 34 F) {t u : Nat} (ht : t < 6) (hu : u < 6) {c : Int32} (h : goes F t u c) : f_X6_checkBoxes (nI t) (nI u) c M = some (.inl (), M) := by
  unfold f_X6_checkBoxes
  simp (disch := omega) only [bnd_e, chk_tt, bn_s, bt_s, bt_x, inb_n, nI_clamp, le_t, le_f, lt_t, lt_f, eq_f, nI_add, pk_mul, ne_eq, not_true_eq_false, not_false_eq_true, ↓reduceIte, L0_, L1_, L2_, L3_, L4_, L5_, L6_, L7_, L8_, L9_, L10_, L11_, L12_, L13_, L14_, L15_, L16_, L20_, L22_, L23_, L24_, L25_, L30_, L31_, L32_, L33_, L36_, L40_, L41_, L45_, L48_, L60_, L63_, L64_, L97_, L100_, L107_, L108_, L126_, L150_, L200_, L294_, L366_, L402_, L408_, L414_, L420_, L421_, L422_, L423_, L424_, L425_, L426_, L427_, L428_, L999_, L2568_, L2996_, tw_35]
  rw [hF.box ht, hF.box hu, show M.1 36 2 = F 422 from hF.set2, if_pos h.1, if_pos h.2]
theorem x_cb0 (hF : LR M 34 F) {t u : Nat} (ht : t < 6) (hu : u < 6) {c : Int32} (h : ¬ goes F t u c) : f_X6_checkBoxes (nI t) (nI u) c M = some (.inr exS, M) := by
  unfold f_X6_checkBoxes
  simp (disch := omega) only [bnd_e, chk_tt, bn_s, bt_s, bt_x, inb_n, nI_clamp, le_t, le_f, lt_t, lt_f, eq_f, nI_add, pk_mul, ne_eq, not_true_eq_false, not_false_eq_true, ↓reduceIte, L0_, L1_, L2_, L3_, L4_, L5_, L6_, L7_, L8_, L9_, L10_, L11_, L12_, L13_, L14_, L15_, L16_, L20_, L22_, L23_, L24_, L25_, L30_, L31_, L32_, L33_, L36_, L40_, L41_, L45_, L48_, L60_, L63_, L64_, L97_, L100_, L107_, L108_, L126_, L150_, L200_, L294_, L366_, L402_, L408_, L414_, L420_, L421_, L422_, L423_, L424_, L425_, L426_, L427_, L428_, L999_, L2568_, L2996_, tw_35]
  rw [hF.box ht, hF.box hu, show M.1 36 2 = F 422 from hF.set2]
  by_cases w : c ≤ F t
  · rw [if_pos w, if_neg (fun e => h ⟨w, e⟩)]
  · rw [if_neg w]
def carF (F : Nat → Int32) (t u : Nat) (c : Int32) : Nat → Int32 := va_up (va_up F t (F t - c)) u (F u + c)
theorem SI.car (h : SI F k) {t u : Nat} (ht : t < 6) (hu : u < 6) (c : Int32) : SI (carF F t u c) k := (h.up (by omega) (by omega) (by omega) (by omega)).up (by omega) (by omega) (by omega) (by omega)
theorem carF_o {t u i : Nat} {c : Int32} (ht : t < 6) (hu : u < 6) (hi : 6 ≤ i) : carF F t u c i = F i := by
  unfold carF
  rw [va_up_ne _ _ (by omega), va_up_ne _ _ (by omega)]
theorem JX.car {n l : Nat} {Sv : Nat → Nat → Int32} {B : Nat → Int32} (h : JX M F n Sv l B) {t u : Nat} (ht : t < 6) (hu : u < 6) (e : t ≠ u) (c : Int32) : ∃ M1, f_X0_carry 34 (nI t) (nI u) c M = some ((), M1) ∧ JX M1 (carF F t u c) n Sv l B ∧ ∀ c i, aX c i → M1.1 c i = M.1 c i := by
  have x2 := (h.w (F t - c) t (by omega) (lc_box ht).1 (lc_box ht).2).w (F u + c) u (by omega) (lc_box hu).1 (lc_box hu).2
  refine ⟨_, ?_, x2, fun c i q => ?_⟩
  · unfold f_X0_carry
    simp (disch := omega) only [bnd_e, chk_tt, bn_s, bt_s, bt_x, inb_n, nI_clamp, le_t, le_f, lt_t, lt_f, eq_f, nI_add, pk_mul, ne_eq, not_true_eq_false, not_false_eq_true, ↓reduceIte, L0_, L1_, L2_, L3_, L4_, L5_, L6_, L7_, L8_, L9_, L10_, L11_, L12_, L13_, L14_, L15_, L16_, L20_, L22_, L23_, L24_, L25_, L30_, L31_, L32_, L33_, L36_, L40_, L41_, L45_, L48_, L60_, L63_, L64_, L97_, L100_, L107_, L108_, L126_, L150_, L200_, L294_, L366_, L402_, L408_, L414_, L420_, L421_, L422_, L423_, L424_, L425_, L426_, L427_, L428_, L999_, L2568_, L2996_, kbL isL34, tw_c]
    rw [h.1.1.box ht, mwn (by unfold tc; omega), h.1.1.box hu]
  · rw [mwn (by unfold aX tc at *; omega), mwn (by unfold aX tc at *; omega)]
end LE
