/-! ===== texts: the class reads ===== -/
section ST
variable {s L c m : Nat} {R : Nat → Int32}
theorem stO_24 {x : Int32} : stT (24, false, L, c, m, R) x = none := by unfold stT; rfl
theorem stO_br (h : s ≠ 24) : stT (s, false, L, c, m, R) (nI 40) = some (s, true, 0, 0, 0, R) := by
  unfold stT; dsimp only; rw [if_pos rfl, if_neg h, if_pos rfl]
theorem stO_da (h : s ≠ 24) : stT (s, false, L, c, m, R) (nI 45) = some (s + 1, false, 0, 0, 0, va_up R s (nI 0)) := by
  unfold stT; dsimp only; rw [if_pos rfl, if_neg h, if_neg (by decide), if_pos rfl]
theorem stO_le (h : s ≠ 24) {j : Nat} (hj : j < 12) : stT (s, false, L, c, m, R) (nI (97 + j)) = some (s + 1, false, 0, 0, 0, va_up R s (nI (2 ^ j))) := by
  unfold stT; dsimp only
  rw [if_pos rfl, if_neg h, if_neg (by rw [nI_eq (by omega) (by omega)]; omega), if_neg (by rw [nI_eq (by omega) (by omega)]; omega), ltr_n hj, if_pos hj]
theorem stO_no {x : Int32} (h1 : x ≠ nI 40) (h2 : x ≠ nI 45) (h3 : ltr x = 12) : stT (s, false, L, c, m, R) x = none := by
  unfold stT; dsimp only
  rw [if_pos rfl, if_neg h1, if_neg h2, h3]
  split <;> rfl
theorem stI_cl : stT (s, true, L, c, m, R) (nI 41) = if 2 ≤ c then some (s + 1, false, 0, 0, 0, va_up R s (nI m)) else none := by
  unfold stT; dsimp only; rw [if_neg (by decide), if_pos rfl]
theorem stI_le {j : Nat} (hj : j < 12) : stT (s, true, L, c, m, R) (nI (97 + j)) = if L ≤ j ∧ ¬ (c = 0 ∧ j = 11) then some (s, true, j + 1, c + 1, m ||| 2 ^ j, R) else none := by
  unfold stT; dsimp only
  rw [if_neg (by decide), if_neg (by rw [nI_eq (by omega) (by omega)]; omega), ltr_n hj]
  by_cases q : L ≤ j ∧ ¬ (c = 0 ∧ j = 11)
  · rw [if_pos ⟨hj, q.1, q.2⟩, if_pos q]
  · rw [if_neg (fun e => q ⟨e.2.1, e.2.2⟩), if_neg q]
theorem stI_no {x : Int32} (h1 : x ≠ nI 41) (h3 : ltr x = 12) : stT (s, true, L, c, m, R) x = none := by
  unfold stT; dsimp only
  rw [if_neg (by decide), if_neg h1, h3, if_neg (by omega)]
end ST
def xT : Nat → Nat → Prop := fun c i => ¬ (c = 2 ∧ 3 ≤ i) ∧ c ≠ 4
section XT
variable {M : Mem}
theorem L109_ : (109 : Int32) = nI 109 := rfl
theorem x_isT1 {j : Nat} (hj : j < 12) : f_X5_isTooth (nI (97 + j)) M = some (nI 1, M) := by
  unfold f_X5_isTooth
  simp (disch := omega) only [bnd_e, chk_tt, bn_s, bt_s, bt_x, inb_n, nI_clamp, le_t, le_f, lt_t, lt_f, eq_f, nI_add, pk_mul, ne_eq, not_true_eq_false, not_false_eq_true, ↓reduceIte, L0_, L1_, L2_, L3_, L4_, L5_, L6_, L7_, L8_, L9_, L10_, L11_, L12_, L13_, L14_, L15_, L16_, L20_, L22_, L23_, L24_, L25_, L30_, L31_, L32_, L33_, L36_, L40_, L41_, L45_, L48_, L60_, L63_, L64_, L97_, L100_, L107_, L108_, L126_, L150_, L200_, L294_, L366_, L402_, L408_, L414_, L420_, L421_, L422_, L423_, L424_, L425_, L426_, L427_, L428_, L999_, L2568_, L2996_, L109_, f_X5_isTooth_17, isb1]
theorem x_isT0 {x : Int32} (h : x < nI 97 ∨ nI 109 ≤ x) : f_X5_isTooth x M = some (nI 0, M) := by
  unfold f_X5_isTooth
  rw [show ((97 : Int32)) = nI 97 from rfl, show ((109 : Int32)) = nI 109 from rfl]
  by_cases w : x < nI 97
  · rw [if_pos w]; rfl
  · rw [if_neg w, if_pos (h.resolve_left w)]; rfl
theorem x_end {s : Nat} (hs : s < 24) (h : M.1 2 3 = nI s) (v : Int32) : f_X5_endStep v M = some ((), mw (mw M 4 s v) 2 3 (nI (s + 1))) := by
  unfold f_X5_endStep
  rw [h]
  simp (disch := omega) only [bnd_e, chk_tt, bn_s, bt_s, bt_x, inb_n, nI_clamp, le_t, le_f, lt_t, lt_f, eq_f, nI_add, pk_mul, ne_eq, not_true_eq_false, not_false_eq_true, ↓reduceIte, L0_, L1_, L2_, L3_, L4_, L5_, L6_, L7_, L8_, L9_, L10_, L11_, L12_, L13_, L14_, L15_, L16_, L20_, L22_, L23_, L24_, L25_, L30_, L31_, L32_, L33_, L36_, L40_, L41_, L45_, L48_, L60_, L63_, L64_, L97_, L100_, L107_, L108_, L126_, L150_, L200_, L294_, L366_, L402_, L408_, L414_, L420_, L421_, L422_, L423_, L424_, L425_, L426_, L427_, L428_, L999_, L2568_, L2996_, f_X5_endStep_29, mwn]
  rw [h]
  simp (disch := omega) only [bnd_e, chk_tt, bn_s, bt_s, bt_x, inb_n, nI_clamp, le_t, le_f, lt_t, lt_f, eq_f, nI_add, pk_mul, ne_eq, not_true_eq_false, not_false_eq_true, ↓reduceIte, L0_, L1_, L2_, L3_, L4_, L5_, L6_, L7_, L8_, L9_, L10_, L11_, L12_, L13_, L14_, L15_, L16_, L20_, L22_, L23_, L24_, L25_, L30_, L31_, L32_, L33_, L36_, L40_, L41_, L45_, L48_, L60_, L63_, L64_, L97_, L100_, L107_, L108_, L126_, L150_, L200_, L294_, L366_, L402_, L408_, L414_, L420_, L421_, L422_, L423_, L424_, L425_, L426_, L427_, L428_, L999_, L2568_, L2996_]
/-- a step is ended -/
theorem Tx.end {s L c m : Nat} {o : Bool} {R : Nat → Int32} (h : Tx M (s, o, L, c, m, R)) (hs : s < 24) (v : Int32) (M0 : Mem) (h0 : M0 = mw M 2 4 (nI 0) ∨ (M0 = M ∧ o = false)) : Tx (mw (mw M0 4 s v) 2 3 (nI (s + 1))) (s + 1, false, 0, 0, 0, va_up R s v) := by
  obtain ⟨h1, h2, h3, h4⟩ := h
  refine ⟨by rw [mw_eq], ?_, fun q => (by cases q), fun i hi => ?_⟩
  · rw [mwn (by omega), mwn (by omega)]
    rcases h0 with rfl | ⟨rfl, rfl⟩
    · rw [mw_eq]; rfl
    · exact h2
  · dsimp only at h4 ⊢
    rw [mwn (by omega)]
    by_cases e : i = s
    · subst e; rw [mw_eq, if_pos (by omega), va_up_self]
    · rw [mwn (by omega), va_up_ne _ _ e]
      have : M0.1 4 i = M.1 4 i := by
        rcases h0 with rfl | ⟨rfl, rfl⟩
        · rw [mwn (by omega)]
        · rfl
      rw [this, h4 i hi]
      by_cases q : i < s
      · rw [if_pos q, if_pos (by omega)]
      · rw [if_neg q, if_neg (by omega)]
theorem x_out {s L c m : Nat} {R : Nat → Int32} {x : Int32} (h : Tx M (s, false, L, c, m, R)) (hs : s ≤ 24) :
    (stT (s, false, L, c, m, R) x = none ∧ f_X5_readOutside x M = some (nI 0, M)) ∨ ∃ σ' M', stT (s, false, L, c, m, R) x = some σ' ∧ f_X5_readOutside x M = some (nI 1, M') ∧ Tx M' σ' ∧ ag xT M M' := by
  have h1 : M.1 2 3 = nI s := h.1
  by_cases q : s = 24
  · subst q
    refine Or.inl ⟨stO_24, ?_⟩
    unfold f_X5_readOutside
    rw [h1]
    simp (disch := omega) only [bnd_e, chk_tt, bn_s, bt_s, bt_x, inb_n, nI_clamp, le_t, le_f, lt_t, lt_f, eq_f, nI_add, pk_mul, ne_eq, not_true_eq_false, not_false_eq_true, ↓reduceIte, L0_, L1_, L2_, L3_, L4_, L5_, L6_, L7_, L8_, L9_, L10_, L11_, L12_, L13_, L14_, L15_, L16_, L20_, L22_, L23_, L24_, L25_, L30_, L31_, L32_, L33_, L36_, L40_, L41_, L45_, L48_, L60_, L63_, L64_, L97_, L100_, L107_, L108_, L126_, L150_, L200_, L294_, L366_, L402_, L408_, L414_, L420_, L421_, L422_, L423_, L424_, L425_, L426_, L427_, L428_, L999_, L2568_, L2996_]
  have q' : s < 24 := by omega
  by_cases e1 : x = nI 40
  · subst e1
    refine Or.inr ⟨_, mw (mw M 2 4 (nI 1)) 2 5 (nI 0), stO_br q, ?_, ⟨?_, ?_, fun _ => ?_, fun i hi => ?_⟩, ?_⟩
    · unfold f_X5_readOutside
      rw [h1]
      simp (disch := omega) only [bnd_e, chk_tt, bn_s, bt_s, bt_x, inb_n, nI_clamp, le_t, le_f, lt_t, lt_f, eq_f, nI_add, pk_mul, ne_eq, not_true_eq_false, not_false_eq_true, ↓reduceIte, L0_, L1_, L2_, L3_, L4_, L5_, L6_, L7_, L8_, L9_, L10_, L11_, L12_, L13_, L14_, L15_, L16_, L20_, L22_, L23_, L24_, L25_, L30_, L31_, L32_, L33_, L36_, L40_, L41_, L45_, L48_, L60_, L63_, L64_, L97_, L100_, L107_, L108_, L126_, L150_, L200_, L294_, L366_, L402_, L408_, L414_, L420_, L421_, L422_, L423_, L424_, L425_, L426_, L427_, L428_, L999_, L2568_, L2996_]
    · rw [mwn (by omega), mwn (by omega)]; exact h1
    · rw [mwn (by omega), mw_eq]; rfl
    · rw [mw_eq]
    · rw [mwn (by omega), mwn (by omega)]; exact h.2.2.2 i hi
    · exact (ag.rf.w _ (by unfold xT; omega)).w _ (by unfold xT; omega)
  by_cases e2 : x = nI 45
  · subst e2
    refine Or.inr ⟨_, mw (mw M 4 s (nI 0)) 2 3 (nI (s + 1)), stO_da q, ?_, h.end q' (nI 0) M (Or.inr ⟨rfl, rfl⟩), ?_⟩
    · unfold f_X5_readOutside
      rw [h1]
      simp (disch := omega) only [bnd_e, chk_tt, bn_s, bt_s, bt_x, inb_n, nI_clamp, le_t, le_f, lt_t, lt_f, eq_f, nI_add, pk_mul, ne_eq, not_true_eq_false, not_false_eq_true, ↓reduceIte, L0_, L1_, L2_, L3_, L4_, L5_, L6_, L7_, L8_, L9_, L10_, L11_, L12_, L13_, L14_, L15_, L16_, L20_, L22_, L23_, L24_, L25_, L30_, L31_, L32_, L33_, L36_, L40_, L41_, L45_, L48_, L60_, L63_, L64_, L97_, L100_, L107_, L108_, L126_, L150_, L200_, L294_, L366_, L402_, L408_, L414_, L420_, L421_, L422_, L423_, L424_, L425_, L426_, L427_, L428_, L999_, L2568_, L2996_, eq_f, f_X5_readOutside_42, f_X5_readOutside_59, x_end q' h1]
    · exact (ag.rf.w _ (by unfold xT; omega)).w _ (by unfold xT; omega)
  rcases ltr_cs x with ⟨e3, e4⟩ | ⟨j, hj, rfl⟩
  · refine Or.inl ⟨stO_no e1 e2 e3, ?_⟩
    unfold f_X5_readOutside
    rw [h1]
    simp (disch := omega) only [bnd_e, chk_tt, bn_s, bt_s, bt_x, inb_n, nI_clamp, le_t, le_f, lt_t, lt_f, eq_f, nI_add, pk_mul, ne_eq, not_true_eq_false, not_false_eq_true, ↓reduceIte, L0_, L1_, L2_, L3_, L4_, L5_, L6_, L7_, L8_, L9_, L10_, L11_, L12_, L13_, L14_, L15_, L16_, L20_, L22_, L23_, L24_, L25_, L30_, L31_, L32_, L33_, L36_, L40_, L41_, L45_, L48_, L60_, L63_, L64_, L97_, L100_, L107_, L108_, L126_, L150_, L200_, L294_, L366_, L402_, L408_, L414_, L420_, L421_, L422_, L423_, L424_, L425_, L426_, L427_, L428_, L999_, L2568_, L2996_, e1, e2, x_isT0 e4]
  · refine Or.inr ⟨_, mw (mw M 4 s (nI (2 ^ j))) 2 3 (nI (s + 1)), stO_le q hj, ?_, h.end q' (nI (2 ^ j)) M (Or.inr ⟨rfl, rfl⟩), ?_⟩
    · unfold f_X5_readOutside
      rw [h1]
      simp (disch := omega) only [bnd_e, chk_tt, bn_s, bt_s, bt_x, inb_n, nI_clamp, le_t, le_f, lt_t, lt_f, eq_f, nI_add, pk_mul, ne_eq, not_true_eq_false, not_false_eq_true, ↓reduceIte, L0_, L1_, L2_, L3_, L4_, L5_, L6_, L7_, L8_, L9_, L10_, L11_, L12_, L13_, L14_, L15_, L16_, L20_, L22_, L23_, L24_, L25_, L30_, L31_, L32_, L33_, L36_, L40_, L41_, L45_, L48_, L60_, L63_, L64_, L97_, L100_, L107_, L108_, L126_, L150_, L200_, L294_, L366_, L402_, L408_, L414_, L420_, L421_, L422_, L423_, L424_, L425_, L426_, L427_, L428_, L999_, L2568_, L2996_, eq_f, x_isT1 hj, n10, f_X5_readOutside_42, f_X5_readOutside_59, x_end q' h1]
      rw [show nI (97 + j) - nI 97 = nI j from by rw [pk_sub (by omega)]; congr 1; omega, bit_e, bit_n j hj]
    · exact (ag.rf.w _ (by unfold xT; omega)).w _ (by unfold xT; omega)
theorem x_ins {s L c m : Nat} {R : Nat → Int32} {x : Int32} (h : Tx M (s, true, L, c, m, R)) (hi : TI (s, true, L, c, m, R)) :
    (stT (s, true, L, c, m, R) x = none ∧ f_X5_readInside x M = some (nI 0, M)) ∨ ∃ σ' M', stT (s, true, L, c, m, R) x = some σ' ∧ f_X5_readInside x M = some (nI 1, M') ∧ Tx M' σ' ∧ ag xT M M' := by
  have h1 : M.1 2 3 = nI s := h.1
  have h5 : M.1 2 5 = nI m := h.2.2.1 rfl
  obtain ⟨g1, g2, g3, g4, g5, g6, g7, g8, g9⟩ := hi.2.1 rfl
  dsimp only at g1 g2 g3 g4 g5 g6 g7 g8 g9
  have hm : m < 4096 := Nat.lt_of_lt_of_le g2 (p12 g3)
  have e97 : ∀ j, nI (97 + j) - nI 97 = nI j := fun j => by rw [pk_sub (by omega)]; congr 1; omega
  by_cases e1 : x = nI 41
  · subst e1
    have hp : popJ (nI m) = nI c := by rw [popJ_m ⟨m, hm, rfl⟩, g5]
    by_cases q : 2 ≤ c
    · refine Or.inr ⟨(s + 1, false, 0, 0, 0, va_up R s (nI m)), mw (mw (mw M 2 4 (nI 0)) 4 s (nI m)) 2 3 (nI (s + 1)), ?_, ?_, h.end g1 (nI m) _ (Or.inl rfl), ?_⟩
      · rw [stI_cl, if_pos q]
      · unfold f_X5_readInside
        rw [h5]
        simp (disch := omega) only [bnd_e, chk_tt, bn_s, bt_s, bt_x, inb_n, nI_clamp, le_t, le_f, lt_t, lt_f, eq_f, nI_add, pk_mul, ne_eq, not_true_eq_false, not_false_eq_true, ↓reduceIte, L0_, L1_, L2_, L3_, L4_, L5_, L6_, L7_, L8_, L9_, L10_, L11_, L12_, L13_, L14_, L15_, L16_, L20_, L22_, L23_, L24_, L25_, L30_, L31_, L32_, L33_, L36_, L40_, L41_, L45_, L48_, L60_, L63_, L64_, L97_, L100_, L107_, L108_, L126_, L150_, L200_, L294_, L366_, L402_, L408_, L414_, L420_, L421_, L422_, L423_, L424_, L425_, L426_, L427_, L428_, L999_, L2568_, L2996_, j_bit, hp, mwn, h5, x_end g1 (M := mw M 2 4 (nI 0)) (s := s) (by rw [mwn (by omega)]; exact h1)]
      · exact ((ag.rf.w _ (by unfold xT; omega)).w _ (by unfold xT; omega)).w _ (by unfold xT; omega)
    · refine Or.inl ⟨by rw [stI_cl, if_neg q], ?_⟩
      unfold f_X5_readInside
      rw [h5]
      simp (disch := omega) only [bnd_e, chk_tt, bn_s, bt_s, bt_x, inb_n, nI_clamp, le_t, le_f, lt_t, lt_f, eq_f, nI_add, pk_mul, ne_eq, not_true_eq_false, not_false_eq_true, ↓reduceIte, L0_, L1_, L2_, L3_, L4_, L5_, L6_, L7_, L8_, L9_, L10_, L11_, L12_, L13_, L14_, L15_, L16_, L20_, L22_, L23_, L24_, L25_, L30_, L31_, L32_, L33_, L36_, L40_, L41_, L45_, L48_, L60_, L63_, L64_, L97_, L100_, L107_, L108_, L126_, L150_, L200_, L294_, L366_, L402_, L408_, L414_, L420_, L421_, L422_, L423_, L424_, L425_, L426_, L427_, L428_, L999_, L2568_, L2996_, j_bit, hp, f_X5_readInside_32, x_isT0 (x := nI 41) (Or.inl (by decide))]
  rcases ltr_cs x with ⟨e3, e4⟩ | ⟨j, hj, rfl⟩
  · refine Or.inl ⟨stI_no e1 e3, ?_⟩
    unfold f_X5_readInside
    simp (disch := omega) only [bnd_e, chk_tt, bn_s, bt_s, bt_x, inb_n, nI_clamp, le_t, le_f, lt_t, lt_f, eq_f, nI_add, pk_mul, ne_eq, not_true_eq_false, not_false_eq_true, ↓reduceIte, L0_, L1_, L2_, L3_, L4_, L5_, L6_, L7_, L8_, L9_, L10_, L11_, L12_, L13_, L14_, L15_, L16_, L20_, L22_, L23_, L24_, L25_, L30_, L31_, L32_, L33_, L36_, L40_, L41_, L45_, L48_, L60_, L63_, L64_, L97_, L100_, L107_, L108_, L126_, L150_, L200_, L294_, L366_, L402_, L408_, L414_, L420_, L421_, L422_, L423_, L424_, L425_, L426_, L427_, L428_, L999_, L2568_, L2996_, e1, f_X5_readInside_32, x_isT0 e4]
  · have p2 : 2 ^ j < 2 ^ 12 := Nat.pow_lt_pow_right (by decide) hj
    by_cases q : L ≤ j ∧ ¬ (c = 0 ∧ j = 11)
    · have hmj : m < 2 ^ j := Nat.lt_of_lt_of_le g2 (Nat.pow_le_pow_right (by decide) q.1)
      refine Or.inr ⟨(s, true, j + 1, c + 1, m ||| 2 ^ j, R), mw M 2 5 (nI (m ||| 2 ^ j)), by rw [stI_le hj, if_pos q], ?_, ⟨?_, ?_, fun _ => ?_, fun i hi => ?_⟩, ag.rf.w _ (by unfold xT; omega)⟩
      · unfold f_X5_readInside f_X5_readInside_32
        simp (disch := omega) only [bnd_e, chk_tt, bn_s, bt_s, bt_x, inb_n, nI_clamp, le_t, le_f, lt_t, lt_f, eq_f, nI_add, pk_mul, ne_eq, not_true_eq_false, not_false_eq_true, ↓reduceIte, L0_, L1_, L2_, L3_, L4_, L5_, L6_, L7_, L8_, L9_, L10_, L11_, L12_, L13_, L14_, L15_, L16_, L20_, L22_, L23_, L24_, L25_, L30_, L31_, L32_, L33_, L36_, L40_, L41_, L45_, L48_, L60_, L63_, L64_, L97_, L100_, L107_, L108_, L126_, L150_, L200_, L294_, L366_, L402_, L408_, L414_, L420_, L421_, L422_, L423_, L424_, L425_, L426_, L427_, L428_, L999_, L2568_, L2996_, eq_f, x_isT1 hj, n10, e97, bit_e, bit_n j hj]
        rw [h5]
        by_cases w : m = 0
        · have w' : ¬ j = 11 := fun e => q.2 ⟨by
            by_cases z : L = 0
            · exact g6.mpr z
            · have := g8 (by omega)
              have := Nat.two_pow_pos (L - 1)
              omega, e⟩
          simp (disch := omega) only [bnd_e, chk_tt, bn_s, bt_s, bt_x, inb_n, nI_clamp, le_t, le_f, lt_t, lt_f, eq_f, nI_add, pk_mul, ne_eq, not_true_eq_false, not_false_eq_true, ↓reduceIte, L0_, L1_, L2_, L3_, L4_, L5_, L6_, L7_, L8_, L9_, L10_, L11_, L12_, L13_, L14_, L15_, L16_, L20_, L22_, L23_, L24_, L25_, L30_, L31_, L32_, L33_, L36_, L40_, L41_, L45_, L48_, L60_, L63_, L64_, L97_, L100_, L107_, L108_, L126_, L150_, L200_, L294_, L366_, L402_, L408_, L414_, L420_, L421_, L422_, L423_, L424_, L425_, L426_, L427_, L428_, L999_, L2568_, L2996_, w, eq_f, f_X5_readInside_65, f_X5_readInside_66, h5, nI_or]
        · simp (disch := omega) only [bnd_e, chk_tt, bn_s, bt_s, bt_x, inb_n, nI_clamp, le_t, le_f, lt_t, lt_f, eq_f, nI_add, pk_mul, ne_eq, not_true_eq_false, not_false_eq_true, ↓reduceIte, L0_, L1_, L2_, L3_, L4_, L5_, L6_, L7_, L8_, L9_, L10_, L11_, L12_, L13_, L14_, L15_, L16_, L20_, L22_, L23_, L24_, L25_, L30_, L31_, L32_, L33_, L36_, L40_, L41_, L45_, L48_, L60_, L63_, L64_, L97_, L100_, L107_, L108_, L126_, L150_, L200_, L294_, L366_, L402_, L408_, L414_, L420_, L421_, L422_, L423_, L424_, L425_, L426_, L427_, L428_, L999_, L2568_, L2996_, eq_f, f_X5_readInside_65, f_X5_readInside_66, h5, nI_or]
      · rw [mwn (by omega)]; exact h1
      · rw [mwn (by omega)]; exact h.2.1
      · rw [mw_eq]
      · rw [mwn (by omega)]; exact h.2.2.2 i hi
    · refine Or.inl ⟨by rw [stI_le hj, if_neg q], ?_⟩
      unfold f_X5_readInside f_X5_readInside_32
      simp (disch := omega) only [bnd_e, chk_tt, bn_s, bt_s, bt_x, inb_n, nI_clamp, le_t, le_f, lt_t, lt_f, eq_f, nI_add, pk_mul, ne_eq, not_true_eq_false, not_false_eq_true, ↓reduceIte, L0_, L1_, L2_, L3_, L4_, L5_, L6_, L7_, L8_, L9_, L10_, L11_, L12_, L13_, L14_, L15_, L16_, L20_, L22_, L23_, L24_, L25_, L30_, L31_, L32_, L33_, L36_, L40_, L41_, L45_, L48_, L60_, L63_, L64_, L97_, L100_, L107_, L108_, L126_, L150_, L200_, L294_, L366_, L402_, L408_, L414_, L420_, L421_, L422_, L423_, L424_, L425_, L426_, L427_, L428_, L999_, L2568_, L2996_, eq_f, x_isT1 hj, n10, e97, bit_e, bit_n j hj]
      rw [h5]
      by_cases w : L ≤ j
      · have w' : c = 0 ∧ j = 11 := Classical.not_not.mp (fun e => q ⟨w, e⟩)
        obtain ⟨w1, rfl⟩ := w'
        have w2 : m = 0 := g7 (g6.mp w1)
        subst w2
        simp (disch := omega) only [bnd_e, chk_tt, bn_s, bt_s, bt_x, inb_n, nI_clamp, le_t, le_f, lt_t, lt_f, eq_f, nI_add, pk_mul, ne_eq, not_true_eq_false, not_false_eq_true, ↓reduceIte, L0_, L1_, L2_, L3_, L4_, L5_, L6_, L7_, L8_, L9_, L10_, L11_, L12_, L13_, L14_, L15_, L16_, L20_, L22_, L23_, L24_, L25_, L30_, L31_, L32_, L33_, L36_, L40_, L41_, L45_, L48_, L60_, L63_, L64_, L97_, L100_, L107_, L108_, L126_, L150_, L200_, L294_, L366_, L402_, L408_, L414_, L420_, L421_, L422_, L423_, L424_, L425_, L426_, L427_, L428_, L999_, L2568_, L2996_, f_X5_readInside_66, f_X5_readInside_79, h5]
      · have w3 : 2 ^ j ≤ m := Nat.le_trans (Nat.pow_le_pow_right (by decide) (by omega)) (g8 (by omega))
        have w4 : m ≠ 0 := by have := Nat.two_pow_pos j; omega
        simp (disch := omega) only [bnd_e, chk_tt, bn_s, bt_s, bt_x, inb_n, nI_clamp, le_t, le_f, lt_t, lt_f, eq_f, nI_add, pk_mul, ne_eq, not_true_eq_false, not_false_eq_true, ↓reduceIte, L0_, L1_, L2_, L3_, L4_, L5_, L6_, L7_, L8_, L9_, L10_, L11_, L12_, L13_, L14_, L15_, L16_, L20_, L22_, L23_, L24_, L25_, L30_, L31_, L32_, L33_, L36_, L40_, L41_, L45_, L48_, L60_, L63_, L64_, L97_, L100_, L107_, L108_, L126_, L150_, L200_, L294_, L366_, L402_, L408_, L414_, L420_, L421_, L422_, L423_, L424_, L425_, L426_, L427_, L428_, L999_, L2568_, L2996_, eq_f, f_X5_readInside_65, f_X5_readInside_66, f_X5_readInside_79, h5]
end XT
