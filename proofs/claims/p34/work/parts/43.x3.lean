/-! ===== the class: rows and lands copied ===== -/
theorem x_copy {M : Mem} {a b n : Nat} (ha : kd a = 8) (hb : kd b = 8) (na : al a = n) (nb : al b = n) (hn : n ≤ 64) : ∃ M', f_X6_copyRow a b M = some ((), M') ∧ ag (fun c _ => c ≠ b) M M' ∧ ∀ i, i < n → M'.1 b i = M.1 a i := by
  refine ⟨mcp M a b (nI n), ?_, ⟨rfl, fun c i q => ?_⟩, fun i hi => ?_⟩
  · unfold f_X6_copyRow
    rw [na, nb]
    simp (disch := omega) only [bnd_e, chk_tt, bn_s, bt_s, bt_x, inb_n, nI_clamp, le_t, le_f, lt_t, lt_f, eq_f, nI_add, pk_mul, ne_eq, not_true_eq_false, not_false_eq_true, ↓reduceIte, L0_, L1_, L2_, L3_, L4_, L5_, L6_, L7_, L8_, L9_, L10_, L11_, L12_, L13_, L14_, L15_, L16_, L20_, L22_, L23_, L24_, L25_, L30_, L31_, L32_, L33_, L36_, L40_, L41_, L45_, L48_, L60_, L63_, L64_, L97_, L100_, L107_, L108_, L126_, L150_, L200_, L294_, L366_, L402_, L408_, L414_, L420_, L421_, L422_, L423_, L424_, L425_, L426_, L427_, L428_, L999_, L2568_, L2996_, kb_t ha, kb_t hb, ofN]
    simp (disch := omega) only [bnd_e, chk_tt, bn_s, bt_s, bt_x, inb_n, nI_clamp, le_t, le_f, lt_t, lt_f, eq_f, nI_add, pk_mul, ne_eq, not_true_eq_false, not_false_eq_true, ↓reduceIte, L0_, L1_, L2_, L3_, L4_, L5_, L6_, L7_, L8_, L9_, L10_, L11_, L12_, L13_, L14_, L15_, L16_, L20_, L22_, L23_, L24_, L25_, L30_, L31_, L32_, L33_, L36_, L40_, L41_, L45_, L48_, L60_, L63_, L64_, L97_, L100_, L107_, L108_, L126_, L150_, L200_, L294_, L366_, L402_, L408_, L414_, L420_, L421_, L422_, L423_, L424_, L425_, L426_, L427_, L428_, L999_, L2568_, L2996_, Nat.le_refl, decide_true, decide_false, Bool.and_self, Bool.not_false]
  · show (if c = b then _ else _) = _
    rw [if_neg q]
  · show (if b = b then va_cpy (M.1 a) (M.1 b) 0 0 (nI n).toNatClampNeg i else _) = _
    rw [if_pos rfl, nI_clamp (by omega)]
    show (if 0 ≤ i ∧ i < 0 + n then M.1 a (0 + (i - 0)) else _) = _
    rw [if_pos ⟨Nat.zero_le _, by omega⟩, Nat.zero_add, Nat.sub_zero]
/-- the places of a town that are its numbers -/
def slk (d s : Nat) : Prop := (d = 0 ∧ (s = 0 ∨ s = 4 ∨ s = 5 ∨ s = 6)) ∨ (d = 1 ∧ s < 24) ∨ (d = 2 ∧ s < 24) ∨ (d = 3 ∧ s < 12)
theorem x_tfT {M : Mem} {a b : Nat} (ha : kd a = 2) (hb : kd b = 2) (hab : a + 4 ≤ b ∨ b + 4 ≤ a) : ∃ M', f_X3_takeFrom a b M = some ((), M') ∧ ag (fun c _ => ¬ (a ≤ c ∧ c < a + 4)) M M' ∧ ∀ d s, slk d s → M'.1 (a + d) s = M.1 (b + d) s := by
  obtain ⟨M1, e1, a1, h1⟩ := x_copy (M := mw M a 0 (M.1 b 0)) (kTd hb) (kTd ha) (aTd hb) (aTd ha) (by omega)
  obtain ⟨M2, e2, a2, h2⟩ := x_copy (M := M1) (kTt hb) (kTt ha) (aTt hb) (aTt ha) (by omega)
  obtain ⟨M3, e3, a3, h3⟩ := x_copy (M := M2) (kTw hb) (kTw ha) (aTw hb) (aTw ha) (by omega)
  refine ⟨mw (mw (mw M3 a 4 (M3.1 b 4)) a 5 (M3.1 b 5)) a 6 (M3.1 b 6), ?_, ?_, ?_⟩
  · unfold f_X3_takeFrom
    simp (disch := omega) only [bnd_e, chk_tt, bn_s, bt_s, bt_x, inb_n, nI_clamp, le_t, le_f, lt_t, lt_f, eq_f, nI_add, pk_mul, ne_eq, not_true_eq_false, not_false_eq_true, ↓reduceIte, L0_, L1_, L2_, L3_, L4_, L5_, L6_, L7_, L8_, L9_, L10_, L11_, L12_, L13_, L14_, L15_, L16_, L20_, L22_, L23_, L24_, L25_, L30_, L31_, L32_, L33_, L36_, L40_, L41_, L45_, L48_, L60_, L63_, L64_, L97_, L100_, L107_, L108_, L126_, L150_, L200_, L294_, L366_, L402_, L408_, L414_, L420_, L421_, L422_, L423_, L424_, L425_, L426_, L427_, L428_, L999_, L2568_, L2996_, kb_t ha, kb_t hb, e1, e2, e3]
    simp (disch := omega) only [mwn]
  · exact (((((((ag.rf.w _ (by omega)).tr (a1.mono (fun c _ q => by omega))).tr (a2.mono (fun c _ q => by omega))).tr (a3.mono (fun c _ q => by omega))).w _ (by omega)).w _ (by omega)).w _ (by omega))
  · intro d s h
    rcases h with ⟨rfl, h⟩ | ⟨rfl, h⟩ | ⟨rfl, h⟩ | ⟨rfl, h⟩
    · have g : ∀ i, M3.1 b i = M.1 b i := fun i => by rw [a3.2 b i (by omega), a2.2 b i (by omega), a1.2 b i (by omega)]; simp (disch := omega) only [mwn]
      rcases h with rfl | rfl | rfl | rfl
      · simp (disch := omega) only [mwn, Nat.add_zero]
        rw [a3.2 a 0 (by omega), a2.2 a 0 (by omega), a1.2 a 0 (by omega), mw_eq]
      · simp (disch := omega) only [mwn, mw_eq, Nat.add_zero]; rw [g]
      · simp (disch := omega) only [mwn, mw_eq, Nat.add_zero]; rw [g]
      · simp (disch := omega) only [mwn, mw_eq, Nat.add_zero]; rw [g]
    · simp (disch := omega) only [mwn]
      rw [a3.2 _ _ (by omega), a2.2 _ _ (by omega), h1 s h]; simp (disch := omega) only [mwn]
    · simp (disch := omega) only [mwn]
      rw [a3.2 _ _ (by omega), h2 s h, a1.2 _ _ (by omega)]; simp (disch := omega) only [mwn]
    · simp (disch := omega) only [mwn]
      rw [h3 s h, a2.2 _ _ (by omega), a1.2 _ _ (by omega)]; simp (disch := omega) only [mwn]
theorem lcs : ∀ i, i < 428 → (lc i = 0 ∧ (lsl i = 1 ∨ lsl i = 4 ∨ lsl i = 5 ∨ lsl i = 6 ∨ lsl i = 7)) ∨ (lc i = 2 ∧ lsl i < 3) ∨ (4 ≤ lc i ∧ lc i < 10 ∧ lsl i < 6) ∨ (10 ≤ lc i ∧ lc i < 34 ∧ (((lc i - 10) % 4 = 0 ∧ (lsl i = 0 ∨ lsl i = 4 ∨ lsl i = 5 ∨ lsl i = 6)) ∨ ((lc i - 10) % 4 = 1 ∧ lsl i < 24) ∨ ((lc i - 10) % 4 = 2 ∧ lsl i < 24) ∨ ((lc i - 10) % 4 = 3 ∧ lsl i < 12))) := by decide +kernel
theorem x_tfL2 {L L' : Nat} {F : Nat → Int32} (hL : isL L) (hL' : isL L') (hne : L ≠ L') : ∀ (c j n : Nat) (M : Mem), j + c = 6 → c < n → LR M L' F → (∀ i, i < 428 → (4 ≤ lc i ∧ lc i < 4 + j) ∨ (10 ≤ lc i ∧ lc i < 10 + 4 * j) → M.1 (L + lc i) (lsl i) = F i) →
    ∃ M', f_X0_takeFrom_2 n L L' (nI j) M = some ((), M') ∧ ag (fun c _ => ¬ (L ≤ c ∧ c < L + 34)) M M' ∧ LR M' L F := by
  have hd : L + 34 ≤ L' ∨ L' + 34 ≤ L := by
    obtain ⟨a, ha, rfl⟩ := hL
    obtain ⟨b, hb, rfl⟩ := hL'
    omega
  intro c
  induction c with
  | zero =>
    intro j n M h hn hR hQ
    obtain ⟨n, rfl, -⟩ := suc hn
    obtain rfl : j = 6 := by omega
    obtain ⟨M1, e1, a1, h1⟩ := x_copy (M := mw M L 1 (M.1 L' 1)) (a := L' + 2) (b := L + 2) (kLse (kL hL')) (kLse (kL hL)) (alS hL') (alS hL) (by omega)
    refine ⟨mw (mw (mw (mw M1 L 4 (M1.1 L' 4)) L 5 (M1.1 L' 5)) L 6 (M1.1 L' 6)) L 7 (M1.1 L' 7), ?_, ?_, ?_⟩
    · rw [f_X0_takeFrom_2]
      simp (disch := omega) only [bnd_e, chk_tt, bn_s, bt_s, bt_x, inb_n, nI_clamp, le_t, le_f, lt_t, lt_f, eq_f, nI_add, pk_mul, ne_eq, not_true_eq_false, not_false_eq_true, ↓reduceIte, L0_, L1_, L2_, L3_, L4_, L5_, L6_, L7_, L8_, L9_, L10_, L11_, L12_, L13_, L14_, L15_, L16_, L20_, L22_, L23_, L24_, L25_, L30_, L31_, L32_, L33_, L36_, L40_, L41_, L45_, L48_, L60_, L63_, L64_, L97_, L100_, L107_, L108_, L126_, L150_, L200_, L294_, L366_, L402_, L408_, L414_, L420_, L421_, L422_, L423_, L424_, L425_, L426_, L427_, L428_, L999_, L2568_, L2996_, kbL hL, kbL hL', e1]
      simp (disch := omega) only [mwn]
    · exact ((((((ag.rf.w _ (by omega)).tr (a1.mono (fun c _ q => by omega))).w _ (by omega)).w _ (by omega)).w _ (by omega)).w _ (by omega))
    · intro i hi
      have g : ∀ s, M1.1 L' s = M.1 L' s := fun s => by rw [a1.2 _ _ (by omega)]; simp (disch := omega) only [mwn]
      rcases lcs i hi with ⟨q, q'⟩ | ⟨q, q'⟩ | ⟨q, q', q''⟩ | ⟨q, q', q''⟩
      · rw [← hR i hi, q]
        rcases q' with e | e | e | e | e <;> rw [e]
        · simp (disch := omega) only [mwn, Nat.add_zero]; rw [a1.2 _ _ (by omega), mw_eq]
        · simp (disch := omega) only [mwn, mw_eq, Nat.add_zero]; rw [g]
        · simp (disch := omega) only [mwn, mw_eq, Nat.add_zero]; rw [g]
        · simp (disch := omega) only [mwn, mw_eq, Nat.add_zero]; rw [g]
        · simp (disch := omega) only [mwn, mw_eq, Nat.add_zero]; rw [g]
      · rw [← hR i hi, q]
        simp (disch := omega) only [mwn]
        rw [h1 _ q']
        simp (disch := omega) only [mwn]
      · simp (disch := omega) only [mwn]
        rw [a1.2 _ _ (by omega), mwn (by omega)]
        exact hQ i hi (Or.inl ⟨q, by omega⟩)
      · simp (disch := omega) only [mwn]
        rw [a1.2 _ _ (by omega), mwn (by omega)]
        exact hQ i hi (Or.inr ⟨q, by omega⟩)
  | succ c ih =>
    intro j n M h hn hR hQ
    obtain ⟨n, rfl, -⟩ := suc hn
    have hj : j < 6 := by omega
    obtain ⟨M1, e1, a1, h1⟩ := x_tfT (M := M) (a := tc L j) (b := tc L' j) (kT hL hj) (kT hL' hj) (by unfold tc; omega)
    obtain ⟨M2, e2, a2, h2⟩ := x_copy (M := M1) (a := rc L' j) (b := rc L j) (kR hL' hj) (kR hL hj) (alR hL' hj) (alR hL hj) (by omega)
    have a12 : ag (fun c _ => ¬ (L ≤ c ∧ c < L + 34)) M M2 := (a1.mono (fun c _ q => by unfold tc; omega)).tr (a2.mono (fun c _ q => by unfold rc; omega))
    obtain ⟨M3, e3, a3, h3⟩ := ih (j + 1) n M2 (by omega) (by omega) (hR.ag a12 (fun c i q1 q2 => by omega)) (by
      intro i hi q
      by_cases z : (4 ≤ lc i ∧ lc i < 4 + j) ∨ (10 ≤ lc i ∧ lc i < 10 + 4 * j)
      · rw [a2.2 _ _ (by unfold rc; omega), a1.2 _ _ (by unfold tc; omega)]
        exact hQ i hi z
      · rcases lcs i hi with ⟨p, p'⟩ | ⟨p, p'⟩ | ⟨p, p', p''⟩ | ⟨p, p', p''⟩
        · omega
        · omega
        · have e : L + lc i = rc L j := by unfold rc; omega
          rw [e, h2 _ p'', a1.2 _ _ (by unfold rc tc; omega), ← hR i hi, show L' + lc i = rc L' j by unfold rc at e ⊢; omega]
        · have e : L + lc i = tc L j + (lc i - 10) % 4 := by unfold tc; omega
          rw [e, a2.2 _ _ (by unfold rc tc; omega), h1 _ _ (by unfold slk; omega), ← hR i hi, show L' + lc i = tc L' j + (lc i - 10) % 4 by unfold tc at e ⊢; omega])
    refine ⟨M3, ?_, a12.tr a3, h3⟩
    rw [f_X0_takeFrom_2]
    simp (disch := omega) only [bnd_e, chk_tt, bn_s, bt_s, bt_x, inb_n, nI_clamp, le_t, le_f, lt_t, lt_f, eq_f, nI_add, pk_mul, ne_eq, not_true_eq_false, not_false_eq_true, ↓reduceIte, L0_, L1_, L2_, L3_, L4_, L5_, L6_, L7_, L8_, L9_, L10_, L11_, L12_, L13_, L14_, L15_, L16_, L20_, L22_, L23_, L24_, L25_, L30_, L31_, L32_, L33_, L36_, L40_, L41_, L45_, L48_, L60_, L63_, L64_, L97_, L100_, L107_, L108_, L126_, L150_, L200_, L294_, L366_, L402_, L408_, L414_, L420_, L421_, L422_, L423_, L424_, L425_, L426_, L427_, L428_, L999_, L2568_, L2996_, kbL hL, kbL hL', tw_c, rw_c, e1, e2]
    exact e3
theorem x_tfL {M : Mem} {L L' : Nat} {F : Nat → Int32} (hL : isL L) (hL' : isL L') (hne : L ≠ L') (h : LR M L' F) : ∃ M', f_X0_takeFrom L L' M = some ((), M') ∧ ag (fun c _ => ¬ (L ≤ c ∧ c < L + 34)) M M' ∧ LR M' L F :=
  x_tfL2 hL hL' hne 6 0 FU M rfl (by decide) h (fun i _ q => by omega)
