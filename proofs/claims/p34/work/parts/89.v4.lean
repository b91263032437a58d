/-! ===== the text: append, learn ===== -/
section LN
variable {M : Mem} {F : Nat → Int32} {k n l t : Nat} {Sv : Nat → Nat → Int32} {B : Nat → Int32}
theorem y_app (hX : JX M F n Sv l B) (hl : l < 60) {c : Nat} (h1 : 33 ≤ c) (h2 : c ≤ 126) : ∃ M1, f_X6_append (nI c) M = some (.inl (nI (l + 1)), M1) ∧ JX M1 F n Sv (l + 1) (va_up B l (nI c)) := by
  refine ⟨mw (mw M 3 l (nI c)) 2 1 (nI (l + 1)), ?_, ⟨hX.1.cp (fun c i w => by rw [mwn (by omega), mwn (by omega)]), by rw [mw_eq], fun i hi => ?_⟩⟩
  · unfold f_X6_append
    rw [hX.2.1]
    simp (disch := omega) only [bnd_e, chk_tt, bn_s, bt_s, bt_x, inb_n, nI_clamp, le_t, le_f, lt_t, lt_f, eq_f, nI_add, pk_mul, ne_eq, not_true_eq_false, not_false_eq_true, ↓reduceIte, L0_, L1_, L2_, L3_, L4_, L5_, L6_, L7_, L8_, L9_, L10_, L11_, L12_, L13_, L14_, L15_, L16_, L20_, L22_, L23_, L24_, L25_, L30_, L31_, L32_, L33_, L36_, L40_, L41_, L45_, L48_, L60_, L63_, L64_, L97_, L100_, L107_, L108_, L126_, L150_, L200_, L294_, L366_, L402_, L408_, L414_, L420_, L421_, L422_, L423_, L424_, L425_, L426_, L427_, L428_, L999_, L2568_, L2996_, mwn, hX.2.1, mw_eq]
  · rw [mwn (by omega)]
    by_cases e : i = l
    · subst e; rw [mw_eq, va_up_self]
    · rw [mwn (by omega), va_up_ne _ _ e]; exact hX.2.2 i (by omega)
theorem y_learn1 (hX : JX M F n Sv l B) (hS : SI F k) (hl : l ≤ 60) (ht : t < k) {σ : RS} (er : (rnT B l 0 s0T).1 = some σ) (z : σ.2.1 = false ∧ 0 < σ.1) : ∃ M1, f_X6_learn (nI t) M = some (.inl (pinsF (putR F (150 + 24 * t) 24 (lnD σ)) 150 t), M1) ∧ JX M1 (putR F (150 + 24 * t) 24 (lnD σ)) (nx n) (pushS F n Sv) 0 B ∧ SI (putR F (150 + 24 * t) 24 (lnD σ)) k := by
  have hk := hS.1
  have hF := hX.1.1
  have h6 : t < 6 := by omega
  obtain ⟨Mx, ex, ax, qx⟩ := x_readAll (B := B) hl hX.2.1 hX.2.2
  have hlx : Mx.1 2 1 = nI l := by rw [ax.2 _ _ (by unfold xT; omega)]; exact hX.2.1
  obtain ⟨rn1, rn2⟩ := rnT_in (B := B) l 0 s0T TI0
  obtain ⟨hI, h3⟩ := rn1 σ er
  have h4 := hI.1
  have tx := qx σ er
  have hD : ∀ s, s < 24 → msk (lnD σ s) := fun s hs => by
    unfold lnD
    by_cases q : s < σ.1
    · rw [if_pos q]; exact hI.2.2 s q
    · rw [if_neg q]; exact msk0
  have s2 : SI (putR F (150 + 24 * t) 24 (lnD σ)) k := hS.put (fun s hs _ _ => hD s hs) (by omega)
  have hXx := hX.q (xT_Q ax)
  obtain ⟨M1, e1, x1, a1⟩ := hXx.save
  obtain ⟨M2, e2, a2, h2⟩ := x_copy (M := M1) (a := 4) (b := tc 34 t + 2) (n := 24) rfl (kTt (kT isL34 h6)) rfl (alU isL34 h6) (by omega)
  have hc : 44 ≤ tc 34 t ∧ tc 34 t + 3 < 68 := by unfold tc; omega
  have r1 : LR M2 34 (putR F (150 + 24 * t) 24 (lnD σ)) := LR.putT x1.1.1 h6 (fun s hs => by rw [h2 s hs, a1.2 _ _ (by unfold xSv; omega)]; exact tx.2.2.2 s hs) (fun c i _ _ q => a2.2 c i q)
  have x2 : JX M2 (putR F (150 + 24 * t) 24 (lnD σ)) (nx n) (pushS F n Sv) l B := x1.set r1 (fun c i q => a2.2 c i (by omega))
  have x3 : JX (mw M2 2 1 (nI 0)) (putR F (150 + 24 * t) 24 (lnD σ)) (nx n) (pushS F n Sv) 0 B := ⟨x2.1.cp (fun c i q => mwn (by omega)), by rw [mw_eq], fun i hi => by omega⟩
  refine ⟨_, ?_, x3, s2⟩
  have t3 : Mx.1 2 3 = nI σ.1 := tx.1
  have t4 : Mx.1 2 4 = nI 0 := by rw [tx.2.1, z.1]; rfl
  have hz := z.2
  have e5 : f_X5_isComplete Mx = some (nI 1, Mx) := by
    unfold f_X5_isComplete
    rw [t3, t4]
    simp (disch := omega) only [bnd_e, chk_tt, bn_s, bt_s, bt_x, inb_n, nI_clamp, le_t, le_f, lt_t, lt_f, eq_f, nI_add, pk_mul, ne_eq, not_true_eq_false, not_false_eq_true, ↓reduceIte, L0_, L1_, L2_, L3_, L4_, L5_, L6_, L7_, L8_, L9_, L10_, L11_, L12_, L13_, L14_, L15_, L16_, L20_, L22_, L23_, L24_, L25_, L30_, L31_, L32_, L33_, L36_, L40_, L41_, L45_, L48_, L60_, L63_, L64_, L97_, L100_, L107_, L108_, L126_, L150_, L200_, L294_, L366_, L402_, L408_, L414_, L420_, L421_, L422_, L423_, L424_, L425_, L426_, L427_, L428_, L999_, L2568_, L2996_, f_X5_isComplete_19, isb1]
  unfold f_X6_learn
  rw [x_ct1 hF hS ht, bt_s, ex, bn_s, hlx, h3, if_neg (by rw [nI_ltI (by omega) (by omega)]; omega), e5, bn_s, if_neg (show ¬ nI 1 = 0 by decide), e1, bn_s]
  simp (disch := omega) only [bnd_e, chk_tt, bn_s, bt_s, bt_x, inb_n, nI_clamp, le_t, le_f, lt_t, lt_f, eq_f, nI_add, pk_mul, ne_eq, not_true_eq_false, not_false_eq_true, ↓reduceIte, L0_, L1_, L2_, L3_, L4_, L5_, L6_, L7_, L8_, L9_, L10_, L11_, L12_, L13_, L14_, L15_, L16_, L20_, L22_, L23_, L24_, L25_, L30_, L31_, L32_, L33_, L36_, L40_, L41_, L45_, L48_, L60_, L63_, L64_, L97_, L100_, L107_, L108_, L126_, L150_, L200_, L294_, L366_, L402_, L408_, L414_, L420_, L421_, L422_, L423_, L424_, L425_, L426_, L427_, L428_, L999_, L2568_, L2996_, tw_35, e2]
  rw [x_tune x3.1.1 isL34 s2 h6]
  simp (disch := omega) only [bnd_e, chk_tt, bn_s, bt_s, bt_x, inb_n, nI_clamp, le_t, le_f, lt_t, lt_f, eq_f, nI_add, pk_mul, ne_eq, not_true_eq_false, not_false_eq_true, ↓reduceIte, L0_, L1_, L2_, L3_, L4_, L5_, L6_, L7_, L8_, L9_, L10_, L11_, L12_, L13_, L14_, L15_, L16_, L20_, L22_, L23_, L24_, L25_, L30_, L31_, L32_, L33_, L36_, L40_, L41_, L45_, L48_, L60_, L63_, L64_, L97_, L100_, L107_, L108_, L126_, L150_, L200_, L294_, L366_, L402_, L408_, L414_, L420_, L421_, L422_, L423_, L424_, L425_, L426_, L427_, L428_, L999_, L2568_, L2996_]
theorem y_learnI (hX : JX M F n Sv l B) (hS : SI F k) {a : Int32} (ha : inb a k = false) : f_X6_learn a M = some (.inr exI, M) := by
  unfold f_X6_learn
  rw [x_ct0 hX.1.1 hS ha, bt_x]
/-- nothing in the buffer is no tune -/
theorem y_learnA (hX : JX M F n Sv 0 B) (hS : SI F k) (ht : t < k) : ∃ M1, f_X6_learn (nI t) M = some (.inr exA, M1) ∧ JX M1 F n Sv 0 B := by
  obtain ⟨Mx, ex, ax, qx⟩ := x_readAll (B := B) (l := 0) (by omega) hX.2.1 hX.2.2
  have hlx : Mx.1 2 1 = nI 0 := by rw [ax.2 _ _ (by unfold xT; omega)]; exact hX.2.1
  have tx := qx s0T rfl
  refine ⟨Mx, ?_, hX.q (xT_Q ax)⟩
  have t3 : Mx.1 2 3 = nI 0 := tx.1
  have e5 : f_X5_isComplete Mx = some (nI 0, Mx) := by
    unfold f_X5_isComplete
    rw [t3]
    rfl
  unfold f_X6_learn
  rw [x_ct1 hX.1.1 hS ht, bt_s, ex, bn_s, hlx, show (rnT B 0 0 s0T).2 = 0 from rfl, if_neg (show ¬ nI 0 < nI 0 by decide), e5, bn_s]
  rfl
theorem rnT_s {B : Nat → Int32} {c i : Nat} {σ σ' : RS} (h : stT σ (B i) = some σ') : rnT B (c + 1) i σ = rnT B c (i + 1) σ' := by
  simp only [rnT, h]
/-- the law's text: a letter of a to c, a rest, the chord of a or b and c -/
def lwT (a b : Nat) : RS := (3, false, 0, 0, 0, va_up (va_up (va_up (fun _ => nI 0) 0 (nI (2 ^ a))) 1 (nI 0)) 2 (nI (0 ||| 2 ^ b ||| 2 ^ 2)))
theorem rn_text {B : Nat → Int32} {a b : Nat} (ha : a < 3) (hb : b < 2) (h0 : B 0 = nI (97 + a)) (h1 : B 1 = nI 45) (h2 : B 2 = nI 40) (h3 : B 3 = nI (97 + b)) (h4 : B 4 = nI (97 + 2)) (h5 : B 5 = nI 41) : rnT B 6 0 s0T = (some (lwT a b), 6) := by
  have g0 : stT s0T (B 0) = some (1, false, 0, 0, 0, va_up (fun _ => nI 0) 0 (nI (2 ^ a))) := by rw [h0]; exact stO_le (by omega) (by omega)
  have g1 : stT (1, false, 0, 0, 0, va_up (fun _ => nI 0) 0 (nI (2 ^ a))) (B 1) = some (2, false, 0, 0, 0, va_up (va_up (fun _ => nI 0) 0 (nI (2 ^ a))) 1 (nI 0)) := by rw [h1]; exact stO_da (by omega)
  have g2 : stT (2, false, 0, 0, 0, va_up (va_up (fun _ => nI 0) 0 (nI (2 ^ a))) 1 (nI 0)) (B 2) = some (2, true, 0, 0, 0, va_up (va_up (fun _ => nI 0) 0 (nI (2 ^ a))) 1 (nI 0)) := by rw [h2]; exact stO_br (by omega)
  have g3 : stT (2, true, 0, 0, 0, va_up (va_up (fun _ => nI 0) 0 (nI (2 ^ a))) 1 (nI 0)) (B 3) = some (2, true, b + 1, 1, 0 ||| 2 ^ b, va_up (va_up (fun _ => nI 0) 0 (nI (2 ^ a))) 1 (nI 0)) := by
    rw [h3, stI_le (show b < 12 by omega), if_pos ⟨Nat.zero_le _, fun q => by omega⟩]
  have g4 : stT (2, true, b + 1, 1, 0 ||| 2 ^ b, va_up (va_up (fun _ => nI 0) 0 (nI (2 ^ a))) 1 (nI 0)) (B 4) = some (2, true, 3, 2, 0 ||| 2 ^ b ||| 2 ^ 2, va_up (va_up (fun _ => nI 0) 0 (nI (2 ^ a))) 1 (nI 0)) := by
    rw [h4, stI_le (show 2 < 12 by omega), if_pos ⟨by omega, fun q => by omega⟩]
  have g5 : stT (2, true, 3, 2, 0 ||| 2 ^ b ||| 2 ^ 2, va_up (va_up (fun _ => nI 0) 0 (nI (2 ^ a))) 1 (nI 0)) (B 5) = some (lwT a b) := by
    rw [h5, stI_cl, if_pos (Nat.le_refl _)]
    rfl
  rw [rnT_s g0, rnT_s g1, rnT_s g2, rnT_s g3, rnT_s g4, rnT_s g5]
  rfl
theorem lw_3 : ∀ a, a < 3 → ∀ b, b < 2 → pinS (lnD (lwT a b)) = nI 3 := by decide +kernel
theorem lw_pins {a b : Nat} (ha : a < 3) (hb : b < 2) (F : Nat → Int32) (t : Nat) : pinsF (putR F (150 + 24 * t) 24 (lnD (lwT a b))) 150 t = nI 3 := by
  rw [← lw_3 a ha b hb]
  exact sumI_congr (fun s hs => by rw [putR_i hs])
end LN
