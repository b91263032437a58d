/-! ===== play, the text's ends ===== -/
def rowF (F : Nat → Int32) (t : Nat) (P : PS) : Nat → Int32 := putR (putR F (6 + 24 * t) 24 P.1) (294 + 12 * t) 12 P.2.1
def pyF (F : Nat → Int32) (t : Nat) (P : PS) : Nat → Int32 := va_up (va_up (va_up (va_up (rowF F t P) t (F t + P.2.2.2.2 3)) (402 + t) (F (402 + t) + nI 1)) (408 + t) (F (408 + t) + P.2.2.2.2 0)) (414 + t) (F (414 + t) + P.2.2.2.2 3)
theorem rowF_o {F : Nat → Int32} {t i : Nat} {P : PS} (ht : t < 6) (h : i < 6 ∨ 366 ≤ i) : rowF F t P i = F i := by
  unfold rowF
  rw [putR_o (by omega), putR_o (by omega)]
theorem SI.py {F : Nat → Int32} {k t : Nat} {P : PS} (h : SI F k) (ht : t < 6) (hP : ∀ s, s < 24 → msk (P.1 s)) : SI (pyF F t P) k :=
  (((((h.put (fun s hs _ _ => hP s hs) (by omega)).put (fun s hs _ _ => by omega) (by omega)).up (by omega) (by omega) (by omega) (by omega)).up (by omega) (by omega) (by omega) (by omega)).up (by omega) (by omega) (by omega) (by omega)).up (by omega) (by omega) (by omega) (by omega)
theorem lc_tw {t : Nat} (ht : t < 6) : (34 + lc (402 + t) = tc 34 t ∧ lsl (402 + t) = 4) ∧ (34 + lc (408 + t) = tc 34 t ∧ lsl (408 + t) = 5) ∧ 34 + lc (414 + t) = tc 34 t ∧ lsl (414 + t) = 6 := by
  obtain ⟨_, ⟨h1, h2⟩, ⟨h3, h4⟩, h5, h6⟩ := lc_to t ht
  unfold tc
  omega
theorem plF_msk {F : Nat → Int32} {k t : Nat} (hS : SI F k) (ht : t < 6) : ∀ s, s < 24 → msk ((plF F t).1 s) :=
  (ZP_steps (T := tuneF F t) (du := F 421) (re := F 420) 24 0 (startP (drumF F t) (wearF F t)) rfl ⟨fun s hs => hS.2.2.1 _ (by omega) (by omega), 0, by omega, rfl, fun _ => ⟨fun _ => rfl, fun i hi => by omega, fun j hj => by omega⟩⟩).1
theorem x_takeOver {M : Mem} {F : Nat → Int32} {t n l : Nat} {Sv : Nat → Nat → Int32} {B : Nat → Int32} {P : PS} {du re : Int32} (h : JX M F n Sv l B) (ht : t < 6) (hP : Px M du re P) : ∃ M', f_X3_takeOver (tc 34 t) M = some ((), M') ∧ JX M' (pyF F t P) n Sv l B ∧ M'.1 5 6 = P.2.2.2.2 0 ∧ ∀ c i, aX c i → M'.1 c i = M.1 c i := by
  obtain ⟨hD, hW, hL, hH, ⟨c0, c1, c2, c3, c4⟩, hdu, hre', hLb, hm⟩ := hP
  obtain ⟨M1, e1, a1, h1⟩ := x_copy (M := M) (a := 6) (b := tc 34 t + 1) (n := 24) rfl (kTd (kT isL34 ht)) rfl (alD isL34 ht) (by omega)
  obtain ⟨M2, e2, a2, h2⟩ := x_copy (M := M1) (a := 7) (b := tc 34 t + 3) (n := 12) rfl (kTw (kT isL34 ht)) rfl (alW isL34 ht) (by omega)
  have hc : 44 ≤ tc 34 t ∧ tc 34 t + 3 < 68 := by unfold tc; omega
  have r1 : LR M1 34 (putR F (6 + 24 * t) 24 P.1) := LR.putD h.1.1 ht (fun s hs => by rw [h1 s hs, hD s hs]) (fun c i _ _ q => a1.2 c i q)
  have r2 : LR M2 34 (rowF F t P) := LR.putW r1 ht (fun s hs => by rw [h2 s hs, a1.2 _ _ (by omega), hW s hs]) (fun c i _ _ q => a2.2 c i q)
  have x2 : JX M2 (rowF F t P) n Sv l B := h.set r2 (fun c i q => by rw [a2.2 c i (by omega), a1.2 c i (by omega)])
  have g5 : ∀ i, M2.1 5 i = M.1 5 i := fun i => by rw [a2.2 _ _ (by omega), a1.2 _ _ (by omega)]
  have x3 := (((x2.w (F t + P.2.2.2.2 3) t (by omega) (lc_box ht).1 (lc_box ht).2).w (F (402 + t) + nI 1) (402 + t) (by omega) (lc_tw ht).1.1 (lc_tw ht).1.2).w (F (408 + t) + P.2.2.2.2 0) (408 + t) (by omega) (lc_tw ht).2.1.1 (lc_tw ht).2.1.2).w (F (414 + t) + P.2.2.2.2 3) (414 + t) (by omega) (lc_tw ht).2.2.1 (lc_tw ht).2.2.2
  have v0 : M2.1 (tc 34 t) 0 = F t := (r2.box ht).trans (rowF_o ht (by omega))
  have v4 : M2.1 (tc 34 t) 4 = F (402 + t) := (r2.pld ht).trans (rowF_o ht (by omega))
  have v5 : M2.1 (tc 34 t) 5 = F (408 + t) := (r2.snd ht).trans (rowF_o ht (by omega))
  have v6 : M2.1 (tc 34 t) 6 = F (414 + t) := (r2.fell ht).trans (rowF_o ht (by omega))
  refine ⟨_, ?_, x3, ?_, fun c i q => ?_⟩
  · unfold f_X3_takeOver
    simp (disch := omega) only [bnd_e, chk_tt, bn_s, bt_s, bt_x, inb_n, nI_clamp, le_t, le_f, lt_t, lt_f, eq_f, nI_add, pk_mul, ne_eq, not_true_eq_false, not_false_eq_true, ↓reduceIte, L0_, L1_, L2_, L3_, L4_, L5_, L6_, L7_, L8_, L9_, L10_, L11_, L12_, L13_, L14_, L15_, L16_, L20_, L22_, L23_, L24_, L25_, L30_, L31_, L32_, L33_, L36_, L40_, L41_, L45_, L48_, L60_, L63_, L64_, L97_, L100_, L107_, L108_, L126_, L150_, L200_, L294_, L366_, L402_, L408_, L414_, L420_, L421_, L422_, L423_, L424_, L425_, L426_, L427_, L428_, L999_, L2568_, L2996_, kbT isL34 ht, e1, e2, mwn, v0, v4, v5, v6, g5, c0, c3]
  · rw [mwn (by omega), mwn (by omega), mwn (by omega), mwn (by omega), g5]; exact c0
  · unfold aX at q
    rw [mwn (by omega), mwn (by omega), mwn (by omega), mwn (by omega), a2.2 c i (by omega), a1.2 c i (by omega)]
theorem o_play {M : Mem} (h : Jt M) (a : Int32) : Op [exI] (f_X6_play a) (f_X7_play a) M := by
  obtain ⟨F, k, n, Sv, l, B, hX, hM, hS⟩ := h
  have hk := hS.1.1
  have hF := hX.1.1
  rcases inb_cs a (show k < 2 ^ 31 by omega) with ha | ⟨t, ht, rfl⟩
  · refine Op.q (r := .inr exI) hX hM hS ⟨M, ?_, ag.rf⟩ (fun M1 h1 => ⟨nI 0, nI 1, mw M1 24 2 (nI 1), ?_, ag.rf, .e1⟩)
    · unfold f_X6_play
      rw [x_ct0 hF hS.1 ha, bt_x]
    · unfold f_X7_play
      simp (disch := omega) only [bnd_e, chk_tt, bn_s, bt_s, bt_x, inb_n, nI_clamp, le_t, le_f, lt_t, lt_f, eq_f, nI_add, pk_mul, ne_eq, not_true_eq_false, not_false_eq_true, ↓reduceIte, L0_, L1_, L2_, L3_, L4_, L5_, L6_, L7_, L8_, L9_, L10_, L11_, L12_, L13_, L14_, L15_, L16_, L20_, L22_, L23_, L24_, L25_, L30_, L31_, L32_, L33_, L36_, L40_, L41_, L45_, L48_, L60_, L63_, L64_, L97_, L100_, L107_, L108_, L126_, L150_, L200_, L294_, L366_, L402_, L408_, L414_, L420_, L421_, L422_, L423_, L424_, L425_, L426_, L427_, L428_, L999_, L2568_, L2996_, m_t0 h1.1.1 hS.1 ha, f_X7_play_14, mw_eq, n10]
  have h6 : t < 6 := by omega
  refine Op.u (n' := nx n) (Sv' := pushS F n Sv) (l' := l) (B' := B) (k' := k) (F' := pyF F t (plF F t)) (v := (plF F t).2.2.2.2 0) hM (JSnx hS (hS.1.py h6 (plF_msk hS.1 h6))) ?_ (fun M1 h1 => ?_)
  · obtain ⟨M1, e1, x1, a1⟩ := hX.save
    obtain ⟨M2, e2, x2, a2⟩ := x_foresee x1.1.1 hS.1 h6
    obtain ⟨M3, e3, x3, v3, a3⟩ := x_takeOver (x1.q a2.xP) h6 x2
    refine ⟨M3, ?_, x3, fun c i q => ?_⟩
    · unfold f_X6_play
      rw [x_ct1 hF hS.1 ht, bt_s]
      simp (disch := omega) only [bnd_e, chk_tt, bn_s, bt_s, bt_x, inb_n, nI_clamp, le_t, le_f, lt_t, lt_f, eq_f, nI_add, pk_mul, ne_eq, not_true_eq_false, not_false_eq_true, ↓reduceIte, L0_, L1_, L2_, L3_, L4_, L5_, L6_, L7_, L8_, L9_, L10_, L11_, L12_, L13_, L14_, L15_, L16_, L20_, L22_, L23_, L24_, L25_, L30_, L31_, L32_, L33_, L36_, L40_, L41_, L45_, L48_, L60_, L63_, L64_, L97_, L100_, L107_, L108_, L126_, L150_, L200_, L294_, L366_, L402_, L408_, L414_, L420_, L421_, L422_, L423_, L424_, L425_, L426_, L427_, L428_, L999_, L2568_, L2996_, e1, e2, tw_35, e3]
      rw [v3]
    · rw [a3 c i q, a2.2 c i (by unfold aX at q; unfold xP; omega)]
      exact a1.2 c i (by unfold aX at q; unfold xSv; omega)
  · obtain ⟨M2, e1, x1, a1⟩ := (h1.co (nI 0)).keep
    obtain ⟨M3, e2, x2, a2⟩ := m_playIn (M := M2) (b := 0) (t := t) (T := tuneF F t) (D := drumF F t) (W := wearF F t) (du := F 421) (re := F 420) (by omega) h6 hS.1.2.2.2.1 (fun s hs => by rw [show 0 + 6 + 24 * t + s = 6 + 24 * t + s by omega]; exact x1.1.1 _ (by omega)) (fun s hs => by rw [show 0 + 294 + 12 * t + s = 294 + 12 * t + s by omega]; exact x1.1.1 _ (by omega)) (fun s hs => by rw [show 0 + 150 + 24 * t + s = 150 + 24 * t + s by omega]; exact x1.1.1 _ (by omega)) (by rw [Nat.zero_add]; exact x1.1.1 _ (by omega)) (by rw [Nat.zero_add]; exact x1.1.1 _ (by omega))
    have hF2 : Mo M3 (rowF F t (plF F t)) := by
      intro i hi
      unfold rowF
      by_cases q : 294 + 12 * t ≤ i ∧ i < 294 + 12 * t + 12
      · obtain ⟨s, rfl⟩ : ∃ s, i = 294 + 12 * t + s := ⟨i - (294 + 12 * t), by omega⟩
        rw [putR_i (by omega)]
        have := x2.2.1 s (by omega)
        rw [show 0 + 294 + 12 * t + s = 294 + 12 * t + s by omega] at this
        exact this
      · rw [putR_o (by omega)]
        by_cases q' : 6 + 24 * t ≤ i ∧ i < 6 + 24 * t + 24
        · obtain ⟨s, rfl⟩ : ∃ s, i = 6 + 24 * t + s := ⟨i - (6 + 24 * t), by omega⟩
          rw [putR_i (by omega)]
          have := x2.1 s (by omega)
          rw [show 0 + 6 + 24 * t + s = 6 + 24 * t + s by omega] at this
          exact this
        · rw [putR_o (by omega), a2.2 _ _ (by unfold QP; omega)]
          exact x1.1.1 i hi
    have x3 : JM M3 (rowF F t (plF F t)) (nx n) (pushS F n Sv) l B := x1.set hF2 (fun c i q => a2.2 c i (by unfold QP; omega))
    have x4 := (((x3.w (F t + (plF F t).2.2.2.2 3) (show t < 428 by omega)).w (F (402 + t) + nI 1) (show 402 + t < 428 by omega)).w (F (408 + t) + (plF F t).2.2.2.2 0) (show 408 + t < 428 by omega)).w (F (414 + t) + (plF F t).2.2.2.2 3) (show 414 + t < 428 by omega)
    have v0 : M3.1 25 t = F t := (hF2 t (by omega)).trans (rowF_o h6 (by omega))
    have v4 : M3.1 25 (402 + t) = F (402 + t) := (hF2 _ (by omega)).trans (rowF_o h6 (by omega))
    have v5 : M3.1 25 (408 + t) = F (408 + t) := (hF2 _ (by omega)).trans (rowF_o h6 (by omega))
    have v6 : M3.1 25 (414 + t) = F (414 + t) := (hF2 _ (by omega)).trans (rowF_o h6 (by omega))
    have w0 : M3.1 24 7 = (plF F t).2.2.2.2 0 := x2.2.2.2.2.1.1
    have w3 : M3.1 24 10 = (plF F t).2.2.2.2 3 := x2.2.2.2.2.1.2.2.2.1
    refine ⟨_, ?_, x4, fun c i q => ?_, ?_, a2.1.trans a1.1⟩
    · unfold f_X7_play
      simp (disch := omega) only [bnd_e, chk_tt, bn_s, bt_s, bt_x, inb_n, nI_clamp, le_t, le_f, lt_t, lt_f, eq_f, nI_add, pk_mul, ne_eq, not_true_eq_false, not_false_eq_true, ↓reduceIte, L0_, L1_, L2_, L3_, L4_, L5_, L6_, L7_, L8_, L9_, L10_, L11_, L12_, L13_, L14_, L15_, L16_, L20_, L22_, L23_, L24_, L25_, L30_, L31_, L32_, L33_, L36_, L40_, L41_, L45_, L48_, L60_, L63_, L64_, L97_, L100_, L107_, L108_, L126_, L150_, L200_, L294_, L366_, L402_, L408_, L414_, L420_, L421_, L422_, L423_, L424_, L425_, L426_, L427_, L428_, L999_, L2568_, L2996_, m_t1 h1.1.1 hS.1, n10, f_X7_play_14, mw_eq, e1, e2, Nat.zero_add, mwn, v0, v4, v5, v6, w0, w3]
    · unfold aM at q
      rw [mwn (by omega), mwn (by omega), mwn (by omega), mwn (by omega), a2.2 _ _ (by unfold QP; omega), a1.2 _ _ (by omega), mwn (by omega)]
    · rw [mwn (by omega), mwn (by omega), mwn (by omega), mwn (by omega), a2.2 _ _ (by unfold QP; omega), a1.2 _ _ (by omega), mw_eq]
theorem o_append {M : Mem} (h : Jt M) (a : Int32) : Op [exA, exS] (f_X6_append a) (f_X7_append a) M := by
  obtain ⟨F, k, n, Sv, l, B, hX, hM, hS⟩ := h
  have hl := hS.2.2
  by_cases z : a < nI 33 ∨ nI 126 < a
  · refine Op.q (r := .inr exA) hX hM hS ⟨M, ?_, ag.rf⟩ (fun M1 h1 => ⟨nI 0, nI 1, mw M1 24 2 (nI 1), ?_, ag.rf, .e1⟩)
    · unfold f_X6_append
      rw [show ((33 : Int32)) = nI 33 from rfl, show ((126 : Int32)) = nI 126 from rfl]
      by_cases w : a < nI 33
      · rw [if_pos w]; rfl
      · rw [if_neg w, if_neg (Int32.not_le.mpr (z.resolve_left w))]; rfl
    · unfold f_X7_append
      rw [m_in, show ((33 : Int32)) = nI 33 from rfl, show ((126 : Int32)) = nI 126 from rfl]
      by_cases w : a < nI 33
      · simp (disch := omega) only [bnd_e, chk_tt, bn_s, bt_s, bt_x, inb_n, nI_clamp, le_t, le_f, lt_t, lt_f, eq_f, nI_add, pk_mul, ne_eq, not_true_eq_false, not_false_eq_true, ↓reduceIte, L0_, L1_, L2_, L3_, L4_, L5_, L6_, L7_, L8_, L9_, L10_, L11_, L12_, L13_, L14_, L15_, L16_, L20_, L22_, L23_, L24_, L25_, L30_, L31_, L32_, L33_, L36_, L40_, L41_, L45_, L48_, L60_, L63_, L64_, L97_, L100_, L107_, L108_, L126_, L150_, L200_, L294_, L366_, L402_, L408_, L414_, L420_, L421_, L422_, L423_, L424_, L425_, L426_, L427_, L428_, L999_, L2568_, L2996_, w, f_X7_append_30, mw_eq, n10]
      · simp (disch := omega) only [bnd_e, chk_tt, bn_s, bt_s, bt_x, inb_n, nI_clamp, le_t, le_f, lt_t, lt_f, eq_f, nI_add, pk_mul, ne_eq, not_true_eq_false, not_false_eq_true, ↓reduceIte, L0_, L1_, L2_, L3_, L4_, L5_, L6_, L7_, L8_, L9_, L10_, L11_, L12_, L13_, L14_, L15_, L16_, L20_, L22_, L23_, L24_, L25_, L30_, L31_, L32_, L33_, L36_, L40_, L41_, L45_, L48_, L60_, L63_, L64_, L97_, L100_, L107_, L108_, L126_, L150_, L200_, L294_, L366_, L402_, L408_, L414_, L420_, L421_, L422_, L423_, L424_, L425_, L426_, L427_, L428_, L999_, L2568_, L2996_, w, z.resolve_left w, f_X7_append_30, mw_eq, n10]
  · have z1 : ¬ a < nI 33 := fun e => z (Or.inl e)
    have z2 : ¬ nI 126 < a := fun e => z (Or.inr e)
    have z3 : a ≤ nI 126 := Int32.not_lt.mp z2
    by_cases q : l < 60
    · refine Op.u (n' := n) (Sv' := Sv) (l' := l + 1) (B' := va_up B l a) (k' := k) (F' := F) (v := nI (l + 1)) hM ⟨hS.1, hS.2.1, by omega⟩ ⟨mw (mw M 3 l a) 2 1 (nI (l + 1)), ?_, ?_, fun c i q => ?_⟩ (fun M1 h1 => ⟨mw (mw (mw M1 24 2 (nI 0)) 26 l a) 24 4 (nI (l + 1)), ?_, ?_, fun c i q => ?_, ?_, rfl⟩)
      · unfold f_X6_append
        rw [hX.2.1]
        simp (disch := omega) only [bnd_e, chk_tt, bn_s, bt_s, bt_x, inb_n, nI_clamp, le_t, le_f, lt_t, lt_f, eq_f, nI_add, pk_mul, ne_eq, not_true_eq_false, not_false_eq_true, ↓reduceIte, L0_, L1_, L2_, L3_, L4_, L5_, L6_, L7_, L8_, L9_, L10_, L11_, L12_, L13_, L14_, L15_, L16_, L20_, L22_, L23_, L24_, L25_, L30_, L31_, L32_, L33_, L36_, L40_, L41_, L45_, L48_, L60_, L63_, L64_, L97_, L100_, L107_, L108_, L126_, L150_, L200_, L294_, L366_, L402_, L408_, L414_, L420_, L421_, L422_, L423_, L424_, L425_, L426_, L427_, L428_, L999_, L2568_, L2996_, z1, z3, mwn, hX.2.1, mw_eq]
      · refine ⟨hX.1.cp (fun c i w => by rw [mwn (by omega), mwn (by omega)]), by rw [mw_eq], fun i hi => ?_⟩
        rw [mwn (by omega)]
        by_cases e : i = l
        · subst e; rw [mw_eq, va_up_self]
        · rw [mwn (by omega), va_up_ne _ _ e]; exact hX.2.2 i (by omega)
      · unfold aX at q
        rw [mwn (by omega), mwn (by omega)]
      · unfold f_X7_append
        rw [m_in]
        simp (disch := omega) only [bnd_e, chk_tt, bn_s, bt_s, bt_x, inb_n, nI_clamp, le_t, le_f, lt_t, lt_f, eq_f, nI_add, pk_mul, ne_eq, not_true_eq_false, not_false_eq_true, ↓reduceIte, L0_, L1_, L2_, L3_, L4_, L5_, L6_, L7_, L8_, L9_, L10_, L11_, L12_, L13_, L14_, L15_, L16_, L20_, L22_, L23_, L24_, L25_, L30_, L31_, L32_, L33_, L36_, L40_, L41_, L45_, L48_, L60_, L63_, L64_, L97_, L100_, L107_, L108_, L126_, L150_, L200_, L294_, L366_, L402_, L408_, L414_, L420_, L421_, L422_, L423_, L424_, L425_, L426_, L427_, L428_, L999_, L2568_, L2996_, z1, z2, n10, h1.2.1, eq_f, f_X7_append_30, mw_eq, mwn]
      · obtain ⟨⟨q1, q2, q3, q4⟩, q5, q6⟩ := h1
        refine ⟨⟨fun i hi => by rw [mwn (by omega), mwn (by omega), mwn (by omega)]; exact q1 i hi, by rw [mwn (by omega), mwn (by omega), mwn (by omega)]; exact q2, q3, fun j i hj hi => by rw [mwn (by omega), mwn (by omega), mwn (by omega)]; exact q4 j i hj hi⟩, by rw [mw_eq], fun i hi => ?_⟩
        rw [mwn (by omega)]
        by_cases e : i = l
        · subst e; rw [mw_eq, va_up_self]
        · rw [mwn (by omega), mwn (by omega), va_up_ne _ _ e]; exact q6 i (by omega)
      · unfold aM at q
        rw [mwn (by omega), mwn (by omega), mwn (by omega)]
      · rw [mwn (by omega), mwn (by omega), mw_eq]
    · obtain rfl : l = 60 := by omega
      refine Op.q (r := .inr exS) hX hM hS ⟨M, ?_, ag.rf⟩ (fun M1 h1 => ⟨nI 0, nI 2, mw M1 24 2 (nI 2), ?_, ag.rf, .e2⟩)
      · unfold f_X6_append
        rw [hX.2.1]
        simp (disch := omega) only [bnd_e, chk_tt, bn_s, bt_s, bt_x, inb_n, nI_clamp, le_t, le_f, lt_t, lt_f, eq_f, nI_add, pk_mul, ne_eq, not_true_eq_false, not_false_eq_true, ↓reduceIte, L0_, L1_, L2_, L3_, L4_, L5_, L6_, L7_, L8_, L9_, L10_, L11_, L12_, L13_, L14_, L15_, L16_, L20_, L22_, L23_, L24_, L25_, L30_, L31_, L32_, L33_, L36_, L40_, L41_, L45_, L48_, L60_, L63_, L64_, L97_, L100_, L107_, L108_, L126_, L150_, L200_, L294_, L366_, L402_, L408_, L414_, L420_, L421_, L422_, L423_, L424_, L425_, L426_, L427_, L428_, L999_, L2568_, L2996_, z1, z3]
      · unfold f_X7_append
        rw [m_in]
        simp (disch := omega) only [bnd_e, chk_tt, bn_s, bt_s, bt_x, inb_n, nI_clamp, le_t, le_f, lt_t, lt_f, eq_f, nI_add, pk_mul, ne_eq, not_true_eq_false, not_false_eq_true, ↓reduceIte, L0_, L1_, L2_, L3_, L4_, L5_, L6_, L7_, L8_, L9_, L10_, L11_, L12_, L13_, L14_, L15_, L16_, L20_, L22_, L23_, L24_, L25_, L30_, L31_, L32_, L33_, L36_, L40_, L41_, L45_, L48_, L60_, L63_, L64_, L97_, L100_, L107_, L108_, L126_, L150_, L200_, L294_, L366_, L402_, L408_, L414_, L420_, L421_, L422_, L423_, L424_, L425_, L426_, L427_, L428_, L999_, L2568_, L2996_, z1, z2, n10, h1.2.1, eq_f, f_X7_append_30, mw_eq, mwn]
/-- for what throws nothing -/
def OpN (cl md : Mem → Option (Int32 × Mem)) (M : Mem) : Prop := ∃ v M1, cl M = some (v, M1) ∧ ∀ M1' : Mem, M1'.1 = M1.1 → ∃ M2, md M1' = some (v, M2) ∧ Jt M2
theorem o_clearBuffer {M : Mem} (h : Jt M) : OpN f_X6_clearBuffer f_X7_clearBuffer M := by
  obtain ⟨F, k, n, Sv, l, B, hX, hM, hS⟩ := h
  refine ⟨nI l, mw M 2 1 (nI 0), ?_, fun M1 e => ⟨mw (mw M1 24 2 (nI 0)) 24 4 (nI 0), ?_, F, k, n, Sv, 0, B, ⟨hX.1.cp (fun c i q => ?_), ?_, fun i hi => by omega⟩, ?_, hS.1, hS.2.1, by omega⟩⟩
  · unfold f_X6_clearBuffer
    simp (disch := omega) only [bnd_e, chk_tt, bn_s, bt_s, bt_x, inb_n, nI_clamp, le_t, le_f, lt_t, lt_f, eq_f, nI_add, pk_mul, ne_eq, not_true_eq_false, not_false_eq_true, ↓reduceIte, L0_, L1_, L2_, L3_, L4_, L5_, L6_, L7_, L8_, L9_, L10_, L11_, L12_, L13_, L14_, L15_, L16_, L20_, L22_, L23_, L24_, L25_, L30_, L31_, L32_, L33_, L36_, L40_, L41_, L45_, L48_, L60_, L63_, L64_, L97_, L100_, L107_, L108_, L126_, L150_, L200_, L294_, L366_, L402_, L408_, L414_, L420_, L421_, L422_, L423_, L424_, L425_, L426_, L427_, L428_, L999_, L2568_, L2996_, hX.2.1]
  · unfold f_X7_clearBuffer
    have : M1.1 24 4 = nI l := by rw [e, mwn (by omega)]; exact hM.2.1
    simp (disch := omega) only [bnd_e, chk_tt, bn_s, bt_s, bt_x, inb_n, nI_clamp, le_t, le_f, lt_t, lt_f, eq_f, nI_add, pk_mul, ne_eq, not_true_eq_false, not_false_eq_true, ↓reduceIte, L0_, L1_, L2_, L3_, L4_, L5_, L6_, L7_, L8_, L9_, L10_, L11_, L12_, L13_, L14_, L15_, L16_, L20_, L22_, L23_, L24_, L25_, L30_, L31_, L32_, L33_, L36_, L40_, L41_, L45_, L48_, L60_, L63_, L64_, L97_, L100_, L107_, L108_, L126_, L150_, L200_, L294_, L366_, L402_, L408_, L414_, L420_, L421_, L422_, L423_, L424_, L425_, L426_, L427_, L428_, L999_, L2568_, L2996_, mwn, this]
  · rw [mwn (by omega), mwn (by omega), e, mwn (by omega)]
  · rw [mwn (by omega), mwn (by omega), e, mw_eq]
  · obtain ⟨⟨q1, q2, q3, q4⟩, q5, q6⟩ := hM
    exact ⟨⟨fun i hi => by rw [mwn (by omega), mwn (by omega), e, mwn (by omega)]; exact q1 i hi, by rw [mwn (by omega), mwn (by omega), e, mwn (by omega)]; exact q2, q3, fun j i hj hi => by rw [mwn (by omega), mwn (by omega), e, mwn (by omega)]; exact q4 j i hj hi⟩, by rw [mw_eq], fun i hi => by omega⟩
