/-! ===== turn, play, undo, the text's ends ===== -/
def tuD (F : Nat → Int32) (t b : Nat) : Nat → Int32 := fun r => F (6 + 24 * t + (r + (24 - b)) % 24)
def tuF (F : Nat → Int32) (t b : Nat) : Nat → Int32 := putR F (6 + 24 * t) 24 (tuD F t b)
theorem tu_r {r b : Nat} (hr : r < 24) (hb : b < 24) : ((r + (24 - b)) % 24 + b) % 24 = r ∧ (r + (24 - b)) % 24 < 24 := by omega
theorem SI.tu {F : Nat → Int32} {k t b : Nat} (h : SI F k) (ht : t < 6) : SI (tuF F t b) k := h.put (fun s hs _ _ => h.2.2.1 _ (by omega) (by omega)) (by omega)
theorem pk_rem' {a b : Nat} (ha : a < 24) (hb : b < 24) : nI (a + b) - nI (a + b) / nI 24 * nI 24 = nI ((a + b) % 24) := by
  have h1 : a + b < 2 ^ 31 := by omega
  simp (disch := omega) only [pk_rem]
theorem x_turn42 {F : Nat → Int32} {k t b n l : Nat} {Sv : Nat → Nat → Int32} {B : Nat → Int32} (hS : SI F k) (ht : t < 6) (hb : b < 24) : ∀ (c j m : Nat) (M : Mem), j + c = 24 → c < m → JX M F n Sv l B → (∀ s, s < j → M.1 22 ((s + b) % 24) = F (6 + 24 * t + s)) →
    ∃ M', f_X6_turn_42 m (nI b) (tc 34 t) (nI j) M = some (.inl (rightF (tuF F t b) t t 0), M') ∧ JX M' (tuF F t b) n Sv l B ∧ ∀ c i, aX c i → M'.1 c i = M.1 c i := by
  intro c
  induction c with
  | zero =>
    intro j m M h hm hX hT
    obtain ⟨m, rfl, -⟩ := suc hm
    obtain rfl : j = 24 := by omega
    obtain ⟨M1, e1, a1, h1⟩ := x_copy (M := M) (a := 22) (b := tc 34 t + 1) (n := 24) rfl (kTd (kT isL34 ht)) rfl (alD isL34 ht) (by omega)
    have hL : LR M1 34 (tuF F t b) := LR.putD hX.1.1 ht (fun s hs => by
      obtain ⟨q1, q2⟩ := tu_r hs hb
      rw [h1 s hs]
      have := hT _ q2
      rw [q1] at this
      exact this) (fun c i _ _ q => a1.2 c i q)
    refine ⟨M1, ?_, hX.set hL (fun c i q => a1.2 c i (by unfold tc; omega)), fun c i q => a1.2 c i (by unfold aX tc at *; omega)⟩
    rw [f_X6_turn_42]
    simp (disch := omega) only [bnd_e, chk_tt, bn_s, bt_s, bt_x, inb_n, nI_clamp, le_t, le_f, lt_t, lt_f, eq_f, nI_add, pk_mul, ne_eq, not_true_eq_false, not_false_eq_true, ↓reduceIte, L0_, L1_, L2_, L3_, L4_, L5_, L6_, L7_, L8_, L9_, L10_, L11_, L12_, L13_, L14_, L15_, L16_, L20_, L22_, L23_, L24_, L25_, L30_, L31_, L32_, L33_, L36_, L40_, L41_, L45_, L48_, L60_, L63_, L64_, L97_, L100_, L107_, L108_, L126_, L150_, L200_, L294_, L366_, L402_, L408_, L414_, L420_, L421_, L422_, L423_, L424_, L425_, L426_, L427_, L428_, L999_, L2568_, L2996_, kbT isL34, e1, x_right hL isL34 (hS.tu ht)]
  | succ c ih =>
    intro j m M h hm hX hT
    obtain ⟨m, rfl, -⟩ := suc hm
    have hj : j < 24 := by omega
    obtain ⟨M2, e2, x3, a3⟩ := ih (j + 1) m (mw M 22 ((j + b) % 24) (F (6 + 24 * t + j))) (by omega) (by omega) (hX.cp (fun c i q => mwn (by omega))) (fun s hs => by
      by_cases e : s = j
      · subst e; rw [mw_eq]
      · rw [mwn (by omega)]
        exact hT s (by omega))
    refine ⟨M2, ?_, x3, fun c i q => by rw [a3 c i q, mwn (by unfold aX at q; omega)]⟩
    rw [f_X6_turn_42]
    simp (disch := omega) only [bnd_e, chk_tt, bn_s, bt_s, bt_x, inb_n, nI_clamp, le_t, le_f, lt_t, lt_f, eq_f, nI_add, pk_mul, ne_eq, not_true_eq_false, not_false_eq_true, ↓reduceIte, L0_, L1_, L2_, L3_, L4_, L5_, L6_, L7_, L8_, L9_, L10_, L11_, L12_, L13_, L14_, L15_, L16_, L20_, L22_, L23_, L24_, L25_, L30_, L31_, L32_, L33_, L36_, L40_, L41_, L45_, L48_, L60_, L63_, L64_, L97_, L100_, L107_, L108_, L126_, L150_, L200_, L294_, L366_, L402_, L408_, L414_, L420_, L421_, L422_, L423_, L424_, L425_, L426_, L427_, L428_, L999_, L2568_, L2996_, kbT isL34, pk_rem']
    rw [hX.1.1.drum ht hj]
    exact e2
theorem m_turn56 {F : Nat → Int32} {k t b n N l : Nat} {Sv : Nat → Nat → Int32} {B : Nat → Int32} (hS : SI F k) (ht : t < 6) (hb : b < 24) (hN : 1 ≤ N ∧ N ≤ 6) : ∀ (c j m : Nat) (M : Mem), j + c = 24 → c < m → (∃ F0, JM M F0 n Sv l B) → (∀ i, i < 428 → ¬ (6 + 24 * t ≤ i ∧ i < 6 + 24 * t + 24) → M.1 25 i = F i) → (∀ i, i < 428 → M.1 25 (428 * N + i) = F i) → (∀ s, s < j → M.1 25 (6 + 24 * t + (s + b) % 24) = F (6 + 24 * t + s)) →
    ∃ M', f_X7_turn_56 m (nI t) (nI b) (nI (428 * N)) (nI j) M = some (rightF (tuF F t b) t t 0, M') ∧ JM M' (tuF F t b) n Sv l B ∧ ag (fun c i => ¬ (c = 25 ∧ i < 428)) M M' := by
  intro c
  induction c with
  | zero =>
    intro j m M h hm hX h1 h2 h3
    obtain ⟨m, rfl, -⟩ := suc hm
    obtain rfl : j = 24 := by omega
    obtain ⟨F0, hX⟩ := hX
    have hF : Mo M (tuF F t b) := by
      intro i hi
      by_cases q : 6 + 24 * t ≤ i ∧ i < 6 + 24 * t + 24
      · obtain ⟨s, rfl⟩ : ∃ s, i = 6 + 24 * t + s := ⟨i - (6 + 24 * t), by omega⟩
        have hs : s < 24 := by omega
        obtain ⟨q1, q2⟩ := tu_r hs hb
        unfold tuF
        rw [putR_i hs]
        have := h3 _ q2
        rw [q1] at this
        exact this
      · unfold tuF
        rw [putR_o (by omega)]
        exact h1 i hi q
    refine ⟨M, ?_, hX.set hF (fun _ _ _ => rfl), ag.rf⟩
    rw [f_X7_turn_56]
    simp (disch := omega) only [bnd_e, chk_tt, bn_s, bt_s, bt_x, inb_n, nI_clamp, le_t, le_f, lt_t, lt_f, eq_f, nI_add, pk_mul, ne_eq, not_true_eq_false, not_false_eq_true, ↓reduceIte, L0_, L1_, L2_, L3_, L4_, L5_, L6_, L7_, L8_, L9_, L10_, L11_, L12_, L13_, L14_, L15_, L16_, L20_, L22_, L23_, L24_, L25_, L30_, L31_, L32_, L33_, L36_, L40_, L41_, L45_, L48_, L60_, L63_, L64_, L97_, L100_, L107_, L108_, L126_, L150_, L200_, L294_, L366_, L402_, L408_, L414_, L420_, L421_, L422_, L423_, L424_, L425_, L426_, L427_, L428_, L999_, L2568_, L2996_, m_right hF]
  | succ c ih =>
    intro j m M h hm hX h1 h2 h3
    obtain ⟨m, rfl, -⟩ := suc hm
    have hj : j < 24 := by omega
    obtain ⟨F0, hX⟩ := hX
    obtain ⟨M2, e2, x3, a3⟩ := ih (j + 1) m (mw M 25 (6 + 24 * t + (j + b) % 24) (F (6 + 24 * t + j))) (by omega) (by omega) ⟨_, hX.w (F (6 + 24 * t + j)) (show 6 + 24 * t + (j + b) % 24 < 428 by omega)⟩ (fun i hi q => by rw [mwn (by omega)]; exact h1 i hi q) (fun i hi => by rw [mwn (by omega)]; exact h2 i hi) (fun s hs => by
      by_cases e : s = j
      · subst e; rw [mw_eq]
      · rw [mwn (by omega)]
        exact h3 s (by omega))
    refine ⟨M2, ?_, x3, (ag.rf.w _ (by omega)).tr a3⟩
    rw [f_X7_turn_56]
    simp (disch := omega) only [bnd_e, chk_tt, bn_s, bt_s, bt_x, inb_n, nI_clamp, le_t, le_f, lt_t, lt_f, eq_f, nI_add, pk_mul, ne_eq, not_true_eq_false, not_false_eq_true, ↓reduceIte, L0_, L1_, L2_, L3_, L4_, L5_, L6_, L7_, L8_, L9_, L10_, L11_, L12_, L13_, L14_, L15_, L16_, L20_, L22_, L23_, L24_, L25_, L30_, L31_, L32_, L33_, L36_, L40_, L41_, L45_, L48_, L60_, L63_, L64_, L97_, L100_, L107_, L108_, L126_, L150_, L200_, L294_, L366_, L402_, L408_, L414_, L420_, L421_, L422_, L423_, L424_, L425_, L426_, L427_, L428_, L999_, L2568_, L2996_, pk_rem', m_at]
    rw [h2 _ (by omega)]
    exact e2
theorem nx_b {n : Nat} (h : n ≤ 6) : 1 ≤ nx n ∧ nx n ≤ 6 := by unfold nx; split <;> omega
theorem push_l {F : Nat → Int32} {n : Nat} {Sv : Nat → Nat → Int32} (h : n ≤ 6) : pushS F n Sv (nx n - 1) = F := by
  funext i
  unfold pushS nx
  by_cases q : n < 6
  · rw [if_pos q, if_pos q, if_pos (by omega)]
  · rw [if_neg q, if_neg q, if_pos (by omega)]
theorem o_turn {M : Mem} (h : Jt M) (a b : Int32) : Op [exI, exA] (f_X6_turn a b) (f_X7_turn a b) M := by
  obtain ⟨F, k, n, Sv, l, B, hX, hM, hS⟩ := h
  have hk := hS.1.1
  have hF := hX.1.1
  rcases inb_cs a (show k < 2 ^ 31 by omega) with ha | ⟨t, ht, rfl⟩
  · refine Op.q (r := .inr exI) hX hM hS ⟨M, ?_, ag.rf⟩ (fun M1 h1 => ⟨nI 0, nI 1, mw M1 24 2 (nI 1), ?_, ag.rf, .e1⟩)
    · unfold f_X6_turn
      rw [x_ct0 hF hS.1 ha, bt_x]
    · unfold f_X7_turn
      simp (disch := omega) only [bnd_e, chk_tt, bn_s, bt_s, bt_x, inb_n, nI_clamp, le_t, le_f, lt_t, lt_f, eq_f, nI_add, pk_mul, ne_eq, not_true_eq_false, not_false_eq_true, ↓reduceIte, L0_, L1_, L2_, L3_, L4_, L5_, L6_, L7_, L8_, L9_, L10_, L11_, L12_, L13_, L14_, L15_, L16_, L20_, L22_, L23_, L24_, L25_, L30_, L31_, L32_, L33_, L36_, L40_, L41_, L45_, L48_, L60_, L63_, L64_, L97_, L100_, L107_, L108_, L126_, L150_, L200_, L294_, L366_, L402_, L408_, L414_, L420_, L421_, L422_, L423_, L424_, L425_, L426_, L427_, L428_, L999_, L2568_, L2996_, m_t0 h1.1.1 hS.1 ha, f_X7_turn_28, mw_eq, n10]
  have h6 : t < 6 := by omega
  rcases inb_cs b (show 24 < 2 ^ 31 by omega) with hb | ⟨u, hu, rfl⟩
  · refine Op.q (r := .inr exA) hX hM hS ⟨M, ?_, ag.rf⟩ (fun M1 h1 => ⟨nI 0, nI 2, mw M1 24 2 (nI 2), ?_, ag.rf, .e2⟩)
    · unfold f_X6_turn
      rw [x_ct1 hF hS.1 ht, bt_s]
      exact ckF hb (by omega)
    · unfold f_X7_turn
      simp (disch := omega) only [bnd_e, chk_tt, bn_s, bt_s, bt_x, inb_n, nI_clamp, le_t, le_f, lt_t, lt_f, eq_f, nI_add, pk_mul, ne_eq, not_true_eq_false, not_false_eq_true, ↓reduceIte, L0_, L1_, L2_, L3_, L4_, L5_, L6_, L7_, L8_, L9_, L10_, L11_, L12_, L13_, L14_, L15_, L16_, L20_, L22_, L23_, L24_, L25_, L30_, L31_, L32_, L33_, L36_, L40_, L41_, L45_, L48_, L60_, L63_, L64_, L97_, L100_, L107_, L108_, L126_, L150_, L200_, L294_, L366_, L402_, L408_, L414_, L420_, L421_, L422_, L423_, L424_, L425_, L426_, L427_, L428_, L999_, L2568_, L2996_, m_t1 h1.1.1 hS.1, m_i0 (b := 23) (by omega) hb, f_X7_turn_28, mw_eq, n10, eq_f]
  refine Op.u (n' := nx n) (Sv' := pushS F n Sv) (l' := l) (B' := B) (k' := k) (F' := tuF F t u) (v := rightF (tuF F t u) t t 0) hM (JSnx hS (hS.1.tu h6)) ?_ (fun M1 h1 => ?_)
  · obtain ⟨M1, e1, x1, a1⟩ := hX.save
    obtain ⟨M2, e2, x2, a2⟩ := x_turn42 hS.1 h6 hu 24 0 FU M1 rfl (by decide) x1 (fun s hs => by omega)
    refine ⟨M2, ?_, x2, fun c i q => ?_⟩
    · unfold f_X6_turn
      rw [x_ct1 hF hS.1 ht, bt_s, if_neg (nI_pos (by omega)), show ((24 : Int32)) = nI 24 from rfl, if_pos ((nI_ltI (by omega) (by omega)).mpr hu), e1, bn_s, inb_n h6 (by omega), chk_tt, tw_35 (by omega), bnd_e]
      exact e2
    · rw [a2 c i q]
      exact a1.2 c i (by unfold aX at q; unfold xSv; omega)
  · obtain ⟨M2, e1, x1, a1⟩ := (h1.co (nI 0)).keep
    have hn := h1.1.2.2.1
    have hz := nx_b hn
    obtain ⟨M3, e2, x2, a2⟩ := m_turn56 (N := nx n) hS.1 h6 hu hz 24 0 FU M2 rfl (by decide) ⟨F, x1⟩ (fun i hi _ => x1.1.1 i hi) (fun i hi => by
      have := x1.1.2.2.2 (nx n - 1) i (by omega) hi
      rw [push_l hn, show 428 + 428 * (nx n - 1) + i = 428 * nx n + i by omega] at this
      exact this) (fun s hs => by omega)
    refine ⟨M3, ?_, x2, fun c i q => ?_, ?_, a2.1.trans a1.1⟩
    · unfold f_X7_turn
      simp (disch := omega) only [bnd_e, chk_tt, bn_s, bt_s, bt_x, inb_n, nI_clamp, le_t, le_f, lt_t, lt_f, eq_f, nI_add, pk_mul, ne_eq, not_true_eq_false, not_false_eq_true, ↓reduceIte, L0_, L1_, L2_, L3_, L4_, L5_, L6_, L7_, L8_, L9_, L10_, L11_, L12_, L13_, L14_, L15_, L16_, L20_, L22_, L23_, L24_, L25_, L30_, L31_, L32_, L33_, L36_, L40_, L41_, L45_, L48_, L60_, L63_, L64_, L97_, L100_, L107_, L108_, L126_, L150_, L200_, L294_, L366_, L402_, L408_, L414_, L420_, L421_, L422_, L423_, L424_, L425_, L426_, L427_, L428_, L999_, L2568_, L2996_, m_t1 h1.1.1 hS.1, m_i1, n10]
      unfold f_X7_turn_28
      rw [bnd_e, mw_eq, if_pos (show nI 0 = 0 from rfl), e1, bn_s, x1.1.2.1, show ((428 : Int32)) * nI (nx n) = nI (428 * nx n) from pk_mul 428 (nx n), bnd_e]
      exact e2
    · rw [a2.2 _ _ (by unfold aM at q; omega), a1.2 _ _ (by unfold aM at q; omega), mwn (by unfold aM at q; omega)]
    · rw [a2.2 _ _ (by omega), a1.2 _ _ (by omega), mw_eq]
theorem o_undo {M : Mem} (h : Jt M) : Op [exS] (f_X6_undo) (f_X7_undo) M := by
  obtain ⟨F, k, n, Sv, l, B, hX, hM, hS⟩ := h
  have hF := hX.1.1
  obtain ⟨p, hp, hSv⟩ := hX.1.2
  have hn := hp.1
  rcases Nat.eq_zero_or_pos n with q | q
  · subst q
    refine Op.q (r := .inr exS) hX hM hS ⟨M, ?_, ag.rf⟩ (fun M1 h1 => ⟨nI 0, nI 1, mw M1 24 2 (nI 1), ?_, ag.rf, .e1⟩)
    · unfold f_X6_undo
      rw [hp.2.1]
      simp (disch := omega) only [bnd_e, chk_tt, bn_s, bt_s, bt_x, inb_n, nI_clamp, le_t, le_f, lt_t, lt_f, eq_f, nI_add, pk_mul, ne_eq, not_true_eq_false, not_false_eq_true, ↓reduceIte, L0_, L1_, L2_, L3_, L4_, L5_, L6_, L7_, L8_, L9_, L10_, L11_, L12_, L13_, L14_, L15_, L16_, L20_, L22_, L23_, L24_, L25_, L30_, L31_, L32_, L33_, L36_, L40_, L41_, L45_, L48_, L60_, L63_, L64_, L97_, L100_, L107_, L108_, L126_, L150_, L200_, L294_, L366_, L402_, L408_, L414_, L420_, L421_, L422_, L423_, L424_, L425_, L426_, L427_, L428_, L999_, L2568_, L2996_]
    · unfold f_X7_undo
      rw [h1.1.2.1]
      simp (disch := omega) only [bnd_e, chk_tt, bn_s, bt_s, bt_x, inb_n, nI_clamp, le_t, le_f, lt_t, lt_f, eq_f, nI_add, pk_mul, ne_eq, not_true_eq_false, not_false_eq_true, ↓reduceIte, L0_, L1_, L2_, L3_, L4_, L5_, L6_, L7_, L8_, L9_, L10_, L11_, L12_, L13_, L14_, L15_, L16_, L20_, L22_, L23_, L24_, L25_, L30_, L31_, L32_, L33_, L36_, L40_, L41_, L45_, L48_, L60_, L63_, L64_, L97_, L100_, L107_, L108_, L126_, L150_, L200_, L294_, L366_, L402_, L408_, L414_, L420_, L421_, L422_, L423_, L424_, L425_, L426_, L427_, L428_, L999_, L2568_, L2996_, f_X7_undo_13, mw_eq, n10]
  · have e0 : nI n - nI 1 = nI (n - 1) := pk_sub (by omega)
    obtain ⟨k', hk'⟩ := hS.2.1 (n - 1) (by omega)
    have pj := hp.2.2.1 (n - 1) (by omega)
    refine Op.u (n' := n - 1) (Sv' := Sv) (l' := l) (B' := B) (k' := k') (F' := Sv (n - 1)) (v := nI (n - 1)) hM ⟨hk', fun j hj => hS.2.1 j (by omega), hS.2.2⟩ ?_ (fun M1 h1 => ?_)
    · have hX0 : JX (mw M 0 2 (nI (n - 1))) F (n - 1) Sv l B := by
        refine ⟨⟨fun i hi => ?_, p, ⟨by omega, by rw [mw_eq], fun j hj => by rw [mwn (by omega)]; exact hp.2.2.1 j hj, hp.2.2.2⟩, fun j hj i hi => ?_⟩, by rw [mwn (by omega)]; exact hX.2.1, fun i hi => by rw [mwn (by omega)]; exact hX.2.2 i hi⟩
        · rw [mwn (by omega)]; exact hF i hi
        · have := hp.2.2.1 j (by omega)
          rw [mwn (by omega)]; exact hSv j (by omega) i hi
      have hs : LR (mw M 0 2 (nI (n - 1))) (34 * p (n - 1)) (Sv (n - 1)) := fun i hi => by
        rw [mwn (by omega)]; exact hSv (n - 1) (by omega) i hi
      obtain ⟨M1, e1, a1, h1⟩ := x_tfL isL34 (isLp pj.2.1 pj.2.2) (by omega) hs
      have e2 : sv (mw M 0 2 (nI (n - 1))) 1 (nI (n - 1)) = 34 * p (n - 1) := by
        unfold sv
        rw [nI_clamp (by omega), mwn (by omega), pj.1, nI_clamp (by omega)]
      have e3 : M1.1 0 2 = nI (n - 1) := by rw [a1.2 _ _ (by omega), mw_eq]
      refine ⟨M1, ?_, hX0.set h1 (fun c i q => a1.2 c i (by omega)), fun c i q => by rw [a1.2 c i (by unfold aX at q; omega), mwn (by unfold aX at q; omega)]⟩
      unfold f_X6_undo
      rw [hp.2.1]
      simp (disch := omega) only [bnd_e, chk_tt, bn_s, bt_s, bt_x, inb_n, nI_clamp, le_t, le_f, lt_t, lt_f, eq_f, nI_add, pk_mul, ne_eq, not_true_eq_false, not_false_eq_true, ↓reduceIte, L0_, L1_, L2_, L3_, L4_, L5_, L6_, L7_, L8_, L9_, L10_, L11_, L12_, L13_, L14_, L15_, L16_, L20_, L22_, L23_, L24_, L25_, L30_, L31_, L32_, L33_, L36_, L40_, L41_, L45_, L48_, L60_, L63_, L64_, L97_, L100_, L107_, L108_, L126_, L150_, L200_, L294_, L366_, L402_, L408_, L414_, L420_, L421_, L422_, L423_, L424_, L425_, L426_, L427_, L428_, L999_, L2568_, L2996_, e0, mw_eq, e2, kbL (isLp pj.2.1 pj.2.2), e1, e3]
    · obtain ⟨M2, e2, a2, h2⟩ := m_copy (f := 428 + 428 * (n - 1)) (t := 0) (by omega) (by omega) (by omega) (mw (mw M1 24 2 (nI 0)) 24 1 (nI (n - 1)))
      have hM0 : JM (mw (mw M1 24 2 (nI 0)) 24 1 (nI (n - 1))) F (n - 1) Sv l B := by
        obtain ⟨⟨q1, q2, q3, q4⟩, q5, q6⟩ := h1
        exact ⟨⟨fun i hi => by rw [mwn (by omega), mwn (by omega)]; exact q1 i hi, by rw [mw_eq], by omega, fun j i hj hi => by rw [mwn (by omega), mwn (by omega)]; exact q4 j i (by omega) hi⟩, by rw [mwn (by omega), mwn (by omega)]; exact q5, fun i hi => by rw [mwn (by omega), mwn (by omega)]; exact q6 i hi⟩
      have e3 : M2.1 24 1 = nI (n - 1) := by rw [a2.2 _ _ (by omega), mw_eq]
      refine ⟨M2, ?_, hM0.set (fun i hi => ?_) (fun c i q => a2.2 c i (by omega)), fun c i q => ?_, ?_, a2.1⟩
      · unfold f_X7_undo
        rw [h1.1.2.1]
        simp (disch := omega) only [bnd_e, chk_tt, bn_s, bt_s, bt_x, inb_n, nI_clamp, le_t, le_f, lt_t, lt_f, eq_f, nI_add, pk_mul, ne_eq, not_true_eq_false, not_false_eq_true, ↓reduceIte, L0_, L1_, L2_, L3_, L4_, L5_, L6_, L7_, L8_, L9_, L10_, L11_, L12_, L13_, L14_, L15_, L16_, L20_, L22_, L23_, L24_, L25_, L30_, L31_, L32_, L33_, L36_, L40_, L41_, L45_, L48_, L60_, L63_, L64_, L97_, L100_, L107_, L108_, L126_, L150_, L200_, L294_, L366_, L402_, L408_, L414_, L420_, L421_, L422_, L423_, L424_, L425_, L426_, L427_, L428_, L999_, L2568_, L2996_, eq_f, f_X7_undo_13, mw_eq, mwn]
        rw [h1.1.2.1]
        simp (disch := omega) only [bnd_e, chk_tt, bn_s, bt_s, bt_x, inb_n, nI_clamp, le_t, le_f, lt_t, lt_f, eq_f, nI_add, pk_mul, ne_eq, not_true_eq_false, not_false_eq_true, ↓reduceIte, L0_, L1_, L2_, L3_, L4_, L5_, L6_, L7_, L8_, L9_, L10_, L11_, L12_, L13_, L14_, L15_, L16_, L20_, L22_, L23_, L24_, L25_, L30_, L31_, L32_, L33_, L36_, L40_, L41_, L45_, L48_, L60_, L63_, L64_, L97_, L100_, L107_, L108_, L126_, L150_, L200_, L294_, L366_, L402_, L408_, L414_, L420_, L421_, L422_, L423_, L424_, L425_, L426_, L427_, L428_, L999_, L2568_, L2996_, e0, e2, e3, mw_eq]
      · have := h2 i hi
        rw [Nat.zero_add] at this
        rw [this, mwn (by omega), mwn (by omega)]
        exact h1.1.2.2.2 (n - 1) i (by omega) hi
      · rw [a2.2 _ _ (by unfold aM at q; omega), mwn (by unfold aM at q; omega), mwn (by unfold aM at q; omega)]
      · rw [a2.2 _ _ (by omega), mwn (by omega), mw_eq]
