/-! ===== texts: firstError, learn ===== -/
theorem m_err12 {B : Nat → Int32} {l : Nat} (hl : l ≤ 60) : ∀ (c i n : Nat) (M : Mem) (σ : RS), i + c = l → c < n → TI σ → Tm M σ → M.1 24 4 = nI l → (∀ i, i < l → M.1 26 i = B i) →
    ∃ M', f_X7_errorAt_12 n (nI i) M = some (nI (rnT B c i σ).2, M') ∧ ag mT M M' ∧ ∀ σ', (rnT B c i σ).1 = some σ' → Tm M' σ' := by
  intro c
  induction c with
  | zero =>
    intro i n M σ h hn hI hX h1 h2
    obtain ⟨n, rfl, -⟩ := suc hn
    obtain rfl : i = l := by omega
    refine ⟨M, ?_, ag.rf, fun σ' e => ?_⟩
    · rw [f_X7_errorAt_12, h1, if_pos (Int32.le_refl _)]
      rfl
    · injection e with e
      subst e
      exact hX
  | succ c ih =>
    intro i n M σ h hn hI hX h1 h2
    obtain ⟨n, rfl, -⟩ := suc hn
    have go : ∀ (g : Int32 → Mem → Option (Int32 × Mem)), (stT σ (B i) = none ∧ ∃ M', g (B i) M = some (nI 0, M') ∧ ag mT M M') ∨ (∃ σ' M', stT σ (B i) = some σ' ∧ g (B i) M = some (nI 1, M') ∧ Tm M' σ' ∧ ag mT M M') →
        ∃ M', bn (g (M.1 26 i) M) (fun r74 M74 => f_X7_errorAt_50 (f_X7_errorAt_12 n) (nI i) r74 M74) = some (nI (rnT B (c + 1) i σ).2, M') ∧ ag mT M M' ∧ ∀ σ', (rnT B (c + 1) i σ).1 = some σ' → Tm M' σ' := by
      intro g hg
      rw [h2 i (by omega)]
      rcases hg with ⟨e1, M', e2, e3⟩ | ⟨σ', M', e1, e2, e3, e4⟩
      · have q : rnT B (c + 1) i σ = (none, i) := by simp only [rnT, e1]
        rw [e2, q]
        exact ⟨M', rfl, e3, fun σ' e => (by cases e)⟩
      · have q : rnT B (c + 1) i σ = rnT B c (i + 1) σ' := by simp only [rnT, e1]
        rw [e2, q]
        obtain ⟨M2, e5, a5, h5⟩ := ih (i + 1) n M' σ' (by omega) (by omega) (stT_in hI e1) e3 (by rw [e4.2 _ _ (by unfold mT; omega)]; exact h1) (fun i hi => by rw [e4.2 _ _ (by unfold mT; omega)]; exact h2 i hi)
        refine ⟨M2, ?_, e4.tr a5, h5⟩
        rw [bn_s]
        unfold f_X7_errorAt_50
        rw [if_neg (by decide), show ((1 : Int32)) = nI 1 from rfl, nI_add, bnd_e]
        exact e5
    obtain ⟨s, o, L, c9, m, R⟩ := σ
    cases o with
    | false =>
      have ho : M.1 24 16 = nI 0 := hX.2.1
      have := go f_X7_begins (m_begins hX hI.1)
      rw [f_X7_errorAt_12, h1, if_neg (by rw [nI_leI (by omega) (by omega)]; omega), ho, if_pos (show nI 0 = 0 from rfl), inb_n (by omega) (by omega), chk_tt, nI_clamp (by omega)]
      exact this
    | true =>
      have ho : M.1 24 16 = nI 1 := hX.2.1
      have := go f_X7_goesOn (m_goes hX hI)
      rw [f_X7_errorAt_12, h1, if_neg (by rw [nI_leI (by omega) (by omega)]; omega), ho, if_neg (show ¬ nI 1 = 0 by decide), inb_n (by omega) (by omega), chk_tt, nI_clamp (by omega)]
      exact this
theorem m_errorAt {B : Nat → Int32} {l : Nat} {M : Mem} (hl : l ≤ 60) (h1 : M.1 24 4 = nI l) (h2 : ∀ i, i < l → M.1 26 i = B i) : ∃ M', f_X7_errorAt M = some (nI (rnT B l 0 s0T).2, M') ∧ ag mT M M' ∧ ∀ σ', (rnT B l 0 s0T).1 = some σ' → Tm M' σ' := by
  obtain ⟨M1, e1, a1, q1⟩ := m_err12 (B := B) hl l 0 FU (mw (mw M 24 15 (nI 0)) 24 16 (nI 0)) s0T (by omega) (by show l < 100000; omega) TI0 ⟨by rw [mwn (by omega), mw_eq]; rfl, by rw [mw_eq]; rfl, fun q => (by cases q), fun i hi => absurd hi (Nat.not_lt_zero i)⟩ (by rw [mwn (by omega), mwn (by omega)]; exact h1) (fun i hi => by rw [mwn (by omega), mwn (by omega)]; exact h2 i hi)
  refine ⟨M1, ?_, ((ag.rf.w _ (by unfold mT; omega)).w _ (by unfold mT; omega)).tr a1, q1⟩
  unfold f_X7_errorAt
  rw [bnd_e, bnd_e]
  exact e1
theorem xT_Q {M M' : Mem} (a : ag xT M M') : ag xQ M M' := a.mono (fun c i q => by unfold xQ at q; unfold xT; omega)
theorem mT_Q {M M' : Mem} (a : ag mT M M') : ag mQ M M' := a.mono (fun c i q => by unfold mQ at q; unfold mT; omega)
theorem o_firstError {M : Mem} (h : Jt M) : OpN f_X6_firstError f_X7_firstError M := by
  obtain ⟨F, k, n, Sv, l, B, hX, hM, hS⟩ := h
  obtain ⟨M1, e1, a1, _⟩ := x_readAll hS.2.2 hX.2.1 hX.2.2
  refine ⟨_, M1, by unfold f_X6_firstError; rw [e1, bn_s], fun M1' e => ?_⟩
  have hM1 : JM M1' F n Sv l B := hM.x (mX_aX a1 e (fun c i q => by unfold aX at q; unfold xT; omega))
  obtain ⟨M2, e2, a2, _⟩ := m_errorAt (M := mw M1' 24 2 (nI 0)) hS.2.2 (hM1.co (nI 0)).2.1 (hM1.co (nI 0)).2.2
  refine ⟨M2, ?_, F, k, n, Sv, l, B, ?_, (hM1.co (nI 0)).q (mT_Q a2), hS⟩
  · unfold f_X7_firstError
    rw [bnd_e, show ((0 : Int32)) = nI 0 from rfl, e2, bn_s]
  · have hX1 : JX M1' F n Sv l B := (hX.q (xT_Q a1)).cp (fun c i _ => by rw [e])
    exact hX1.cp (fun c i q => by rw [a2.2 c i (by unfold mT; omega)]; exact mwn (by omega))
def lnD (σ : RS) : Nat → Int32 := fun i => if i < σ.1 then σ.2.2.2.2.2 i else nI 0
theorem m_learn43 {F : Nat → Int32} {k t n l : Nat} {Sv : Nat → Nat → Int32} {B : Nat → Int32} {σ : RS} (ht : t < 6) (hI : TI σ) : ∀ (c j m : Nat) (M : Mem), j + c = 24 → c < m → JM M (putR F (150 + 24 * t) j (lnD σ)) n Sv l B → M.1 24 15 = nI σ.1 → (∀ i, i < σ.1 → M.1 30 i = σ.2.2.2.2.2 i) →
    ∃ M', f_X7_learn_43 m (nI t) (nI j) M = some (pinsF (putR F (150 + 24 * t) 24 (lnD σ)) 150 t, M') ∧ JM M' (putR F (150 + 24 * t) 24 (lnD σ)) n Sv 0 B ∧ ag (fun c i => ¬ (c = 25 ∧ i < 428) ∧ ¬ (c = 24 ∧ i = 4)) M M' := by
  have hs := hI.1
  intro c
  induction c with
  | zero =>
    intro j m M h hm hX h1 h2
    obtain ⟨m, rfl, -⟩ := suc hm
    obtain rfl : j = 24 := by omega
    have hX' : JM (mw M 24 4 (nI 0)) (putR F (150 + 24 * t) 24 (lnD σ)) n Sv 0 B := by
      obtain ⟨⟨q1, q2, q3, q4⟩, q5, q6⟩ := hX
      exact ⟨⟨fun i hi => by rw [mwn (by omega)]; exact q1 i hi, by rw [mwn (by omega)]; exact q2, q3, fun j i hj hi => by rw [mwn (by omega)]; exact q4 j i hj hi⟩, by rw [mw_eq], fun i hi => by omega⟩
    refine ⟨_, ?_, hX', ag.rf.w _ (by omega)⟩
    rw [f_X7_learn_43]
    simp (disch := omega) only [bnd_e, chk_tt, bn_s, bt_s, bt_x, inb_n, nI_clamp, le_t, le_f, lt_t, lt_f, eq_f, nI_add, pk_mul, ne_eq, not_true_eq_false, not_false_eq_true, ↓reduceIte, L0_, L1_, L2_, L3_, L4_, L5_, L6_, L7_, L8_, L9_, L10_, L11_, L12_, L13_, L14_, L15_, L16_, L20_, L22_, L23_, L24_, L25_, L30_, L31_, L32_, L33_, L36_, L40_, L41_, L45_, L48_, L60_, L63_, L64_, L97_, L100_, L107_, L108_, L126_, L150_, L200_, L294_, L366_, L402_, L408_, L414_, L420_, L421_, L422_, L423_, L424_, L425_, L426_, L427_, L428_, L999_, L2568_, L2996_, m_pins hX'.1.1]
  | succ c ih =>
    intro j m M h hm hX h1 h2
    obtain ⟨m, rfl, -⟩ := suc hm
    have hj : j < 24 := by omega
    have x2 := hX.w (lnD σ j) (show 150 + 24 * t + j < 428 by omega)
    rw [← putR_s] at x2
    obtain ⟨M2, e2, x3, a3⟩ := ih (j + 1) m _ (by omega) (by omega) x2 (by rw [mwn (by omega)]; exact h1) (fun i hi => by rw [mwn (by omega)]; exact h2 i hi)
    refine ⟨M2, ?_, x3, (ag.rf.w _ (by omega)).tr a3⟩
    rw [f_X7_learn_43]
    by_cases q : j < σ.1
    · have e : lnD σ j = σ.2.2.2.2.2 j := if_pos q
      simp (disch := omega) only [bnd_e, chk_tt, bn_s, bt_s, bt_x, inb_n, nI_clamp, le_t, le_f, lt_t, lt_f, eq_f, nI_add, pk_mul, ne_eq, not_true_eq_false, not_false_eq_true, ↓reduceIte, L0_, L1_, L2_, L3_, L4_, L5_, L6_, L7_, L8_, L9_, L10_, L11_, L12_, L13_, L14_, L15_, L16_, L20_, L22_, L23_, L24_, L25_, L30_, L31_, L32_, L33_, L36_, L40_, L41_, L45_, L48_, L60_, L63_, L64_, L97_, L100_, L107_, L108_, L126_, L150_, L200_, L294_, L366_, L402_, L408_, L414_, L420_, L421_, L422_, L423_, L424_, L425_, L426_, L427_, L428_, L999_, L2568_, L2996_, m_at, h1, f_X7_learn_79]
      rw [h2 j q, ← e]
      exact e2
    · have e : lnD σ j = nI 0 := if_neg q
      simp (disch := omega) only [bnd_e, chk_tt, bn_s, bt_s, bt_x, inb_n, nI_clamp, le_t, le_f, lt_t, lt_f, eq_f, nI_add, pk_mul, ne_eq, not_true_eq_false, not_false_eq_true, ↓reduceIte, L0_, L1_, L2_, L3_, L4_, L5_, L6_, L7_, L8_, L9_, L10_, L11_, L12_, L13_, L14_, L15_, L16_, L20_, L22_, L23_, L24_, L25_, L30_, L31_, L32_, L33_, L36_, L40_, L41_, L45_, L48_, L60_, L63_, L64_, L97_, L100_, L107_, L108_, L126_, L150_, L200_, L294_, L366_, L402_, L408_, L414_, L420_, L421_, L422_, L423_, L424_, L425_, L426_, L427_, L428_, L999_, L2568_, L2996_, m_at, h1, f_X7_learn_79]
      rw [e] at e2
      exact e2
theorem o_learn {M : Mem} (h : Jt M) (a : Int32) : Op [exI, exA] (f_X6_learn a) (f_X7_learn a) M := by
  obtain ⟨F, k, n, Sv, l, B, hX, hM, hS⟩ := h
  have hk := hS.1.1
  have hl := hS.2.2
  have hF := hX.1.1
  rcases inb_cs a (show k < 2 ^ 31 by omega) with ha | ⟨t, ht, rfl⟩
  · refine Op.q (r := .inr exI) hX hM hS ⟨M, ?_, ag.rf⟩ (fun M1 h1 => ⟨nI 0, nI 1, mw M1 24 2 (nI 1), ?_, ag.rf, .e1⟩)
    · unfold f_X6_learn
      rw [x_ct0 hF hS.1 ha, bt_x]
    · unfold f_X7_learn
      simp (disch := omega) only [bnd_e, chk_tt, bn_s, bt_s, bt_x, inb_n, nI_clamp, le_t, le_f, lt_t, lt_f, eq_f, nI_add, pk_mul, ne_eq, not_true_eq_false, not_false_eq_true, ↓reduceIte, L0_, L1_, L2_, L3_, L4_, L5_, L6_, L7_, L8_, L9_, L10_, L11_, L12_, L13_, L14_, L15_, L16_, L20_, L22_, L23_, L24_, L25_, L30_, L31_, L32_, L33_, L36_, L40_, L41_, L45_, L48_, L60_, L63_, L64_, L97_, L100_, L107_, L108_, L126_, L150_, L200_, L294_, L366_, L402_, L408_, L414_, L420_, L421_, L422_, L423_, L424_, L425_, L426_, L427_, L428_, L999_, L2568_, L2996_, m_t0 h1.1.1 hS.1 ha, f_X7_learn_25, mw_eq, n10]
  have h6 : t < 6 := by omega
  obtain ⟨Mx, ex, ax, qx⟩ := x_readAll (B := B) hl hX.2.1 hX.2.2
  have hlx : Mx.1 2 1 = nI l := by rw [ax.2 _ _ (by unfold xT; omega)]; exact hX.2.1
  obtain ⟨rn1, rn2⟩ := rnT_in (B := B) l 0 s0T TI0
  have mm : ∀ M1, JM M1 F n Sv l B → ∃ M', f_X7_errorAt M1 = some (nI (rnT B l 0 s0T).2, M') ∧ ag mT M1 M' ∧ ∀ σ', (rnT B l 0 s0T).1 = some σ' → Tm M' σ' := fun M1 h1 => m_errorAt hl h1.2.1 h1.2.2
  have bad : (∃ M', f_X6_learn (nI t) M = some (.inr exA, M') ∧ ag xQ M M') → (∀ M1, JM M1 F n Sv l B → ∃ M', f_X7_isTune M1 = some (nI 0, M') ∧ ag mT M1 M') → Op [exI, exA] (f_X6_learn (nI t)) (f_X7_learn (nI t)) M := by
    intro b1 b2
    refine Op.q (r := .inr exA) hX hM hS b1 (fun M1 h1 => ?_)
    obtain ⟨M2, e2, a2⟩ := b2 M1 h1
    refine ⟨nI 0, nI 2, mw M2 24 2 (nI 2), ?_, ⟨a2.1, fun c i q => ?_⟩, .e2⟩
    · unfold f_X7_learn
      simp (disch := omega) only [bnd_e, chk_tt, bn_s, bt_s, bt_x, inb_n, nI_clamp, le_t, le_f, lt_t, lt_f, eq_f, nI_add, pk_mul, ne_eq, not_true_eq_false, not_false_eq_true, ↓reduceIte, L0_, L1_, L2_, L3_, L4_, L5_, L6_, L7_, L8_, L9_, L10_, L11_, L12_, L13_, L14_, L15_, L16_, L20_, L22_, L23_, L24_, L25_, L30_, L31_, L32_, L33_, L36_, L40_, L41_, L45_, L48_, L60_, L63_, L64_, L97_, L100_, L107_, L108_, L126_, L150_, L200_, L294_, L366_, L402_, L408_, L414_, L420_, L421_, L422_, L423_, L424_, L425_, L426_, L427_, L428_, L999_, L2568_, L2996_, m_t1 h1.1.1 hS.1, n10, e2, f_X7_learn_25, mw_eq, eq_f]
    · by_cases e : c = 24 ∧ i = 2
      · obtain ⟨rfl, rfl⟩ := e
        rw [mw_eq, mw_eq]
      · rw [mwn e, mwn e]
        exact a2.2 c i (by unfold mQ at q; unfold mT; omega)
  cases er : (rnT B l 0 s0T).1 with
  | none =>
    have h3 := rn2 er
    refine bad ⟨Mx, ?_, xT_Q ax⟩ (fun M1 h1 => ?_)
    · unfold f_X6_learn
      rw [x_ct1 hF hS.1 ht, bt_s, ex, bn_s, hlx, if_pos (by rw [nI_ltI (by omega) (by omega)]; omega)]
      rfl
    · obtain ⟨M2, e2, a2, _⟩ := mm M1 h1
      have hl2 : M2.1 24 4 = nI l := by rw [a2.2 _ _ (by unfold mT; omega)]; exact h1.2.1
      refine ⟨M2, ?_, a2⟩
      unfold f_X7_isTune
      rw [e2, bn_s, hl2, if_neg (by rw [nI_eq (by omega) (by omega)]; omega)]
      rfl
  | some σ =>
    obtain ⟨hI, h3⟩ := rn1 σ er
    have h4 := hI.1
    have tx := qx σ er
    by_cases z : σ.2.1 = false ∧ 0 < σ.1
    · have hD : ∀ s, s < 24 → msk (lnD σ s) := fun s hs => by
        unfold lnD
        by_cases q : s < σ.1
        · rw [if_pos q]; exact hI.2.2 s q
        · rw [if_neg q]; exact msk0
      have s2 : SI (putR F (150 + 24 * t) 24 (lnD σ)) k := hS.1.put (fun s hs _ _ => hD s hs) (by omega)
      refine Op.u (n' := nx n) (Sv' := pushS F n Sv) (l' := 0) (B' := B) (k' := k) (F' := putR F (150 + 24 * t) 24 (lnD σ)) (v := pinsF (putR F (150 + 24 * t) 24 (lnD σ)) 150 t) hM ⟨s2, (JSnx hS s2).2.1, by omega⟩ ?_ (fun M1 h1 => ?_)
      · have hXx := hX.q (xT_Q ax)
        obtain ⟨M1, e1, x1, a1⟩ := hXx.save
        obtain ⟨M2, e2, a2, h2⟩ := x_copy (M := M1) (a := 4) (b := tc 34 t + 2) (n := 24) rfl (kTt (kT isL34 h6)) rfl (alU isL34 h6) (by omega)
        have hc : 44 ≤ tc 34 t ∧ tc 34 t + 3 < 68 := by unfold tc; omega
        have r1 : LR M2 34 (putR F (150 + 24 * t) 24 (lnD σ)) := LR.putT x1.1.1 h6 (fun s hs => by rw [h2 s hs, a1.2 _ _ (by unfold xSv; omega)]; exact tx.2.2.2 s hs) (fun c i _ _ q => a2.2 c i q)
        have x2 : JX M2 (putR F (150 + 24 * t) 24 (lnD σ)) (nx n) (pushS F n Sv) l B := x1.set r1 (fun c i q => a2.2 c i (by omega))
        have x3 : JX (mw M2 2 1 (nI 0)) (putR F (150 + 24 * t) 24 (lnD σ)) (nx n) (pushS F n Sv) 0 B := ⟨x2.1.cp (fun c i q => mwn (by omega)), by rw [mw_eq], fun i hi => by omega⟩
        refine ⟨_, ?_, x3, fun c i q => ?_⟩
        · have t3 : Mx.1 2 3 = nI σ.1 := tx.1
          have t4 : Mx.1 2 4 = nI 0 := by rw [tx.2.1, z.1]; rfl
          have hz := z.2
          have e5 : f_X5_isComplete Mx = some (nI 1, Mx) := by
            unfold f_X5_isComplete
            rw [t3, t4]
            simp (disch := omega) only [bnd_e, chk_tt, bn_s, bt_s, bt_x, inb_n, nI_clamp, le_t, le_f, lt_t, lt_f, eq_f, nI_add, pk_mul, ne_eq, not_true_eq_false, not_false_eq_true, ↓reduceIte, L0_, L1_, L2_, L3_, L4_, L5_, L6_, L7_, L8_, L9_, L10_, L11_, L12_, L13_, L14_, L15_, L16_, L20_, L22_, L23_, L24_, L25_, L30_, L31_, L32_, L33_, L36_, L40_, L41_, L45_, L48_, L60_, L63_, L64_, L97_, L100_, L107_, L108_, L126_, L150_, L200_, L294_, L366_, L402_, L408_, L414_, L420_, L421_, L422_, L423_, L424_, L425_, L426_, L427_, L428_, L999_, L2568_, L2996_, f_X5_isComplete_19, isb1]
          unfold f_X6_learn
          rw [x_ct1 hF hS.1 ht, bt_s, ex, bn_s, hlx, h3, if_neg (by rw [nI_ltI (by omega) (by omega)]; omega), e5, bn_s, if_neg (show ¬ nI 1 = 0 by decide), e1, bn_s]
          simp (disch := omega) only [bnd_e, chk_tt, bn_s, bt_s, bt_x, inb_n, nI_clamp, le_t, le_f, lt_t, lt_f, eq_f, nI_add, pk_mul, ne_eq, not_true_eq_false, not_false_eq_true, ↓reduceIte, L0_, L1_, L2_, L3_, L4_, L5_, L6_, L7_, L8_, L9_, L10_, L11_, L12_, L13_, L14_, L15_, L16_, L20_, L22_, L23_, L24_, L25_, L30_, L31_, L32_, L33_, L36_, L40_, L41_, L45_, L48_, L60_, L63_, L64_, L97_, L100_, L107_, L108_, L126_, L150_, L200_, L294_, L366_, L402_, L408_, L414_, L420_, L421_, L422_, L423_, L424_, L425_, L426_, L427_, L428_, L999_, L2568_, L2996_, tw_35, e2]
          rw [x_tune x3.1.1 isL34 s2 h6]
          simp (disch := omega) only [bnd_e, chk_tt, bn_s, bt_s, bt_x, inb_n, nI_clamp, le_t, le_f, lt_t, lt_f, eq_f, nI_add, pk_mul, ne_eq, not_true_eq_false, not_false_eq_true, ↓reduceIte, L0_, L1_, L2_, L3_, L4_, L5_, L6_, L7_, L8_, L9_, L10_, L11_, L12_, L13_, L14_, L15_, L16_, L20_, L22_, L23_, L24_, L25_, L30_, L31_, L32_, L33_, L36_, L40_, L41_, L45_, L48_, L60_, L63_, L64_, L97_, L100_, L107_, L108_, L126_, L150_, L200_, L294_, L366_, L402_, L408_, L414_, L420_, L421_, L422_, L423_, L424_, L425_, L426_, L427_, L428_, L999_, L2568_, L2996_]
        · unfold aX at q
          rw [mwn (by omega), a2.2 c i (by omega), a1.2 c i (by unfold xSv; omega), ax.2 c i (by unfold xT; omega)]
      · obtain ⟨M2, e2, a2, q2⟩ := mm M1 h1
        have tm := q2 σ er
        have hl2 : M2.1 24 4 = nI l := by rw [a2.2 _ _ (by unfold mT; omega)]; exact h1.2.1
        have t3 : M2.1 24 15 = nI σ.1 := tm.1
        have t4 : M2.1 24 16 = nI 0 := by rw [tm.2.1, z.1]; rfl
        have hz := z.2
        have e5 : f_X7_isTune M1 = some (nI 1, M2) := by
          unfold f_X7_isTune
          rw [e2, bn_s, hl2, h3, if_pos (by rw [Nat.zero_add]), t4, if_pos (show nI 0 = 0 from rfl), t3, if_neg (show ¬ nI σ.1 ≤ 0 by rw [show (0 : Int32) = nI 0 from rfl, nI_leI (by omega) (by omega)]; omega)]
          rfl
        obtain ⟨M3, e3, x3, a3⟩ := ((h1.q (mT_Q a2)).co (nI 0)).keep
        have x4 : JM M3 (putR F (150 + 24 * t) 0 (lnD σ)) (nx n) (pushS F n Sv) l B := by
          have : putR F (150 + 24 * t) 0 (lnD σ) = F := by funext i; exact putR_o (by omega)
          rw [this]; exact x3
        obtain ⟨M4, e4, x5, a4⟩ := m_learn43 (k := k) h6 hI 24 0 FU M3 rfl (by decide) x4 (by rw [a3.2 _ _ (by omega), mwn (by omega)]; exact t3) (fun i hi => by rw [a3.2 _ _ (by omega), mwn (by omega)]; exact tm.2.2.2 i hi)
        refine ⟨M4, ?_, x5, fun c i q => ?_, ?_, (a4.1.trans a3.1).trans a2.1⟩
        · unfold f_X7_learn
          simp (disch := omega) only [bnd_e, chk_tt, bn_s, bt_s, bt_x, inb_n, nI_clamp, le_t, le_f, lt_t, lt_f, eq_f, nI_add, pk_mul, ne_eq, not_true_eq_false, not_false_eq_true, ↓reduceIte, L0_, L1_, L2_, L3_, L4_, L5_, L6_, L7_, L8_, L9_, L10_, L11_, L12_, L13_, L14_, L15_, L16_, L20_, L22_, L23_, L24_, L25_, L30_, L31_, L32_, L33_, L36_, L40_, L41_, L45_, L48_, L60_, L63_, L64_, L97_, L100_, L107_, L108_, L126_, L150_, L200_, L294_, L366_, L402_, L408_, L414_, L420_, L421_, L422_, L423_, L424_, L425_, L426_, L427_, L428_, L999_, L2568_, L2996_, m_t1 h1.1.1 hS.1, n10, e5, f_X7_learn_25, mw_eq, e3]
          exact e4
        · unfold aM at q
          rw [a4.2 _ _ (by omega), a3.2 _ _ (by omega), mwn (by omega), a2.2 _ _ (by unfold mT; omega)]
        · rw [a4.2 _ _ (by omega), a3.2 _ _ (by omega), mw_eq]
    · have z' : (if σ.2.1 = true then nI 1 else nI 0) = nI 1 ∨ σ.1 = 0 := by
        cases o : σ.2.1 with
        | true => exact Or.inl rfl
        | false => exact Or.inr (by have : ¬ 0 < σ.1 := fun w => z ⟨o, w⟩; omega)
      refine bad ⟨Mx, ?_, xT_Q ax⟩ (fun M1 h1 => ?_)
      · have t3 : Mx.1 2 3 = nI σ.1 := tx.1
        have e5 : f_X5_isComplete Mx = some (nI 0, Mx) := by
          unfold f_X5_isComplete
          rw [t3]
          rcases z' with w | w
          · rw [tx.2.1, w]
            split
            · rfl
            · rfl
          · rw [w]
            rfl
        unfold f_X6_learn
        rw [x_ct1 hF hS.1 ht, bt_s, ex, bn_s, hlx, h3, if_neg (by rw [nI_ltI (by omega) (by omega)]; omega), e5, bn_s]
        rfl
      · obtain ⟨M2, e2, a2, q2⟩ := mm M1 h1
        have tm := q2 σ er
        have hl2 : M2.1 24 4 = nI l := by rw [a2.2 _ _ (by unfold mT; omega)]; exact h1.2.1
        have t3 : M2.1 24 15 = nI σ.1 := tm.1
        refine ⟨M2, ?_, a2⟩
        unfold f_X7_isTune
        rw [e2, bn_s, hl2, h3, if_pos (by rw [Nat.zero_add]), tm.2.1]
        rcases z' with w | w
        · rw [w]; rfl
        · rw [t3, w]
          split <;> rfl
