/-! ===== texts: the runs ===== -/
def s0T : RS := (0, false, 0, 0, 0, fun _ => nI 0)
theorem TI0 : TI s0T := ⟨Nat.zero_le _, fun q => (by cases q), fun i hi => absurd hi (Nat.not_lt_zero i)⟩
theorem rnT_in {B : Nat → Int32} : ∀ (c i : Nat) (σ : RS), TI σ → (∀ σ', (rnT B c i σ).1 = some σ' → TI σ' ∧ (rnT B c i σ).2 = i + c) ∧ ((rnT B c i σ).1 = none → (rnT B c i σ).2 < i + c) := by
  intro c
  induction c with
  | zero =>
    intro i σ h
    refine ⟨fun σ' e => ?_, fun e => (by cases e)⟩
    injection e with e
    subst e
    exact ⟨h, rfl⟩
  | succ c ih =>
    intro i σ h
    cases e : stT σ (B i) with
    | none =>
      have q : rnT B (c + 1) i σ = (none, i) := by simp only [rnT, e]
      rw [q]
      exact ⟨fun σ' e => (by cases e), fun _ => (by dsimp only; omega)⟩
    | some σ' =>
      have q : rnT B (c + 1) i σ = rnT B c (i + 1) σ' := by simp only [rnT, e]
      rw [q]
      obtain ⟨h1, h2⟩ := ih (i + 1) σ' (stT_in h e)
      exact ⟨fun σ'' e => ⟨(h1 σ'' e).1, by rw [(h1 σ'' e).2]; omega⟩, fun e => by have := h2 e; omega⟩
section XR2
variable {B : Nat → Int32} {l : Nat}
theorem x_run33 (hl : l ≤ 60) : ∀ (c i n : Nat) (M : Mem) (σ : RS), i + c = l → c < n → TI σ → Tx M σ → M.1 2 1 = nI l → (∀ i, i < l → M.1 3 i = B i) →
    ∃ M', f_X5_readAll_33 n (nI i) M = some (nI (rnT B c i σ).2, M') ∧ ag xT M M' ∧ ∀ σ', (rnT B c i σ).1 = some σ' → Tx M' σ' := by
  intro c
  induction c with
  | zero =>
    intro i n M σ h hn hI hX h1 h2
    obtain ⟨n, rfl, -⟩ := suc hn
    obtain rfl : i = l := by omega
    refine ⟨M, ?_, ag.rf, fun σ' e => ?_⟩
    · rw [f_X5_readAll_33, h1, if_pos (Int32.le_refl _)]
      unfold f_X5_readAll_90
      rw [h1]
      rfl
    · injection e with e
      subst e
      exact hX
  | succ c ih =>
    intro i n M σ h hn hI hX h1 h2
    obtain ⟨n, rfl, -⟩ := suc hn
    have go : ∀ (g : Int32 → Mem → Option (Int32 × Mem)), (stT σ (B i) = none ∧ g (B i) M = some (nI 0, M)) ∨ (∃ σ' M', stT σ (B i) = some σ' ∧ g (B i) M = some (nI 1, M') ∧ Tx M' σ' ∧ ag xT M M') →
        ∃ M', bn (g (M.1 3 i) M) (fun r74 M74 => f_X5_readAll_77 (f_X5_readAll_33 n) (nI i) r74 M74) = some (nI (rnT B (c + 1) i σ).2, M') ∧ ag xT M M' ∧ ∀ σ', (rnT B (c + 1) i σ).1 = some σ' → Tx M' σ' := by
      intro g hg
      rw [h2 i (by omega)]
      rcases hg with ⟨e1, e2⟩ | ⟨σ', M', e1, e2, e3, e4⟩
      · have q : rnT B (c + 1) i σ = (none, i) := by simp only [rnT, e1]
        rw [e2, q]
        exact ⟨M, rfl, ag.rf, fun σ' e => (by cases e)⟩
      · have q : rnT B (c + 1) i σ = rnT B c (i + 1) σ' := by simp only [rnT, e1]
        rw [e2, q]
        obtain ⟨M2, e5, a5, h5⟩ := ih (i + 1) n M' σ' (by omega) (by omega) (stT_in hI e1) e3 (by rw [e4.2 _ _ (by unfold xT; omega)]; exact h1) (fun i hi => by rw [e4.2 _ _ (by unfold xT; omega)]; exact h2 i hi)
        refine ⟨M2, ?_, e4.tr a5, h5⟩
        rw [bn_s]
        unfold f_X5_readAll_77
        rw [if_neg (by decide), show ((1 : Int32)) = nI 1 from rfl, nI_add, bnd_e]
        exact e5
    obtain ⟨s, o, L, c9, m, R⟩ := σ
    cases o with
    | false =>
      have ho : M.1 2 4 = nI 0 := hX.2.1
      have := go f_X5_readOutside (x_out hX hI.1)
      rw [f_X5_readAll_33, h1, if_neg (by rw [nI_leI (by omega) (by omega)]; omega), if_neg (by rw [show ((60 : Int32)) = nI 60 from rfl, nI_leI (by omega) (by omega)]; omega), ho, if_pos (show nI 0 = 0 from rfl), inb_n (by omega) (by omega), chk_tt, nI_clamp (by omega)]
      exact this
    | true =>
      have ho : M.1 2 4 = nI 1 := hX.2.1
      have := go f_X5_readInside (x_ins hX hI)
      rw [f_X5_readAll_33, h1, if_neg (by rw [nI_leI (by omega) (by omega)]; omega), if_neg (by rw [show ((60 : Int32)) = nI 60 from rfl, nI_leI (by omega) (by omega)]; omega), ho, if_neg (show ¬ nI 1 = 0 by decide), inb_n (by omega) (by omega), chk_tt, nI_clamp (by omega)]
      exact this
theorem x_read2 (hl : l ≤ 60) : ∀ (c i n : Nat) (M : Mem), i + c = 24 → c < n → M.1 2 1 = nI l → (∀ i, i < l → M.1 3 i = B i) → (∀ j, j < i → M.1 4 j = nI 0) →
    ∃ M', f_X5_readAll_2 n (nI i) M = some (nI (rnT B l 0 s0T).2, M') ∧ ag xT M M' ∧ ∀ σ', (rnT B l 0 s0T).1 = some σ' → Tx M' σ' := by
  intro c
  induction c with
  | zero =>
    intro i n M h hn h1 h2 h3
    obtain ⟨n, rfl, -⟩ := suc hn
    obtain rfl : i = 24 := by omega
    obtain ⟨M1, e1, a1, q1⟩ := x_run33 (B := B) hl l 0 FU (mw (mw M 2 3 (nI 0)) 2 4 (nI 0)) s0T (by omega) (by show l < 100000; omega) TI0 ⟨by rw [mwn (by omega), mw_eq]; rfl, by rw [mw_eq]; rfl, fun q => (by cases q), fun i hi => by rw [mwn (by omega), mwn (by omega), h3 i hi]; exact (if_neg (Nat.not_lt_zero i)).symm⟩ (by rw [mwn (by omega), mwn (by omega)]; exact h1) (fun i hi => by rw [mwn (by omega), mwn (by omega)]; exact h2 i hi)
    refine ⟨M1, ?_, ((ag.rf.w _ (by unfold xT; omega)).w _ (by unfold xT; omega)).tr a1, q1⟩
    rw [f_X5_readAll_2, if_pos (show (24 : Int32) ≤ nI 24 from Int32.le_refl _), bnd_e, bnd_e]
    exact e1
  | succ c ih =>
    intro i n M h hn h1 h2 h3
    obtain ⟨n, rfl, -⟩ := suc hn
    obtain ⟨M1, e1, a1, q1⟩ := ih (i + 1) n (mw M 4 i (nI 0)) (by omega) (by omega) (by rw [mwn (by omega)]; exact h1) (fun i hi => by rw [mwn (by omega)]; exact h2 i hi) (fun j hj => by
      by_cases e : j = i
      · subst e; rw [mw_eq]
      · rw [mwn (by omega)]; exact h3 j (by omega))
    refine ⟨M1, ?_, (ag.rf.w _ (by unfold xT; omega)).tr a1, q1⟩
    rw [f_X5_readAll_2]
    simp (disch := omega) only [bnd_e, chk_tt, bn_s, bt_s, bt_x, inb_n, nI_clamp, le_t, le_f, lt_t, lt_f, eq_f, nI_add, pk_mul, ne_eq, not_true_eq_false, not_false_eq_true, ↓reduceIte, L0_, L1_, L2_, L3_, L4_, L5_, L6_, L7_, L8_, L9_, L10_, L11_, L12_, L13_, L14_, L15_, L16_, L20_, L22_, L23_, L24_, L25_, L30_, L31_, L32_, L33_, L36_, L40_, L41_, L45_, L48_, L60_, L63_, L64_, L97_, L100_, L107_, L108_, L126_, L150_, L200_, L294_, L366_, L402_, L408_, L414_, L420_, L421_, L422_, L423_, L424_, L425_, L426_, L427_, L428_, L999_, L2568_, L2996_]
    exact e1
theorem x_readAll {M : Mem} (hl : l ≤ 60) (h1 : M.1 2 1 = nI l) (h2 : ∀ i, i < l → M.1 3 i = B i) : ∃ M', f_X5_readAll M = some (nI (rnT B l 0 s0T).2, M') ∧ ag xT M M' ∧ ∀ σ', (rnT B l 0 s0T).1 = some σ' → Tx M' σ' :=
  x_read2 hl 24 0 FU M rfl (by decide) h1 h2 (fun j hj => by omega)
end XR2
def mT : Nat → Nat → Prop := fun c i => ¬ (c = 24 ∧ 15 ≤ i) ∧ c ≠ 30
section MT
variable {M : Mem}
theorem m_l1 {j : Nat} (hj : j < 12) : f_X7_in (nI (97 + j)) (nI 97) (nI 108) M = some (nI 1, M) := by
  rw [m_in]
  simp (disch := omega) only [bnd_e, chk_tt, bn_s, bt_s, bt_x, inb_n, nI_clamp, le_t, le_f, lt_t, lt_f, eq_f, nI_add, pk_mul, ne_eq, not_true_eq_false, not_false_eq_true, ↓reduceIte, L0_, L1_, L2_, L3_, L4_, L5_, L6_, L7_, L8_, L9_, L10_, L11_, L12_, L13_, L14_, L15_, L16_, L20_, L22_, L23_, L24_, L25_, L30_, L31_, L32_, L33_, L36_, L40_, L41_, L45_, L48_, L60_, L63_, L64_, L97_, L100_, L107_, L108_, L126_, L150_, L200_, L294_, L366_, L402_, L408_, L414_, L420_, L421_, L422_, L423_, L424_, L425_, L426_, L427_, L428_, L999_, L2568_, L2996_]
theorem m_l0 {x : Int32} (h : x < nI 97 ∨ nI 109 ≤ x) : f_X7_in x (nI 97) (nI 108) M = some (nI 0, M) := by
  rw [m_in]
  by_cases w : x < nI 97
  · rw [if_pos w]
  · rw [if_neg w, if_pos (Int32.lt_of_lt_of_le (by decide) (h.resolve_left w))]
theorem m_begins {s L c m : Nat} {R : Nat → Int32} {x : Int32} (h : Tm M (s, false, L, c, m, R)) (hs : s ≤ 24) :
    (stT (s, false, L, c, m, R) x = none ∧ ∃ M', f_X7_begins x M = some (nI 0, M') ∧ ag mT M M') ∨ ∃ σ' M', stT (s, false, L, c, m, R) x = some σ' ∧ f_X7_begins x M = some (nI 1, M') ∧ Tm M' σ' ∧ ag mT M M' := by
  have h1 : M.1 24 15 = nI s := h.1
  by_cases q : s = 24
  · subst q
    refine Or.inl ⟨stO_24, M, ?_, ag.rf⟩
    unfold f_X7_begins
    rw [h1]
    simp (disch := omega) only [bnd_e, chk_tt, bn_s, bt_s, bt_x, inb_n, nI_clamp, le_t, le_f, lt_t, lt_f, eq_f, nI_add, pk_mul, ne_eq, not_true_eq_false, not_false_eq_true, ↓reduceIte, L0_, L1_, L2_, L3_, L4_, L5_, L6_, L7_, L8_, L9_, L10_, L11_, L12_, L13_, L14_, L15_, L16_, L20_, L22_, L23_, L24_, L25_, L30_, L31_, L32_, L33_, L36_, L40_, L41_, L45_, L48_, L60_, L63_, L64_, L97_, L100_, L107_, L108_, L126_, L150_, L200_, L294_, L366_, L402_, L408_, L414_, L420_, L421_, L422_, L423_, L424_, L425_, L426_, L427_, L428_, L999_, L2568_, L2996_, f_X7_begins_32]
  have q' : s < 24 := by omega
  have fin : ∀ v : Int32, Tm (mw (mw (mw (mw (mw M 30 s v) 24 16 (nI 0)) 24 17 (-nI 1)) 24 18 (nI 0)) 24 15 (nI (s + 1))) (s + 1, false, 0, 0, 0, va_up R s v) ∧ ag mT M (mw (mw (mw (mw (mw M 30 s v) 24 16 (nI 0)) 24 17 (-nI 1)) 24 18 (nI 0)) 24 15 (nI (s + 1))) := by
    intro v
    refine ⟨⟨by rw [mw_eq], by rw [mwn (by omega), mwn (by omega), mwn (by omega), mw_eq]; rfl, fun q => (by cases q), fun i hi => ?_⟩, ((((ag.rf.w _ (by unfold mT; omega)).w _ (by unfold mT; omega)).w _ (by unfold mT; omega)).w _ (by unfold mT; omega)).w _ (by unfold mT; omega)⟩
    rw [mwn (by omega), mwn (by omega), mwn (by omega), mwn (by omega)]
    dsimp only at hi ⊢
    by_cases e : i = s
    · subst e; rw [mw_eq, va_up_self]
    · rw [mwn (by omega), va_up_ne _ _ e]; exact h.2.2.2 i (by dsimp only; omega)
  by_cases e1 : x = nI 40
  · subst e1
    refine Or.inr ⟨_, mw (mw (mw (mw (mw M 30 s (nI 0)) 24 16 (nI 1)) 24 17 (-nI 1)) 24 18 (nI 0)) 24 15 (nI s), stO_br q, ?_, ⟨by rw [mw_eq], by rw [mwn (by omega), mwn (by omega), mwn (by omega), mw_eq]; rfl, fun _ => ⟨by rw [mwn (by omega), mwn (by omega), mw_eq]; rfl, by rw [mwn (by omega), mw_eq], by rw [mwn (by omega), mwn (by omega), mwn (by omega), mwn (by omega), mw_eq]⟩, fun i hi => ?_⟩, ((((ag.rf.w _ (by unfold mT; omega)).w _ (by unfold mT; omega)).w _ (by unfold mT; omega)).w _ (by unfold mT; omega)).w _ (by unfold mT; omega)⟩
    · unfold f_X7_begins
      rw [h1]
      simp (disch := omega) only [bnd_e, chk_tt, bn_s, bt_s, bt_x, inb_n, nI_clamp, le_t, le_f, lt_t, lt_f, eq_f, nI_add, pk_mul, ne_eq, not_true_eq_false, not_false_eq_true, ↓reduceIte, L0_, L1_, L2_, L3_, L4_, L5_, L6_, L7_, L8_, L9_, L10_, L11_, L12_, L13_, L14_, L15_, L16_, L20_, L22_, L23_, L24_, L25_, L30_, L31_, L32_, L33_, L36_, L40_, L41_, L45_, L48_, L60_, L63_, L64_, L97_, L100_, L107_, L108_, L126_, L150_, L200_, L294_, L366_, L402_, L408_, L414_, L420_, L421_, L422_, L423_, L424_, L425_, L426_, L427_, L428_, L999_, L2568_, L2996_, eq_f, f_X7_begins_34, m_l0 (x := nI 40) (Or.inl (by decide)), h1, f_X7_begins_63, f_X7_begins_76, isb1, mwn, mw_eq, n10, f_X7_begins_106, Nat.add_zero]
    · rw [mwn (by omega), mwn (by omega), mwn (by omega), mwn (by omega), mwn (by dsimp only at hi; omega)]
      exact h.2.2.2 i hi
  by_cases e2 : x = nI 45
  · subst e2
    refine Or.inr ⟨_, _, stO_da q, ?_, (fin (nI 0)).1, (fin (nI 0)).2⟩
    unfold f_X7_begins
    rw [h1]
    simp (disch := omega) only [bnd_e, chk_tt, bn_s, bt_s, bt_x, inb_n, nI_clamp, le_t, le_f, lt_t, lt_f, eq_f, nI_add, pk_mul, ne_eq, not_true_eq_false, not_false_eq_true, ↓reduceIte, L0_, L1_, L2_, L3_, L4_, L5_, L6_, L7_, L8_, L9_, L10_, L11_, L12_, L13_, L14_, L15_, L16_, L20_, L22_, L23_, L24_, L25_, L30_, L31_, L32_, L33_, L36_, L40_, L41_, L45_, L48_, L60_, L63_, L64_, L97_, L100_, L107_, L108_, L126_, L150_, L200_, L294_, L366_, L402_, L408_, L414_, L420_, L421_, L422_, L423_, L424_, L425_, L426_, L427_, L428_, L999_, L2568_, L2996_, eq_f, f_X7_begins_34, m_l0 (x := nI 45) (Or.inl (by decide)), h1, f_X7_begins_63, f_X7_begins_76, isb0, mwn, mw_eq, n10, f_X7_begins_106]
  rcases ltr_cs x with ⟨e3, e4⟩ | ⟨j, hj, rfl⟩
  · refine Or.inl ⟨stO_no e1 e2 e3, M, ?_, ag.rf⟩
    unfold f_X7_begins
    rw [h1]
    simp (disch := omega) only [bnd_e, chk_tt, bn_s, bt_s, bt_x, inb_n, nI_clamp, le_t, le_f, lt_t, lt_f, eq_f, nI_add, pk_mul, ne_eq, not_true_eq_false, not_false_eq_true, ↓reduceIte, L0_, L1_, L2_, L3_, L4_, L5_, L6_, L7_, L8_, L9_, L10_, L11_, L12_, L13_, L14_, L15_, L16_, L20_, L22_, L23_, L24_, L25_, L30_, L31_, L32_, L33_, L36_, L40_, L41_, L45_, L48_, L60_, L63_, L64_, L97_, L100_, L107_, L108_, L126_, L150_, L200_, L294_, L366_, L402_, L408_, L414_, L420_, L421_, L422_, L423_, L424_, L425_, L426_, L427_, L428_, L999_, L2568_, L2996_, eq_f, e1, e2, m_l0 e4, f_X7_begins_32]
  · refine Or.inr ⟨_, _, stO_le q hj, ?_, (fin (nI (2 ^ j))).1, (fin (nI (2 ^ j))).2⟩
    unfold f_X7_begins
    rw [h1]
    simp (disch := omega) only [bnd_e, chk_tt, bn_s, bt_s, bt_x, inb_n, nI_clamp, le_t, le_f, lt_t, lt_f, eq_f, nI_add, pk_mul, ne_eq, not_true_eq_false, not_false_eq_true, ↓reduceIte, L0_, L1_, L2_, L3_, L4_, L5_, L6_, L7_, L8_, L9_, L10_, L11_, L12_, L13_, L14_, L15_, L16_, L20_, L22_, L23_, L24_, L25_, L30_, L31_, L32_, L33_, L36_, L40_, L41_, L45_, L48_, L60_, L63_, L64_, L97_, L100_, L107_, L108_, L126_, L150_, L200_, L294_, L366_, L402_, L408_, L414_, L420_, L421_, L422_, L423_, L424_, L425_, L426_, L427_, L428_, L999_, L2568_, L2996_, eq_f, m_l1 hj, n10, f_X7_begins_34, h1]
    rw [show nI (97 + j) - nI 97 = nI j from by rw [pk_sub (by omega)]; congr 1; omega, bit_e, bit_n j hj]
    simp (disch := omega) only [bnd_e, chk_tt, bn_s, bt_s, bt_x, inb_n, nI_clamp, le_t, le_f, lt_t, lt_f, eq_f, nI_add, pk_mul, ne_eq, not_true_eq_false, not_false_eq_true, ↓reduceIte, L0_, L1_, L2_, L3_, L4_, L5_, L6_, L7_, L8_, L9_, L10_, L11_, L12_, L13_, L14_, L15_, L16_, L20_, L22_, L23_, L24_, L25_, L30_, L31_, L32_, L33_, L36_, L40_, L41_, L45_, L48_, L60_, L63_, L64_, L97_, L100_, L107_, L108_, L126_, L150_, L200_, L294_, L366_, L402_, L408_, L414_, L420_, L421_, L422_, L423_, L424_, L425_, L426_, L427_, L428_, L999_, L2568_, L2996_, f_X7_begins_63, eq_f, f_X7_begins_76, isb0, mwn, mw_eq, h1, f_X7_begins_106]
theorem m_goes {s L c m : Nat} {R : Nat → Int32} {x : Int32} (h : Tm M (s, true, L, c, m, R)) (hi : TI (s, true, L, c, m, R)) :
    (stT (s, true, L, c, m, R) x = none ∧ ∃ M', f_X7_goesOn x M = some (nI 0, M') ∧ ag mT M M') ∨ ∃ σ' M', stT (s, true, L, c, m, R) x = some σ' ∧ f_X7_goesOn x M = some (nI 1, M') ∧ Tm M' σ' ∧ ag mT M M' := by
  have h1 : M.1 24 15 = nI s := h.1
  obtain ⟨h17, h18, h30⟩ : M.1 24 17 = nI L - nI 1 ∧ M.1 24 18 = nI c ∧ M.1 30 s = nI m := h.2.2.1 rfl
  obtain ⟨g1, g2, g3, g4, g5, g6, g7, g8, g9⟩ := hi.2.1 rfl
  dsimp only at g1 g2 g3 g4 g5 g6 g7 g8 g9
  by_cases e1 : x = nI 41
  · subst e1
    by_cases q : 2 ≤ c
    · refine Or.inr ⟨(s + 1, false, 0, 0, 0, va_up R s (nI m)), mw (mw M 24 16 (nI 0)) 24 15 (nI (s + 1)), by rw [stI_cl, if_pos q], ?_, ⟨by rw [mw_eq], by rw [mwn (by omega), mw_eq]; rfl, fun q => (by cases q), fun i hi => ?_⟩, (ag.rf.w _ (by unfold mT; omega)).w _ (by unfold mT; omega)⟩
      · unfold f_X7_goesOn
        rw [h18]
        simp (disch := omega) only [bnd_e, chk_tt, bn_s, bt_s, bt_x, inb_n, nI_clamp, le_t, le_f, lt_t, lt_f, eq_f, nI_add, pk_mul, ne_eq, not_true_eq_false, not_false_eq_true, ↓reduceIte, L0_, L1_, L2_, L3_, L4_, L5_, L6_, L7_, L8_, L9_, L10_, L11_, L12_, L13_, L14_, L15_, L16_, L20_, L22_, L23_, L24_, L25_, L30_, L31_, L32_, L33_, L36_, L40_, L41_, L45_, L48_, L60_, L63_, L64_, L97_, L100_, L107_, L108_, L126_, L150_, L200_, L294_, L366_, L402_, L408_, L414_, L420_, L421_, L422_, L423_, L424_, L425_, L426_, L427_, L428_, L999_, L2568_, L2996_, f_X7_goesOn_20, isb0, isb1, mwn, mw_eq, h1, f_X7_goesOn_40, f_X7_goesOn_56]
      · rw [mwn (by omega), mwn (by omega)]
        dsimp only at hi ⊢
        by_cases e : i = s
        · subst e; rw [va_up_self]; exact h30
        · rw [va_up_ne _ _ e]; exact h.2.2.2 i (by dsimp only; omega)
    · refine Or.inl ⟨by rw [stI_cl, if_neg q], mw (mw M 24 16 (nI 1)) 24 15 (nI s), ?_, (ag.rf.w _ (by unfold mT; omega)).w _ (by unfold mT; omega)⟩
      unfold f_X7_goesOn
      rw [h18]
      simp (disch := omega) only [bnd_e, chk_tt, bn_s, bt_s, bt_x, inb_n, nI_clamp, le_t, le_f, lt_t, lt_f, eq_f, nI_add, pk_mul, ne_eq, not_true_eq_false, not_false_eq_true, ↓reduceIte, L0_, L1_, L2_, L3_, L4_, L5_, L6_, L7_, L8_, L9_, L10_, L11_, L12_, L13_, L14_, L15_, L16_, L20_, L22_, L23_, L24_, L25_, L30_, L31_, L32_, L33_, L36_, L40_, L41_, L45_, L48_, L60_, L63_, L64_, L97_, L100_, L107_, L108_, L126_, L150_, L200_, L294_, L366_, L402_, L408_, L414_, L420_, L421_, L422_, L423_, L424_, L425_, L426_, L427_, L428_, L999_, L2568_, L2996_, f_X7_goesOn_20, isb0, isb1, mwn, mw_eq, n10, h1, f_X7_goesOn_40, f_X7_goesOn_56, Nat.add_zero]
  rcases ltr_cs x with ⟨e3, e4⟩ | ⟨j, hj, rfl⟩
  · refine Or.inl ⟨stI_no e1 e3, M, ?_, ag.rf⟩
    have e5 : f_X7_in x (nI 97) (nI 107) M = some (nI 0, M) := by
      rw [m_in]
      by_cases w : x < nI 97
      · rw [if_pos w]
      · rw [if_neg w, if_pos (Int32.lt_of_lt_of_le (by decide) (e4.resolve_left w))]
    unfold f_X7_goesOn
    rw [h18]
    by_cases z : c = 0
    · subst z
      simp (disch := omega) only [bnd_e, chk_tt, bn_s, bt_s, bt_x, inb_n, nI_clamp, le_t, le_f, lt_t, lt_f, eq_f, nI_add, pk_mul, ne_eq, not_true_eq_false, not_false_eq_true, ↓reduceIte, L0_, L1_, L2_, L3_, L4_, L5_, L6_, L7_, L8_, L9_, L10_, L11_, L12_, L13_, L14_, L15_, L16_, L20_, L22_, L23_, L24_, L25_, L30_, L31_, L32_, L33_, L36_, L40_, L41_, L45_, L48_, L60_, L63_, L64_, L97_, L100_, L107_, L108_, L126_, L150_, L200_, L294_, L366_, L402_, L408_, L414_, L420_, L421_, L422_, L423_, L424_, L425_, L426_, L427_, L428_, L999_, L2568_, L2996_, e1, f_X7_goesOn_74, e5, f_X7_goesOn_91]
    · simp (disch := omega) only [bnd_e, chk_tt, bn_s, bt_s, bt_x, inb_n, nI_clamp, le_t, le_f, lt_t, lt_f, eq_f, nI_add, pk_mul, ne_eq, not_true_eq_false, not_false_eq_true, ↓reduceIte, L0_, L1_, L2_, L3_, L4_, L5_, L6_, L7_, L8_, L9_, L10_, L11_, L12_, L13_, L14_, L15_, L16_, L20_, L22_, L23_, L24_, L25_, L30_, L31_, L32_, L33_, L36_, L40_, L41_, L45_, L48_, L60_, L63_, L64_, L97_, L100_, L107_, L108_, L126_, L150_, L200_, L294_, L366_, L402_, L408_, L414_, L420_, L421_, L422_, L423_, L424_, L425_, L426_, L427_, L428_, L999_, L2568_, L2996_, e1, eq_f, f_X7_goesOn_74, m_l0 e4, f_X7_goesOn_91]
  · have e97 : nI (97 + j) - nI 97 = nI j := by rw [pk_sub (by omega)]; congr 1; omega
    have hlt : (nI L - nI 1 < nI j) ↔ L ≤ j := by
      by_cases z : L = 0
      · subst z
        exact ⟨fun _ => Nat.zero_le _, fun _ => Int32.lt_of_lt_of_le (show nI 0 - nI 1 < nI 0 by decide) (by rw [nI_leI (by omega) (by omega)]; omega)⟩
      · rw [pk_sub (by omega), nI_ltI (by omega) (by omega)]
        omega
    have ein : (¬ (c = 0 ∧ j = 11)) → (if c = 0 then f_X7_in (nI (97 + j)) (nI 97) (nI 107) M else f_X7_in (nI (97 + j)) (nI 97) (nI 108) M) = some (nI 1, M) := by
      intro w
      by_cases z : c = 0
      · have : j ≠ 11 := fun e => w ⟨z, e⟩
        rw [if_pos z, m_in]
        simp (disch := omega) only [bnd_e, chk_tt, bn_s, bt_s, bt_x, inb_n, nI_clamp, le_t, le_f, lt_t, lt_f, eq_f, nI_add, pk_mul, ne_eq, not_true_eq_false, not_false_eq_true, ↓reduceIte, L0_, L1_, L2_, L3_, L4_, L5_, L6_, L7_, L8_, L9_, L10_, L11_, L12_, L13_, L14_, L15_, L16_, L20_, L22_, L23_, L24_, L25_, L30_, L31_, L32_, L33_, L36_, L40_, L41_, L45_, L48_, L60_, L63_, L64_, L97_, L100_, L107_, L108_, L126_, L150_, L200_, L294_, L366_, L402_, L408_, L414_, L420_, L421_, L422_, L423_, L424_, L425_, L426_, L427_, L428_, L999_, L2568_, L2996_]
      · rw [if_neg z, m_l1 hj]
    by_cases q : L ≤ j ∧ ¬ (c = 0 ∧ j = 11)
    · have hw := hlt.mpr q.1
      have hin := ein q.2
      refine Or.inr ⟨(s, true, j + 1, c + 1, m ||| 2 ^ j, R), mw (mw (mw M 24 17 (nI j)) 24 18 (nI (c + 1))) 30 s (nI (m ||| 2 ^ j)), by rw [stI_le hj, if_pos q], ?_, ⟨by rw [mwn (by omega), mwn (by omega), mwn (by omega)]; exact h1, by rw [mwn (by omega), mwn (by omega), mwn (by omega)]; exact h.2.1, fun _ => ⟨?_, ?_, ?_⟩, fun i hi => ?_⟩, ((ag.rf.w _ (by unfold mT; omega)).w _ (by unfold mT; omega)).w _ (by unfold mT; omega)⟩
      · have fin : f_X7_goesOn_74 (nI (97 + j)) (nI (97 + j)) (nI 97) (nI (if c = 0 then 107 else 108)) M = some (nI 1, mw (mw (mw M 24 17 (nI j)) 24 18 (nI (c + 1))) 30 s (nI (m ||| 2 ^ j))) := by
          unfold f_X7_goesOn_74
          have : f_X7_in (nI (97 + j)) (nI 97) (nI (if c = 0 then 107 else 108)) M = some (nI 1, M) := by
            by_cases z : c = 0
            · rw [if_pos z] at hin ⊢; exact hin
            · rw [if_neg z] at hin ⊢; exact hin
          rw [this]
          simp (disch := omega) only [bnd_e, chk_tt, bn_s, bt_s, bt_x, inb_n, nI_clamp, le_t, le_f, lt_t, lt_f, eq_f, nI_add, pk_mul, ne_eq, not_true_eq_false, not_false_eq_true, ↓reduceIte, L0_, L1_, L2_, L3_, L4_, L5_, L6_, L7_, L8_, L9_, L10_, L11_, L12_, L13_, L14_, L15_, L16_, L20_, L22_, L23_, L24_, L25_, L30_, L31_, L32_, L33_, L36_, L40_, L41_, L45_, L48_, L60_, L63_, L64_, L97_, L100_, L107_, L108_, L126_, L150_, L200_, L294_, L366_, L402_, L408_, L414_, L420_, L421_, L422_, L423_, L424_, L425_, L426_, L427_, L428_, L999_, L2568_, L2996_, n10, h17, e97, hw, mwn, mw_eq, h18, h1, h30, bit_e, bit_n j hj, nI_or]
        unfold f_X7_goesOn
        rw [h18]
        by_cases z : c = 0
        · subst z
          simp (disch := omega) only [bnd_e, chk_tt, bn_s, bt_s, bt_x, inb_n, nI_clamp, le_t, le_f, lt_t, lt_f, eq_f, nI_add, pk_mul, ne_eq, not_true_eq_false, not_false_eq_true, ↓reduceIte, L0_, L1_, L2_, L3_, L4_, L5_, L6_, L7_, L8_, L9_, L10_, L11_, L12_, L13_, L14_, L15_, L16_, L20_, L22_, L23_, L24_, L25_, L30_, L31_, L32_, L33_, L36_, L40_, L41_, L45_, L48_, L60_, L63_, L64_, L97_, L100_, L107_, L108_, L126_, L150_, L200_, L294_, L366_, L402_, L408_, L414_, L420_, L421_, L422_, L423_, L424_, L425_, L426_, L427_, L428_, L999_, L2568_, L2996_, eq_f]
          exact fin
        · rw [if_neg z] at fin
          simp (disch := omega) only [bnd_e, chk_tt, bn_s, bt_s, bt_x, inb_n, nI_clamp, le_t, le_f, lt_t, lt_f, eq_f, nI_add, pk_mul, ne_eq, not_true_eq_false, not_false_eq_true, ↓reduceIte, L0_, L1_, L2_, L3_, L4_, L5_, L6_, L7_, L8_, L9_, L10_, L11_, L12_, L13_, L14_, L15_, L16_, L20_, L22_, L23_, L24_, L25_, L30_, L31_, L32_, L33_, L36_, L40_, L41_, L45_, L48_, L60_, L63_, L64_, L97_, L100_, L107_, L108_, L126_, L150_, L200_, L294_, L366_, L402_, L408_, L414_, L420_, L421_, L422_, L423_, L424_, L425_, L426_, L427_, L428_, L999_, L2568_, L2996_, eq_f]
          exact fin
      · rw [mwn (by omega), mwn (by omega), mw_eq]
        show nI j = nI (j + 1) - nI 1
        rw [show nI (j + 1) - nI 1 = nI j from pk_sub (by omega)]
      · rw [mwn (by omega), mw_eq]
      · rw [mw_eq]
      · rw [mwn (by dsimp only at hi; omega), mwn (by omega), mwn (by omega)]
        exact h.2.2.2 i hi
    · refine Or.inl ⟨by rw [stI_le hj, if_neg q], M, ?_, ag.rf⟩
      unfold f_X7_goesOn
      rw [h18]
      by_cases z : c = 0 ∧ j = 11
      · obtain ⟨rfl, rfl⟩ := z
        have e5 : f_X7_in (nI (97 + 11)) (nI 97) (nI 107) M = some (nI 0, M) := by
          rw [m_in]
          simp (disch := omega) only [bnd_e, chk_tt, bn_s, bt_s, bt_x, inb_n, nI_clamp, le_t, le_f, lt_t, lt_f, eq_f, nI_add, pk_mul, ne_eq, not_true_eq_false, not_false_eq_true, ↓reduceIte, L0_, L1_, L2_, L3_, L4_, L5_, L6_, L7_, L8_, L9_, L10_, L11_, L12_, L13_, L14_, L15_, L16_, L20_, L22_, L23_, L24_, L25_, L30_, L31_, L32_, L33_, L36_, L40_, L41_, L45_, L48_, L60_, L63_, L64_, L97_, L100_, L107_, L108_, L126_, L150_, L200_, L294_, L366_, L402_, L408_, L414_, L420_, L421_, L422_, L423_, L424_, L425_, L426_, L427_, L428_, L999_, L2568_, L2996_]
        simp (disch := omega) only [bnd_e, chk_tt, bn_s, bt_s, bt_x, inb_n, nI_clamp, le_t, le_f, lt_t, lt_f, eq_f, nI_add, pk_mul, ne_eq, not_true_eq_false, not_false_eq_true, ↓reduceIte, L0_, L1_, L2_, L3_, L4_, L5_, L6_, L7_, L8_, L9_, L10_, L11_, L12_, L13_, L14_, L15_, L16_, L20_, L22_, L23_, L24_, L25_, L30_, L31_, L32_, L33_, L36_, L40_, L41_, L45_, L48_, L60_, L63_, L64_, L97_, L100_, L107_, L108_, L126_, L150_, L200_, L294_, L366_, L402_, L408_, L414_, L420_, L421_, L422_, L423_, L424_, L425_, L426_, L427_, L428_, L999_, L2568_, L2996_, eq_f, f_X7_goesOn_74, e5, f_X7_goesOn_91]
      · have hw : ¬ (nI L - nI 1 < nI j) := fun e => q ⟨hlt.mp e, z⟩
        have hin := ein z
        by_cases y : c = 0
        · rw [if_pos y] at hin
          subst y
          simp (disch := omega) only [bnd_e, chk_tt, bn_s, bt_s, bt_x, inb_n, nI_clamp, le_t, le_f, lt_t, lt_f, eq_f, nI_add, pk_mul, ne_eq, not_true_eq_false, not_false_eq_true, ↓reduceIte, L0_, L1_, L2_, L3_, L4_, L5_, L6_, L7_, L8_, L9_, L10_, L11_, L12_, L13_, L14_, L15_, L16_, L20_, L22_, L23_, L24_, L25_, L30_, L31_, L32_, L33_, L36_, L40_, L41_, L45_, L48_, L60_, L63_, L64_, L97_, L100_, L107_, L108_, L126_, L150_, L200_, L294_, L366_, L402_, L408_, L414_, L420_, L421_, L422_, L423_, L424_, L425_, L426_, L427_, L428_, L999_, L2568_, L2996_, eq_f, f_X7_goesOn_74, hin, n10, h17, e97, hw, f_X7_goesOn_91]
        · rw [if_neg y] at hin
          simp (disch := omega) only [bnd_e, chk_tt, bn_s, bt_s, bt_x, inb_n, nI_clamp, le_t, le_f, lt_t, lt_f, eq_f, nI_add, pk_mul, ne_eq, not_true_eq_false, not_false_eq_true, ↓reduceIte, L0_, L1_, L2_, L3_, L4_, L5_, L6_, L7_, L8_, L9_, L10_, L11_, L12_, L13_, L14_, L15_, L16_, L20_, L22_, L23_, L24_, L25_, L30_, L31_, L32_, L33_, L36_, L40_, L41_, L45_, L48_, L60_, L63_, L64_, L97_, L100_, L107_, L108_, L126_, L150_, L200_, L294_, L366_, L402_, L408_, L414_, L420_, L421_, L422_, L423_, L424_, L425_, L426_, L427_, L428_, L999_, L2568_, L2996_, eq_f, f_X7_goesOn_74, hin, n10, h17, e97, hw, f_X7_goesOn_91]
end MT
