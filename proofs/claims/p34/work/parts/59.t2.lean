/-! ===== texts: the runs ===== -/
def s0T : RS := (0, false, 0, 0, 0, fun _ => nI 0)
theorem TI0 : TI s0T := ⟨Nat.zero_le _, fun q => (by cases q), fun i hi => absurd hi (Nat.not_lt_zero i)⟩
theorem rnT_in {B : Nat → Int32} : ∀ (c i : Nat) (σ : RS), TI σ → (∀ σ', (rnT B c i σ).1 = some σ' → TI σ' ∧ (rnT B c i σ).2 = i + c) ∧ ((rnT B c i σ).1 = none → (rnT B c i σ).2 < i + c) := by
  intro c
  induction c with
  | zero =>
    intro i σ h
    refine ⟨fun σ' e => ?_, fun e => (by cases e)⟩
    injection e with e
    subst e
    exact ⟨h, rfl⟩
  | succ c ih =>
    intro i σ h
    cases e : stT σ (B i) with
    | none =>
      have q : rnT B (c + 1) i σ = (none, i) := by simp only [rnT, e]
      rw [q]
      exact ⟨fun σ' e => (by cases e), fun _ => (by dsimp only; omega)⟩
    | some σ' =>
      have q : rnT B (c + 1) i σ = rnT B c (i + 1) σ' := by simp only [rnT, e]
      rw [q]
      obtain ⟨h1, h2⟩ := ih (i + 1) σ' (stT_in h e)
      exact ⟨fun σ'' e => ⟨(h1 σ'' e).1, by rw [(h1 σ'' e).2]; omega⟩, fun e => by have := h2 e; omega⟩
section XR2
variable {B : Nat → Int32} {l : Nat}
theorem x_run33 (hl : l ≤ 60) : ∀ (c i n : Nat) (M : Mem) (σ : RS), i + c = l → c < n → TI σ → Tx M σ → M.1 2 1 = nI l → (∀ i, i < l → M.1 3 i = B i) →
    ∃ M', f_X5_readAll_33 n (nI i) M = some (nI (rnT B c i σ).2, M') ∧ ag xT M M' ∧ ∀ σ', (rnT B c i σ).1 = some σ' → Tx M' σ' := by
  intro c
  induction c with
  | zero =>
    intro i n M σ h hn hI hX h1 h2
    obtain ⟨n, rfl, -⟩ := suc hn
    obtain rfl : i = l := by omega
    refine ⟨M, ?_, ag.rf, fun σ' e => ?_⟩
    · rw [f_X5_readAll_33, h1, if_pos (Int32.le_refl _)]
      unfold f_X5_readAll_90
      rw [h1]
      rfl
    · injection e with e
      subst e
      exact hX
  | succ c ih =>
    intro i n M σ h hn hI hX h1 h2
    obtain ⟨n, rfl, -⟩ := suc hn
    have go : ∀ (g : Int32 → Mem → Option (Int32 × Mem)), (stT σ (B i) = none ∧ g (B i) M = some (nI 0, M)) ∨ (∃ σ' M', stT σ (B i) = some σ' ∧ g (B i) M = some (nI 1, M') ∧ Tx M' σ' ∧ ag xT M M') →
        ∃ M', bn (g (M.1 3 i) M) (fun r74 M74 => f_X5_readAll_77 (f_X5_readAll_33 n) (nI i) r74 M74) = some (nI (rnT B (c + 1) i σ).2, M') ∧ ag xT M M' ∧ ∀ σ', (rnT B (c + 1) i σ).1 = some σ' → Tx M' σ' := by
      intro g hg
      rw [h2 i (by omega)]
      rcases hg with ⟨e1, e2⟩ | ⟨σ', M', e1, e2, e3, e4⟩
      · have q : rnT B (c + 1) i σ = (none, i) := by simp only [rnT, e1]
        rw [e2, q]
        exact ⟨M, rfl, ag.rf, fun σ' e => (by cases e)⟩
      · have q : rnT B (c + 1) i σ = rnT B c (i + 1) σ' := by simp only [rnT, e1]
        rw [e2, q]
        obtain ⟨M2, e5, a5, h5⟩ := ih (i + 1) n M' σ' (by omega) (by omega) (stT_in hI e1) e3 (by rw [e4.2 _ _ (by unfold xT; omega)]; exact h1) (fun i hi => by rw [e4.2 _ _ (by unfold xT; omega)]; exact h2 i hi)
        refine ⟨M2, ?_, e4.tr a5, h5⟩
        rw [bn_s]
        unfold f_X5_readAll_77
        rw [if_neg (by decide), show ((1 : Int32)) = nI 1 from rfl, nI_add, bnd_e]
        exact e5
    obtain ⟨s, o, L, c9, m, R⟩ := σ
    cases o with
    | false =>
      have ho : M.1 2 4 = nI 0 := hX.2.1
      have := go f_X5_readOutside (x_out hX hI.1)
      rw [f_X5_readAll_33, h1, if_neg (by rw [nI_leI (by omega) (by omega)]; omega), if_neg (by rw [show ((60 : Int32)) = nI 60 from rfl, nI_leI (by omega) (by omega)]; omega), ho, if_pos (show nI 0 = 0 from rfl), inb_n (by omega) (by omega), chk_tt, nI_clamp (by omega)]
      exact this
    | true =>
      have ho : M.1 2 4 = nI 1 := hX.2.1
      have := go f_X5_readInside (x_ins hX hI)
      rw [f_X5_readAll_33, h1, if_neg (by rw [nI_leI (by omega) (by omega)]; omega), if_neg (by rw [show ((60 : Int32)) = nI 60 from rfl, nI_leI (by omega) (by omega)]; omega), ho, if_neg (show ¬ nI 1 = 0 by decide), inb_n (by omega) (by omega), chk_tt, nI_clamp (by omega)]
      exact this
theorem x_read2 (hl : l ≤ 60) : ∀ (c i n : Nat) (M : Mem), i + c = 24 → c < n → M.1 2 1 = nI l → (∀ i, i < l → M.1 3 i = B i) → (∀ j, j < i → M.1 4 j = nI 0) →
    ∃ M', f_X5_readAll_2 n (nI i) M = some (nI (rnT B l 0 s0T).2, M') ∧ ag xT M M' ∧ ∀ σ', (rnT B l 0 s0T).1 = some σ' → Tx M' σ' := by
  intro c
  induction c with
  | zero =>
    intro i n M h hn h1 h2 h3
    obtain ⟨n, rfl, -⟩ := suc hn
    obtain rfl : i = 24 := by omega
    obtain ⟨M1, e1, a1, q1⟩ := x_run33 (B := B) hl l 0 FU (mw (mw M 2 3 (nI 0)) 2 4 (nI 0)) s0T (by omega) (by show l < 100000; omega) TI0 ⟨by rw [mwn (by omega), mw_eq]; rfl, by rw [mw_eq]; rfl, fun q => (by cases q), fun i hi => by rw [mwn (by omega), mwn (by omega), h3 i hi]; exact (if_neg (Nat.not_lt_zero i)).symm⟩ (by rw [mwn (by omega), mwn (by omega)]; exact h1) (fun i hi => by rw [mwn (by omega), mwn (by omega)]; exact h2 i hi)
    refine ⟨M1, ?_, ((ag.rf.w _ (by unfold xT; omega)).w _ (by unfold xT; omega)).tr a1, q1⟩
    rw [f_X5_readAll_2, if_pos (show (24 : Int32) ≤ nI 24 from Int32.le_refl _), bnd_e, bnd_e]
    exact e1
  | succ c ih =>
    intro i n M h hn h1 h2 h3
    obtain ⟨n, rfl, -⟩ := suc hn
    obtain ⟨M1, e1, a1, q1⟩ := ih (i + 1) n (mw M 4 i (nI 0)) (by omega) (by omega) (by rw [mwn (by omega)]; exact h1) (fun i hi => by rw [mwn (by omega)]; exact h2 i hi) (fun j hj => by
      by_cases e : j = i
      · subst e; rw [mw_eq]
      · rw [mwn (by omega)]; exact h3 j (by omega))
    refine ⟨M1, ?_, (ag.rf.w _ (by unfold xT; omega)).tr a1, q1⟩
    rw [f_X5_readAll_2]
    simp (disch := omega) only [bnd_e, chk_tt, bn_s, bt_s, bt_x, inb_n, nI_clamp, le_t, le_f, lt_t, lt_f, eq_f, nI_add, pk_mul, ne_eq, not_true_eq_false, not_false_eq_true, ↓reduceIte, L0_, L1_, L2_, L3_, L4_, L5_, L6_, L7_, L8_, L9_, L10_, L11_, L12_, L13_, L14_, L15_, L16_, L20_, L22_, L23_, L24_, L25_, L30_, L31_, L32_, L33_, L36_, L40_, L41_, L45_, L48_, L60_, L63_, L64_, L97_, L100_, L107_, L108_, L126_, L150_, L200_, L294_, L366_, L402_, L408_, L414_, L420_, L421_, L422_, L423_, L424_, L425_, L426_, L427_, L428_, L999_, L2568_, L2996_]
    exact e1
theorem x_readAll {M : Mem} (hl : l ≤ 60) (h1 : M.1 2 1 = nI l) (h2 : ∀ i, i < l → M.1 3 i = B i) : ∃ M', f_X5_readAll M = some (nI (rnT B l 0 s0T).2, M') ∧ ag xT M M' ∧ ∀ σ', (rnT B l 0 s0T).1 = some σ' → Tx M' σ' :=
  x_read2 hl 24 0 FU M rfl (by decide) h1 h2 (fun j hj => by omega)
end XR2
def mT : Nat → Nat → Prop := fun c i => ¬ (c = 24 ∧ 15 ≤ i) ∧ c ≠ 30
section MT
variable {M : Mem}
end MT
