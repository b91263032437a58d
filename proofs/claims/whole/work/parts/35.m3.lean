/-! ===== the reference: copies, saved states ===== -/
theorem m_copy2 {f t : Nat} (hft : t + 428 ≤ f ∨ f + 428 ≤ t) (hf : f + 428 ≤ 3424) (ht : t + 428 ≤ 3424) : ∀ (c j n : Nat) (M : Mem), j + c = 428 → c < n → ∃ M', f_X7_copy_2 n (nI f) (nI t) (nI j) M = some ((), M') ∧ ag (fun a i => ¬ (a = 25 ∧ t ≤ i ∧ i < t + 428)) M M' ∧ (∀ i, i < 428 → j ≤ i → M'.1 25 (t + i) = M.1 25 (f + i)) ∧ ∀ i, i < j → M'.1 25 (t + i) = M.1 25 (t + i) := by
  intro c
  induction c with
  | zero =>
    intro j n M h hn
    obtain ⟨n, rfl, -⟩ := suc hn
    rw [f_X7_copy_2]
    simp (disch := omega) only [bnd_e, chk_tt, bn_s, bt_s, bt_x, inb_n, nI_clamp, le_t, le_f, lt_t, lt_f, eq_f, nI_add, pk_mul, ne_eq, not_true_eq_false, not_false_eq_true, ↓reduceIte, L0_, L1_, L2_, L3_, L4_, L5_, L6_, L7_, L8_, L9_, L10_, L11_, L12_, L13_, L14_, L15_, L16_, L20_, L22_, L23_, L24_, L25_, L30_, L31_, L32_, L33_, L36_, L40_, L41_, L45_, L48_, L60_, L63_, L64_, L97_, L100_, L107_, L108_, L126_, L150_, L200_, L294_, L366_, L402_, L408_, L414_, L420_, L421_, L422_, L423_, L424_, L425_, L426_, L427_, L428_, L999_, L2568_, L2996_]
    exact ⟨M, rfl, ag.rf, fun i h1 h2 => by omega, fun _ _ => rfl⟩
  | succ c ih =>
    intro j n M h hn
    obtain ⟨n, rfl, -⟩ := suc hn
    rw [f_X7_copy_2]
    simp (disch := omega) only [bnd_e, chk_tt, bn_s, bt_s, bt_x, inb_n, nI_clamp, le_t, le_f, lt_t, lt_f, eq_f, nI_add, pk_mul, ne_eq, not_true_eq_false, not_false_eq_true, ↓reduceIte, L0_, L1_, L2_, L3_, L4_, L5_, L6_, L7_, L8_, L9_, L10_, L11_, L12_, L13_, L14_, L15_, L16_, L20_, L22_, L23_, L24_, L25_, L30_, L31_, L32_, L33_, L36_, L40_, L41_, L45_, L48_, L60_, L63_, L64_, L97_, L100_, L107_, L108_, L126_, L150_, L200_, L294_, L366_, L402_, L408_, L414_, L420_, L421_, L422_, L423_, L424_, L425_, L426_, L427_, L428_, L999_, L2568_, L2996_]
    obtain ⟨M', h1, h2, h3, h4⟩ := ih (j + 1) n (mw M 25 (t + j) (M.1 25 (f + j))) (by omega) (by omega)
    refine ⟨M', h1, (ag.rf.w _ (fun q => q ⟨rfl, by omega, by omega⟩)).tr h2, fun i hi hj => ?_, fun i hi => ?_⟩
    · by_cases q : i = j
      · subst q
        rw [h4 i (by omega), mwr, if_pos ⟨rfl, rfl⟩]
      · rw [h3 i hi (by omega), mwr, if_neg (by omega)]
    · rw [h4 i (by omega), mwr, if_neg (by omega)]
theorem m_copy {f t : Nat} (hft : t + 428 ≤ f ∨ f + 428 ≤ t) (hf : f + 428 ≤ 3424) (ht : t + 428 ≤ 3424) (M : Mem) : ∃ M', f_X7_copy (nI f) (nI t) M = some ((), M') ∧ ag (fun a i => ¬ (a = 25 ∧ t ≤ i ∧ i < t + 428)) M M' ∧ ∀ i, i < 428 → M'.1 25 (t + i) = M.1 25 (f + i) := by
  obtain ⟨M', h1, h2, h3, -⟩ := m_copy2 hft hf ht 428 0 FU M rfl (by decide)
  exact ⟨M', h1, h2, fun i hi => h3 i hi (Nat.zero_le _)⟩
def nx (n : Nat) : Nat := if n < 6 then n + 1 else 6
def pushS (F : Nat → Int32) (n : Nat) (Sv : Nat → Nat → Int32) : Nat → Nat → Int32 := fun j i => if n < 6 then (if j = n then F i else Sv j i) else (if j = 5 then F i else Sv (j + 1) i)
/-- the reference's memory holds the land F and n saved ones -/
def Ms (M : Mem) (F : Nat → Int32) (n : Nat) (Sv : Nat → Nat → Int32) : Prop := Mo M F ∧ M.1 24 1 = nI n ∧ n ≤ 6 ∧ ∀ j i, j < n → i < 428 → M.1 25 (428 + 428 * j + i) = Sv j i
theorem m_keep51 {M : Mem} {F : Nat → Int32} {n : Nat} {Sv : Nat → Nat → Int32} (hn : n < 6) (h : Mo M F) (h1 : M.1 24 1 = nI n) (h2 : ∀ j i, j < n → i < 428 → M.1 25 (428 + 428 * j + i) = Sv j i) :
    ∃ M', f_X7_keep_51 M = some ((), M') ∧ Ms M' F (n + 1) (fun j i => if j = n then F i else Sv j i) ∧ ag (fun a i => ¬ (a = 25 ∧ 428 ≤ i ∧ i < 2996) ∧ ¬ (a = 24 ∧ i = 1)) M M' := by
  unfold f_X7_keep_51
  rw [h1]
  simp (disch := omega) only [bnd_e, chk_tt, bn_s, bt_s, bt_x, inb_n, nI_clamp, le_t, le_f, lt_t, lt_f, eq_f, nI_add, pk_mul, ne_eq, not_true_eq_false, not_false_eq_true, ↓reduceIte, L0_, L1_, L2_, L3_, L4_, L5_, L6_, L7_, L8_, L9_, L10_, L11_, L12_, L13_, L14_, L15_, L16_, L20_, L22_, L23_, L24_, L25_, L30_, L31_, L32_, L33_, L36_, L40_, L41_, L45_, L48_, L60_, L63_, L64_, L97_, L100_, L107_, L108_, L126_, L150_, L200_, L294_, L366_, L402_, L408_, L414_, L420_, L421_, L422_, L423_, L424_, L425_, L426_, L427_, L428_, L999_, L2568_, L2996_]
  obtain ⟨M1, e1, a1, c1⟩ := m_copy (f := 0) (t := 428 + 428 * n) (by omega) (by omega) (by omega) M
  rw [e1]
  have h3 : M1.1 24 1 = nI n := (a1.2 24 1 (by omega)).trans h1
  simp (disch := omega) only [bnd_e, chk_tt, bn_s, bt_s, bt_x, inb_n, nI_clamp, le_t, le_f, lt_t, lt_f, eq_f, nI_add, pk_mul, ne_eq, not_true_eq_false, not_false_eq_true, ↓reduceIte, L0_, L1_, L2_, L3_, L4_, L5_, L6_, L7_, L8_, L9_, L10_, L11_, L12_, L13_, L14_, L15_, L16_, L20_, L22_, L23_, L24_, L25_, L30_, L31_, L32_, L33_, L36_, L40_, L41_, L45_, L48_, L60_, L63_, L64_, L97_, L100_, L107_, L108_, L126_, L150_, L200_, L294_, L366_, L402_, L408_, L414_, L420_, L421_, L422_, L423_, L424_, L425_, L426_, L427_, L428_, L999_, L2568_, L2996_, h3]
  refine ⟨_, rfl, ⟨fun i hi => ?_, ?_, by omega, fun j i hj hi => ?_⟩, (a1.mono (fun c i q => by omega)).w _ (fun q => q.2 ⟨rfl, rfl⟩)⟩
  · rw [mwr, if_neg (by omega), a1.2 25 i (by omega)]
    exact h i hi
  · rw [mwr, if_pos ⟨rfl, rfl⟩]
  · rw [mwr, if_neg (by omega)]
    show _ = if j = n then F i else Sv j i
    by_cases q : j = n
    · subst q
      rw [c1 i hi, if_pos rfl, Nat.zero_add]
      exact h i hi
    · rw [if_neg q, a1.2 25 _ (by omega)]
      exact h2 j i (by omega) hi
theorem m_keep11 {Sv : Nat → Nat → Int32} {F : Nat → Int32} : ∀ (c j n : Nat) (M : Mem), j + c = 6 → 1 ≤ j → c < n → Mo M F → M.1 24 1 = nI 6 → (∀ a i, a + 1 < j → i < 428 → M.1 25 (428 + 428 * a + i) = Sv (a + 1) i) → (∀ a i, j ≤ a + 1 → a < 6 → i < 428 → (j ≤ a ∨ j = 1) → M.1 25 (428 + 428 * a + i) = Sv a i) →
    ∃ M', f_X7_keep_11 n (nI j) M = some ((), M') ∧ Ms M' F 6 (fun a i => if a = 5 then F i else Sv (a + 1) i) ∧ ag (fun a i => ¬ (a = 25 ∧ 428 ≤ i ∧ i < 2996) ∧ ¬ (a = 24 ∧ i = 1)) M M' := by
  intro c
  induction c with
  | zero =>
    intro j n M h hj hn hF h1 h2 h3
    obtain ⟨n, rfl, -⟩ := suc hn
    rw [f_X7_keep_11]
    simp (disch := omega) only [bnd_e, chk_tt, bn_s, bt_s, bt_x, inb_n, nI_clamp, le_t, le_f, lt_t, lt_f, eq_f, nI_add, pk_mul, ne_eq, not_true_eq_false, not_false_eq_true, ↓reduceIte, L0_, L1_, L2_, L3_, L4_, L5_, L6_, L7_, L8_, L9_, L10_, L11_, L12_, L13_, L14_, L15_, L16_, L20_, L22_, L23_, L24_, L25_, L30_, L31_, L32_, L33_, L36_, L40_, L41_, L45_, L48_, L60_, L63_, L64_, L97_, L100_, L107_, L108_, L126_, L150_, L200_, L294_, L366_, L402_, L408_, L414_, L420_, L421_, L422_, L423_, L424_, L425_, L426_, L427_, L428_, L999_, L2568_, L2996_, h1]
    rw [show nI 6 - nI 1 = nI 5 from rfl]
    have a0 : ag (fun a i => ¬ (a = 25 ∧ 428 ≤ i ∧ i < 2996) ∧ ¬ (a = 24 ∧ i = 1)) M (mw M 24 1 (nI 5)) := ag.rf.w _ (fun q => q.2 ⟨rfl, rfl⟩)
    obtain ⟨M', e, hs, a⟩ := m_keep51 (M := mw M 24 1 (nI 5)) (F := F) (n := 5) (Sv := fun a => Sv (a + 1)) (by omega) (fun i hi => by rw [mwr, if_neg (by omega)]; exact hF i hi) (by rw [mwr, if_pos ⟨rfl, rfl⟩]) (fun a i ha hi => by rw [mwr, if_neg (by omega)]; exact h2 a i (by omega) hi)
    exact ⟨M', e, hs, a0.tr a⟩
  | succ c ih =>
    intro j n M h hj hn hF h1 h2 h3
    obtain ⟨n, rfl, -⟩ := suc hn
    rw [f_X7_keep_11]
    simp (disch := omega) only [bnd_e, chk_tt, bn_s, bt_s, bt_x, inb_n, nI_clamp, le_t, le_f, lt_t, lt_f, eq_f, nI_add, pk_mul, ne_eq, not_true_eq_false, not_false_eq_true, ↓reduceIte, L0_, L1_, L2_, L3_, L4_, L5_, L6_, L7_, L8_, L9_, L10_, L11_, L12_, L13_, L14_, L15_, L16_, L20_, L22_, L23_, L24_, L25_, L30_, L31_, L32_, L33_, L36_, L40_, L41_, L45_, L48_, L60_, L63_, L64_, L97_, L100_, L107_, L108_, L126_, L150_, L200_, L294_, L366_, L402_, L408_, L414_, L420_, L421_, L422_, L423_, L424_, L425_, L426_, L427_, L428_, L999_, L2568_, L2996_]
    obtain ⟨M1, e1, a1, c1⟩ := m_copy (f := 428 + 428 * j) (t := 428 * j) (by omega) (by omega) (by omega) M
    rw [e1]
    simp (disch := omega) only [bnd_e, chk_tt, bn_s, bt_s, bt_x, inb_n, nI_clamp, le_t, le_f, lt_t, lt_f, eq_f, nI_add, pk_mul, ne_eq, not_true_eq_false, not_false_eq_true, ↓reduceIte, L0_, L1_, L2_, L3_, L4_, L5_, L6_, L7_, L8_, L9_, L10_, L11_, L12_, L13_, L14_, L15_, L16_, L20_, L22_, L23_, L24_, L25_, L30_, L31_, L32_, L33_, L36_, L40_, L41_, L45_, L48_, L60_, L63_, L64_, L97_, L100_, L107_, L108_, L126_, L150_, L200_, L294_, L366_, L402_, L408_, L414_, L420_, L421_, L422_, L423_, L424_, L425_, L426_, L427_, L428_, L999_, L2568_, L2996_]
    have g2 : ∀ a i, a + 1 < j + 1 → i < 428 → M1.1 25 (428 + 428 * a + i) = Sv (a + 1) i := by
      intro a i ha hi
      by_cases q : a + 1 = j
      · have := c1 i hi
        rw [show 428 + 428 * a + i = 428 * j + i by omega, this, q]
        exact h3 j i (by omega) (by omega) hi (by omega)
      · rw [a1.2 25 _ (by omega)]
        exact h2 a i (by omega) hi
    have g3 : ∀ a i, j + 1 ≤ a + 1 → a < 6 → i < 428 → (j + 1 ≤ a ∨ j + 1 = 1) → M1.1 25 (428 + 428 * a + i) = Sv a i := by
      intro a i ha ha6 hi ho
      rw [a1.2 25 _ (by omega)]
      exact h3 a i (by omega) ha6 hi (by omega)
    obtain ⟨M', e, hs, a⟩ := ih (j + 1) n M1 (by omega) (by omega) (by omega) (fun i hi => by rw [a1.2 25 i (by omega)]; exact hF i hi) (by rw [a1.2 24 1 (by omega)]; exact h1) g2 g3
    exact ⟨M', e, hs, (a1.mono (fun c i q => by omega)).tr a⟩
theorem m_keep {M : Mem} {F : Nat → Int32} {n : Nat} {Sv : Nat → Nat → Int32} (h : Ms M F n Sv) : ∃ M', f_X7_keep M = some ((), M') ∧ Ms M' F (nx n) (pushS F n Sv) ∧ ag (fun a i => ¬ (a = 25 ∧ 428 ≤ i ∧ i < 2996) ∧ ¬ (a = 24 ∧ i = 1)) M M' := by
  obtain ⟨hF, h1, hn, h2⟩ := h
  unfold f_X7_keep
  rw [h1]
  by_cases q : n = 6
  · subst q
    simp (disch := omega) only [bnd_e, chk_tt, bn_s, bt_s, bt_x, inb_n, nI_clamp, le_t, le_f, lt_t, lt_f, eq_f, nI_add, pk_mul, ne_eq, not_true_eq_false, not_false_eq_true, ↓reduceIte, L0_, L1_, L2_, L3_, L4_, L5_, L6_, L7_, L8_, L9_, L10_, L11_, L12_, L13_, L14_, L15_, L16_, L20_, L22_, L23_, L24_, L25_, L30_, L31_, L32_, L33_, L36_, L40_, L41_, L45_, L48_, L60_, L63_, L64_, L97_, L100_, L107_, L108_, L126_, L150_, L200_, L294_, L366_, L402_, L408_, L414_, L420_, L421_, L422_, L423_, L424_, L425_, L426_, L427_, L428_, L999_, L2568_, L2996_]
    obtain ⟨M', e, hs, a⟩ := m_keep11 (Sv := Sv) (F := F) 5 1 FU M rfl (by decide) (by decide) hF h1 (fun a i ha => by omega) (fun a i _ ha hi _ => h2 a i ha hi)
    exact ⟨M', e, hs, a⟩
  · simp (disch := omega) only [bnd_e, chk_tt, bn_s, bt_s, bt_x, inb_n, nI_clamp, le_t, le_f, lt_t, lt_f, eq_f, nI_add, pk_mul, ne_eq, not_true_eq_false, not_false_eq_true, ↓reduceIte, L0_, L1_, L2_, L3_, L4_, L5_, L6_, L7_, L8_, L9_, L10_, L11_, L12_, L13_, L14_, L15_, L16_, L20_, L22_, L23_, L24_, L25_, L30_, L31_, L32_, L33_, L36_, L40_, L41_, L45_, L48_, L60_, L63_, L64_, L97_, L100_, L107_, L108_, L126_, L150_, L200_, L294_, L366_, L402_, L408_, L414_, L420_, L421_, L422_, L423_, L424_, L425_, L426_, L427_, L428_, L999_, L2568_, L2996_]
    obtain ⟨M', e, hs, a⟩ := m_keep51 (by omega) hF h1 h2
    refine ⟨M', e, ?_, a⟩
    unfold nx pushS
    rw [if_pos (by omega)]
    simp only [show n < 6 by omega, if_true]
    exact hs
