/-! ===== the class: what is saved; what would sound ===== -/
/-- the class's memory: n saved lands, which lie where p says -/
def Xp (M : Mem) (n : Nat) (p : Nat → Nat) : Prop := n ≤ 6 ∧ M.1 0 2 = nI n ∧ (∀ j, j < 6 → M.1 1 j = nI (p j) ∧ 2 ≤ p j ∧ p j ≤ 7) ∧ ∀ i j, i < 6 → j < 6 → p i = p j → i = j
def Xs (M : Mem) (F : Nat → Int32) (n : Nat) (Sv : Nat → Nat → Int32) : Prop := LR M 34 F ∧ ∃ p, Xp M n p ∧ ∀ j, j < n → LR M (34 * p j) (Sv j)
theorem isLp {p : Nat} (h : 2 ≤ p) (h' : p ≤ 7) : isL (34 * p) := ⟨p - 1, by omega, by omega⟩
theorem sv_p {M : Mem} {n : Nat} {p : Nat → Nat} (h : Xp M n p) {j : Nat} (hj : j < 6) : sv M 1 (nI j) = 34 * p j := by
  have := h.2.2.1 j hj
  unfold sv
  rw [nI_clamp (by omega), this.1, nI_clamp (by omega)]
def xSv : Nat → Nat → Prop := fun c i => ¬ (68 ≤ c ∧ c < 272) ∧ c ≠ 1 ∧ ¬ (c = 0 ∧ i = 2)
theorem div34 (p : Nat) : 34 * p / 34 = p := by omega
theorem x_drop9 {p : Nat → Nat} (hp : ∀ j, j < 6 → 2 ≤ p j ∧ p j ≤ 7) : ∀ (c j n : Nat) (M : Mem), j + c = 6 → 1 ≤ j → c < n → (∀ i, i < 6 → M.1 1 i = nI (if i + 1 < j then p (i + 1) else p i)) →
    ∃ M', f_X6_dropOldest_9 n (34 * p 0) (nI j) M = some ((), M') ∧ ag (fun c i => c ≠ 1 ∧ ¬ (c = 0 ∧ i = 2)) M M' ∧ (∀ i, i < 6 → M'.1 1 i = nI (if i < 5 then p (i + 1) else p 0)) ∧ M'.1 0 2 = nI 5 := by
  intro c
  induction c with
  | zero =>
    intro j n M h h1 hn hM
    obtain ⟨n, rfl, -⟩ := suc hn
    obtain rfl : j = 6 := by omega
    have h0 := hp 0 (by omega)
    refine ⟨mw (mw M 1 5 (nI (p 0))) 0 2 (nI 5), ?_, (ag.rf.w _ (by omega)).w _ (by omega), fun i hi => ?_, by rw [mw_eq]⟩
    · rw [f_X6_dropOldest_9]
      simp (disch := omega) only [bnd_e, chk_tt, bn_s, bt_s, bt_x, inb_n, nI_clamp, le_t, le_f, lt_t, lt_f, eq_f, nI_add, pk_mul, ne_eq, not_true_eq_false, not_false_eq_true, ↓reduceIte, L0_, L1_, L2_, L3_, L4_, L5_, L6_, L7_, L8_, L9_, L10_, L11_, L12_, L13_, L14_, L15_, L16_, L20_, L22_, L23_, L24_, L25_, L30_, L31_, L32_, L33_, L36_, L40_, L41_, L45_, L48_, L60_, L63_, L64_, L97_, L100_, L107_, L108_, L126_, L150_, L200_, L294_, L366_, L402_, L408_, L414_, L420_, L421_, L422_, L423_, L424_, L425_, L426_, L427_, L428_, L999_, L2568_, L2996_, kb_t (kL (isLp h0.1 h0.2)), ofN, div34]
    · rw [mwn (by omega)]
      by_cases e : i = 5
      · subst e
        rw [mw_eq, if_neg (by omega)]
      · rw [mwn (by omega), hM i hi, if_pos (by omega), if_pos (by omega)]
  | succ c ih =>
    intro j n M h h1 hn hM
    obtain ⟨n, rfl, -⟩ := suc hn
    have hj := hp j (by omega)
    have hj' : sv M 1 (nI j) = 34 * p j := by
      unfold sv
      rw [nI_clamp (by omega), hM j (by omega), if_neg (by omega), nI_clamp (by omega)]
    have e1 : nI j - nI 1 = nI (j - 1) := pk_sub (by omega)
    obtain ⟨M1, e2, a1, h2, h3⟩ := ih (j + 1) n (mw M 1 (j - 1) (nI (p j))) (by omega) (by omega) (by omega) (fun i hi => by
      by_cases e : i = j - 1
      · subst e
        rw [mw_eq, if_pos (by omega), show j - 1 + 1 = j by omega]
      · rw [mwn (by omega), hM i hi]
        by_cases z : i + 1 < j
        · rw [if_pos z, if_pos (by omega)]
        · rw [if_neg z, if_neg (by omega)])
    refine ⟨M1, ?_, (ag.rf.w _ (by omega)).tr a1, h2, h3⟩
    rw [f_X6_dropOldest_9]
    simp (disch := omega) only [bnd_e, chk_tt, bn_s, bt_s, bt_x, inb_n, nI_clamp, le_t, le_f, lt_t, lt_f, eq_f, nI_add, pk_mul, ne_eq, not_true_eq_false, not_false_eq_true, ↓reduceIte, L0_, L1_, L2_, L3_, L4_, L5_, L6_, L7_, L8_, L9_, L10_, L11_, L12_, L13_, L14_, L15_, L16_, L20_, L22_, L23_, L24_, L25_, L30_, L31_, L32_, L33_, L36_, L40_, L41_, L45_, L48_, L60_, L63_, L64_, L97_, L100_, L107_, L108_, L126_, L150_, L200_, L294_, L366_, L402_, L408_, L414_, L420_, L421_, L422_, L423_, L424_, L425_, L426_, L427_, L428_, L999_, L2568_, L2996_, hj', e1, kb_t (kL (isLp hj.1 hj.2)), ofN, div34]
    exact e2
theorem x_save13 {M : Mem} {F : Nat → Int32} {n : Nat} {p : Nat → Nat} {Sv : Nat → Nat → Int32} (hn : n < 6) (hF : LR M 34 F) (hp : Xp M n p) (hS : ∀ j, j < n → LR M (34 * p j) (Sv j)) :
    ∃ M', f_X6_saveState_13 M = some ((), M') ∧ LR M' 34 F ∧ Xp M' (n + 1) p ∧ (∀ j, j < n → LR M' (34 * p j) (Sv j)) ∧ LR M' (34 * p n) F ∧ ag xSv M M' := by
  have q := hp.2.2.1 n hn
  obtain ⟨M1, e1, a1, h1⟩ := x_tfL (L := 34 * p n) (L' := 34) (isLp q.2.1 q.2.2) isL34 (by omega) hF
  have g : ∀ c i, c < 34 → M1.1 c i = M.1 c i := fun c i h => a1.2 c i (by omega)
  refine ⟨mw M1 0 2 (nI (n + 1)), ?_, ?_, ?_, ?_, ?_, ?_⟩
  · unfold f_X6_saveState_13
    simp (disch := omega) only [bnd_e, chk_tt, bn_s, bt_s, bt_x, inb_n, nI_clamp, le_t, le_f, lt_t, lt_f, eq_f, nI_add, pk_mul, ne_eq, not_true_eq_false, not_false_eq_true, ↓reduceIte, L0_, L1_, L2_, L3_, L4_, L5_, L6_, L7_, L8_, L9_, L10_, L11_, L12_, L13_, L14_, L15_, L16_, L20_, L22_, L23_, L24_, L25_, L30_, L31_, L32_, L33_, L36_, L40_, L41_, L45_, L48_, L60_, L63_, L64_, L97_, L100_, L107_, L108_, L126_, L150_, L200_, L294_, L366_, L402_, L408_, L414_, L420_, L421_, L422_, L423_, L424_, L425_, L426_, L427_, L428_, L999_, L2568_, L2996_, hp.2.1, sv_p hp, kbL (isLp q.2.1 q.2.2), e1, g]
  · exact (hF.ag a1 (fun c i _ _ => by omega)).o _ (by omega)
  · refine ⟨by omega, by rw [mw_eq], fun j hj => ?_, hp.2.2.2⟩
    rw [mwn (by omega), g _ _ (by omega)]
    exact hp.2.2.1 j hj
  · intro j hj
    have qj := hp.2.2.1 j (by omega)
    have ne : p j ≠ p n := fun e => by have := hp.2.2.2 j n (by omega) hn e; omega
    exact ((hS j hj).ag a1 (fun c i _ _ => by omega)).o _ (by omega)
  · exact h1.o _ (by omega)
  · exact (a1.mono (fun c i q => by unfold xSv at q; omega)).w _ (by unfold xSv; omega)
theorem x_saveA {M : Mem} {F : Nat → Int32} {n : Nat} {Sv : Nat → Nat → Int32} (h : Xs M F n Sv) (q : n < 6) : ∃ M', f_X6_saveState M = some ((), M') ∧ Xs M' F (nx n) (pushS F n Sv) ∧ ag xSv M M' := by
  obtain ⟨hF, p, hp, hS⟩ := h
  obtain ⟨M1, e1, h1, h2, h3, h4, a⟩ := x_save13 q hF hp hS
  have en : nx n = n + 1 := if_pos q
  refine ⟨M1, ?_, ⟨h1, p, ?_, ?_⟩, a⟩
  · unfold f_X6_saveState
    rw [hp.2.1]
    simp (disch := omega) only [bnd_e, chk_tt, bn_s, bt_s, bt_x, inb_n, nI_clamp, le_t, le_f, lt_t, lt_f, eq_f, nI_add, pk_mul, ne_eq, not_true_eq_false, not_false_eq_true, ↓reduceIte, L0_, L1_, L2_, L3_, L4_, L5_, L6_, L7_, L8_, L9_, L10_, L11_, L12_, L13_, L14_, L15_, L16_, L20_, L22_, L23_, L24_, L25_, L30_, L31_, L32_, L33_, L36_, L40_, L41_, L45_, L48_, L60_, L63_, L64_, L97_, L100_, L107_, L108_, L126_, L150_, L200_, L294_, L366_, L402_, L408_, L414_, L420_, L421_, L422_, L423_, L424_, L425_, L426_, L427_, L428_, L999_, L2568_, L2996_]
    exact e1
  · rw [en]; exact h2
  · intro j hj
    rw [en] at hj
    unfold pushS
    by_cases e : j = n
    · subst e
      exact h4.cg (fun i _ => by rw [if_pos q, if_pos rfl])
    · exact (h3 j (by omega)).cg (fun i _ => by rw [if_pos q, if_neg e])
def rotP (p : Nat → Nat) : Nat → Nat := fun j => if j < 5 then p (j + 1) else p 0
theorem rotP_1 {p : Nat → Nat} {j : Nat} (h : j < 5) : rotP p j = p (j + 1) := if_pos h
theorem rotP_2 {p : Nat → Nat} {j : Nat} (h : ¬ j < 5) : rotP p j = p 0 := if_neg h
theorem x_dropG {M : Mem} {p : Nat → Nat} (hp : Xp M 6 p) : f_X6_dropOldest M = f_X6_dropOldest_9 FU (34 * p 0) (nI 1) M := by
  have z := hp.2.2.1 0 (by omega)
  have e1 : sv M 1 (nI 0) = 34 * p 0 := sv_p hp (by omega)
  have e2 : kb (34 * p 0) 1 = true := kbL (isLp z.2.1 z.2.2)
  unfold f_X6_dropOldest
  rw [show (0 : Int32) = nI 0 from rfl, e1, e2, inb_n (by omega) (by omega), chk_tt, chk_tt, bnd_e]
  rfl
theorem x_dropB {M : Mem} {p : Nat → Nat} (hp : Xp M 6 p) : ∃ M', f_X6_dropOldest M = some ((), M') ∧ ag (fun c i => c ≠ 1 ∧ ¬ (c = 0 ∧ i = 2)) M M' ∧ (∀ i, i < 6 → M'.1 1 i = nI (rotP p i)) ∧ M'.1 0 2 = nI 5 := by
  have z := hp.2.2.1 0 (by omega)
  have h9 : 5 < FU := by show 5 < 100000; omega
  have h8 : ∀ i, i < 6 → M.1 1 i = nI (if i + 1 < 1 then p (i + 1) else p i) := fun i hi => by rw [if_neg (by omega)]; exact (hp.2.2.1 i hi).1
  obtain ⟨M0, e0, a0, h0, h0'⟩ := x_drop9 (p := p) (fun j hj => (hp.2.2.1 j hj).2) 5 1 FU M rfl (by omega) h9 h8
  refine ⟨M0, ?_, a0, h0, h0'⟩
  rw [x_dropG hp]
  exact e0
theorem rotP_ok {p : Nat → Nat} (hp : ∀ j, j < 6 → 2 ≤ p j ∧ p j ≤ 7) {j : Nat} (hj : j < 6) : 2 ≤ rotP p j ∧ rotP p j ≤ 7 := by
  by_cases e : j < 5
  · rw [rotP_1 e]; exact hp (j + 1) (by omega)
  · rw [rotP_2 e]; exact hp 0 (by omega)
theorem rotP_inj {p : Nat → Nat} (hp : ∀ i j, i < 6 → j < 6 → p i = p j → i = j) : ∀ i j, i < 6 → j < 6 → rotP p i = rotP p j → i = j := by
  intro i j hi hj
  by_cases e : i < 5
  · by_cases e' : j < 5
    · rw [rotP_1 e, rotP_1 e']
      intro w
      have := hp _ _ (by omega) (by omega) w
      omega
    · rw [rotP_1 e, rotP_2 e']
      intro w
      have := hp _ _ (by omega) (by omega) w
      omega
  · by_cases e' : j < 5
    · rw [rotP_2 e, rotP_1 e']
      intro w
      have := hp _ _ (by omega) (by omega) w
      omega
    · intro _; omega
theorem x_saveB {M : Mem} {F : Nat → Int32} {Sv : Nat → Nat → Int32} (h : Xs M F 6 Sv) : ∃ M', f_X6_saveState M = some ((), M') ∧ Xs M' F 6 (pushS F 6 Sv) ∧ ag xSv M M' := by
  obtain ⟨hF, p, hp, hS⟩ := h
  obtain ⟨M0, e0, a0, h0, h0'⟩ := x_dropB hp
  have hk : ∀ L F', 34 ≤ L → LR M L F' → LR M0 L F' := fun L F' hL hR => hR.ag a0 (fun c i _ _ => by omega)
  have r1 : ∀ j, j < 6 → M0.1 1 j = nI (rotP p j) ∧ 2 ≤ rotP p j ∧ rotP p j ≤ 7 := fun j hj => ⟨h0 j hj, rotP_ok (fun j hj => (hp.2.2.1 j hj).2) hj⟩
  obtain ⟨M1, e1, h1, h2, h3, h4, a⟩ := x_save13 (n := 5) (p := rotP p) (Sv := fun j => Sv (j + 1)) (by omega) (hk 34 F (by omega) hF) ⟨by omega, h0', r1, rotP_inj hp.2.2.2⟩ (fun j hj => by
    rw [rotP_1 hj]
    have := hp.2.2.1 (j + 1) (by omega)
    exact hk _ _ (by omega) (hS (j + 1) (by omega)))
  refine ⟨M1, ?_, ⟨h1, rotP p, h2, fun j hj => ?_⟩, (a0.mono (fun c i q => by unfold xSv at q; omega)).tr a⟩
  · unfold f_X6_saveState
    rw [hp.2.1]
    simp (disch := omega) only [bnd_e, chk_tt, bn_s, bt_s, bt_x, inb_n, nI_clamp, le_t, le_f, lt_t, lt_f, eq_f, nI_add, pk_mul, ne_eq, not_true_eq_false, not_false_eq_true, ↓reduceIte, L0_, L1_, L2_, L3_, L4_, L5_, L6_, L7_, L8_, L9_, L10_, L11_, L12_, L13_, L14_, L15_, L16_, L20_, L22_, L23_, L24_, L25_, L30_, L31_, L32_, L33_, L36_, L40_, L41_, L45_, L48_, L60_, L63_, L64_, L97_, L100_, L107_, L108_, L126_, L150_, L200_, L294_, L366_, L402_, L408_, L414_, L420_, L421_, L422_, L423_, L424_, L425_, L426_, L427_, L428_, L999_, L2568_, L2996_, e0]
    exact e1
  · by_cases e : j = 5
    · subst e
      exact h4.cg (fun i _ => by unfold pushS; rw [if_neg (by omega), if_pos rfl])
    · exact (h3 j (by omega)).cg (fun i _ => by unfold pushS; rw [if_neg (by omega), if_neg e])
theorem x_save {M : Mem} {F : Nat → Int32} {n : Nat} {Sv : Nat → Nat → Int32} (h : Xs M F n Sv) : ∃ M', f_X6_saveState M = some ((), M') ∧ Xs M' F (nx n) (pushS F n Sv) ∧ ag xSv M M' := by
  have hn : n ≤ 6 := by obtain ⟨_, p, hp, _⟩ := h; exact hp.1
  by_cases q : n < 6
  · exact x_saveA h q
  · obtain rfl : n = 6 := by omega
    exact x_saveB h
/-- what the class's questions leave as it was: all but its scratch -/
def xQ : Nat → Nat → Prop := fun c i => ¬ (4 < c ∧ c < 23) ∧ ¬ (2 ≤ c ∧ c < 5 ∧ (c = 4 ∨ c = 2 ∧ 3 ≤ i))
theorem LRq {M M' : Mem} {L : Nat} {F : Nat → Int32} (h : LR M L F) (a : ag xQ M M') (hL : 34 ≤ L) : LR M' L F := LR.ag h a (fun c i _ _ => by unfold xQ; omega)
section XF
variable {M : Mem} {k : Nat} {F : Nat → Int32}
theorem x_begin (h : LR M 34 F) {t : Nat} (ht : t < 6) : ∃ M', f_X1_begin (tc 34 t) 36 M = some ((), M') ∧ (∀ s, s < 24 → M'.1 6 s = drumF F t s) ∧ (∀ k, k < 12 → M'.1 7 k = wearF F t k) ∧ M'.1 5 4 = F 420 ∧ M'.1 5 5 = F 421 ∧ ag xP M M' := by
  obtain ⟨M1, e1, a1, h1⟩ := x_copy (M := M) (a := tc 34 t + 1) (b := 6) (kTd (kT isL34 ht)) rfl (alD isL34 ht) rfl (by omega)
  obtain ⟨M2, e2, a2, h2⟩ := x_copy (M := M1) (a := tc 34 t + 3) (b := 7) (kTw (kT isL34 ht)) rfl (alW isL34 ht) rfl (by omega)
  have hc : 40 ≤ tc 34 t := by unfold tc; omega
  refine ⟨mw (mw M2 5 4 (M2.1 36 0)) 5 5 (M2.1 36 1), ?_, fun s hs => ?_, fun s hs => ?_, ?_, ?_, ?_⟩
  · unfold f_X1_begin
    rw [show al 36 = 3 from rfl]
    simp (disch := omega) only [bnd_e, chk_tt, bn_s, bt_s, bt_x, inb_n, nI_clamp, le_t, le_f, lt_t, lt_f, eq_f, nI_add, pk_mul, ne_eq, not_true_eq_false, not_false_eq_true, ↓reduceIte, L0_, L1_, L2_, L3_, L4_, L5_, L6_, L7_, L8_, L9_, L10_, L11_, L12_, L13_, L14_, L15_, L16_, L20_, L22_, L23_, L24_, L25_, L30_, L31_, L32_, L33_, L36_, L40_, L41_, L45_, L48_, L60_, L63_, L64_, L97_, L100_, L107_, L108_, L126_, L150_, L200_, L294_, L366_, L402_, L408_, L414_, L420_, L421_, L422_, L423_, L424_, L425_, L426_, L427_, L428_, L999_, L2568_, L2996_, kbT isL34 ht, e1, e2, show kb 36 8 = true from rfl]
    simp (disch := omega) only [mwn]
  · simp (disch := omega) only [mwn]; rw [a2.2 _ _ (by omega), h1 s hs, h.drum ht hs]; rfl
  · simp (disch := omega) only [mwn]; rw [h2 s hs, a1.2 _ _ (by omega), h.wear ht hs]; rfl
  · simp (disch := omega) only [mwn, mw_eq]; rw [a2.2 _ _ (by omega), a1.2 _ _ (by omega)]; exact h.set0
  · simp (disch := omega) only [mw_eq]; rw [a2.2 _ _ (by omega), a1.2 _ _ (by omega)]; exact h.set1
  · exact (((a1.mono (fun c _ q => by unfold xP at q; omega)).tr (a2.mono (fun c _ q => by unfold xP at q; omega))).w _ (by unfold xP; omega)).w _ (by unfold xP; omega)
theorem x_foresee (h : LR M 34 F) (hS : SI F k) {t : Nat} (ht : t < 6) : ∃ M', f_X6_foresee (nI t) M = some ((), M') ∧ Px M' (F 421) (F 420) (plF F t) ∧ ag xP M M' := by
  obtain ⟨M1, e1, h1, h2, h3, h4, a1⟩ := x_begin h ht
  have hc : 40 ≤ tc 34 t := by unfold tc; omega
  obtain ⟨M2, e2, h5, a2⟩ := x_through (M := M1) (T := tuneF F t) (D := drumF F t) (W := wearF F t) (du := F 421) (re := F 420) (tk := tc 34 t + 2) (kTt (kT isL34 ht)) (aTt (kT isL34 ht)) (by omega) hS.2.2.2.1 (fun s hs => hS.2.2.1 _ (by omega) (by omega)) (fun s hs => hS.2.2.1 _ (by omega) (by omega)) (fun s hs => by rw [a1.2 _ _ (Or.inr (by omega)), h.tune ht hs]; rfl) h1 h2 h4 h3
  refine ⟨M2, ?_, h5, a1.tr a2⟩
  unfold f_X6_foresee
  simp (disch := omega) only [bnd_e, chk_tt, bn_s, bt_s, bt_x, inb_n, nI_clamp, le_t, le_f, lt_t, lt_f, eq_f, nI_add, pk_mul, ne_eq, not_true_eq_false, not_false_eq_true, ↓reduceIte, L0_, L1_, L2_, L3_, L4_, L5_, L6_, L7_, L8_, L9_, L10_, L11_, L12_, L13_, L14_, L15_, L16_, L20_, L22_, L23_, L24_, L25_, L30_, L31_, L32_, L33_, L36_, L40_, L41_, L45_, L48_, L60_, L63_, L64_, L97_, L100_, L107_, L108_, L126_, L150_, L200_, L294_, L366_, L402_, L408_, L414_, L420_, L421_, L422_, L423_, L424_, L425_, L426_, L427_, L428_, L999_, L2568_, L2996_, tw_35, e1, e2]
theorem x_tell {t w : Nat} (hw : w < 5) (h : Px M (F 421) (F 420) (plF F t)) : f_X1_tell (nI w) M = some (ifF F t w, M) := by
  obtain ⟨hD, hW, hL, hH, ⟨c0, c1, c2, c3, c4⟩, hdu, hre', hLb, hm⟩ := h
  unfold f_X1_tell
  rcases (show w = 0 ∨ w = 1 ∨ w = 2 ∨ w = 3 ∨ w = 4 by omega) with rfl | rfl | rfl | rfl | rfl
  · simp (disch := omega) only [bnd_e, chk_tt, bn_s, bt_s, bt_x, inb_n, nI_clamp, le_t, le_f, lt_t, lt_f, eq_f, nI_add, pk_mul, ne_eq, not_true_eq_false, not_false_eq_true, ↓reduceIte, L0_, L1_, L2_, L3_, L4_, L5_, L6_, L7_, L8_, L9_, L10_, L11_, L12_, L13_, L14_, L15_, L16_, L20_, L22_, L23_, L24_, L25_, L30_, L31_, L32_, L33_, L36_, L40_, L41_, L45_, L48_, L60_, L63_, L64_, L97_, L100_, L107_, L108_, L126_, L150_, L200_, L294_, L366_, L402_, L408_, L414_, L420_, L421_, L422_, L423_, L424_, L425_, L426_, L427_, L428_, L999_, L2568_, L2996_]; rw [c0]; rfl
  · simp (disch := omega) only [bnd_e, chk_tt, bn_s, bt_s, bt_x, inb_n, nI_clamp, le_t, le_f, lt_t, lt_f, eq_f, nI_add, pk_mul, ne_eq, not_true_eq_false, not_false_eq_true, ↓reduceIte, L0_, L1_, L2_, L3_, L4_, L5_, L6_, L7_, L8_, L9_, L10_, L11_, L12_, L13_, L14_, L15_, L16_, L20_, L22_, L23_, L24_, L25_, L30_, L31_, L32_, L33_, L36_, L40_, L41_, L45_, L48_, L60_, L63_, L64_, L97_, L100_, L107_, L108_, L126_, L150_, L200_, L294_, L366_, L402_, L408_, L414_, L420_, L421_, L422_, L423_, L424_, L425_, L426_, L427_, L428_, L999_, L2568_, L2996_, n10]; rw [c2]; rfl
  · simp (disch := omega) only [bnd_e, chk_tt, bn_s, bt_s, bt_x, inb_n, nI_clamp, le_t, le_f, lt_t, lt_f, eq_f, nI_add, pk_mul, ne_eq, not_true_eq_false, not_false_eq_true, ↓reduceIte, L0_, L1_, L2_, L3_, L4_, L5_, L6_, L7_, L8_, L9_, L10_, L11_, L12_, L13_, L14_, L15_, L16_, L20_, L22_, L23_, L24_, L25_, L30_, L31_, L32_, L33_, L36_, L40_, L41_, L45_, L48_, L60_, L63_, L64_, L97_, L100_, L107_, L108_, L126_, L150_, L200_, L294_, L366_, L402_, L408_, L414_, L420_, L421_, L422_, L423_, L424_, L425_, L426_, L427_, L428_, L999_, L2568_, L2996_, eq_f]; rw [c3]; rfl
  · simp (disch := omega) only [bnd_e, chk_tt, bn_s, bt_s, bt_x, inb_n, nI_clamp, le_t, le_f, lt_t, lt_f, eq_f, nI_add, pk_mul, ne_eq, not_true_eq_false, not_false_eq_true, ↓reduceIte, L0_, L1_, L2_, L3_, L4_, L5_, L6_, L7_, L8_, L9_, L10_, L11_, L12_, L13_, L14_, L15_, L16_, L20_, L22_, L23_, L24_, L25_, L30_, L31_, L32_, L33_, L36_, L40_, L41_, L45_, L48_, L60_, L63_, L64_, L97_, L100_, L107_, L108_, L126_, L150_, L200_, L294_, L366_, L402_, L408_, L414_, L420_, L421_, L422_, L423_, L424_, L425_, L426_, L427_, L428_, L999_, L2568_, L2996_, eq_f]; rw [c1]; rfl
  · simp (disch := omega) only [bnd_e, chk_tt, bn_s, bt_s, bt_x, inb_n, nI_clamp, le_t, le_f, lt_t, lt_f, eq_f, nI_add, pk_mul, ne_eq, not_true_eq_false, not_false_eq_true, ↓reduceIte, L0_, L1_, L2_, L3_, L4_, L5_, L6_, L7_, L8_, L9_, L10_, L11_, L12_, L13_, L14_, L15_, L16_, L20_, L22_, L23_, L24_, L25_, L30_, L31_, L32_, L33_, L36_, L40_, L41_, L45_, L48_, L60_, L63_, L64_, L97_, L100_, L107_, L108_, L126_, L150_, L200_, L294_, L366_, L402_, L408_, L414_, L420_, L421_, L422_, L423_, L424_, L425_, L426_, L427_, L428_, L999_, L2568_, L2996_, eq_f]; rw [hdu, x_dull (W := (plF F t).2.1) rfl rfl hW]; rfl
end XF
