/-! ===== playing, as numbers; the reference plays so ===== -/
theorem mwn {M : Mem} {k i c j : Nat} {v : Int32} (h : ¬ (c = k ∧ j = i)) : (mw M k i v).1 c j = M.1 c j := if_neg h
/-- drum, wear, latest sounds (99: never), what is heard, five counts: sounds, right sounds, stays, falls, right falls -/
abbrev PS : Type := (Nat → Int32) × (Nat → Int32) × (Nat → Nat) × (Nat → Int32) × (Nat → Int32)
def goP (T : Nat → Int32) (du re : Int32) (s k : Nat) (P : PS) : PS :=
  if P.2.1 k < du then
    (if P.2.2.1 k = 99 ∨ re ≤ nI s - nI (P.2.2.1 k) then
      (P.1, va_up P.2.1 k (P.2.1 k + nI 1), va_up P.2.2.1 k s, va_up P.2.2.2.1 s (P.2.2.2.1 s ||| bit k), va_up (va_up P.2.2.2.2 0 (P.2.2.2.2 0 + nI 1)) 1 (P.2.2.2.2 1 + bitK (T s) k))
    else (P.1, P.2.1, P.2.2.1, P.2.2.2.1, va_up P.2.2.2.2 2 (P.2.2.2.2 2 + nI 1)))
  else (va_up P.1 s (P.1 s &&& nbit k), P.2.1, P.2.2.1, P.2.2.2.1, va_up (va_up P.2.2.2.2 3 (P.2.2.2.2 3 + nI 1)) 4 (P.2.2.2.2 4 + bitK (T s) k))
/-- the teeth from k on, of the pins p, at step s -/
def teethP (T : Nat → Int32) (du re : Int32) (p : Int32) (s : Nat) : Nat → Nat → PS → PS
  | 0, _, P => P
  | c + 1, k, P => teethP T du re p s c (k + 1) (if bitK p k = nI 0 then P else goP T du re s k P)
def stepsP (T : Nat → Int32) (du re : Int32) : Nat → Nat → PS → PS
  | 0, _, P => P
  | c + 1, s, P => stepsP T du re c (s + 1) (teethP T du re (P.1 s) s 12 0 P)
def startP (D W : Nat → Int32) : PS := (D, W, fun _ => 99, fun _ => nI 0, fun _ => nI 0)
def playP (T : Nat → Int32) (du re : Int32) (D W : Nat → Int32) : PS := stepsP T du re 24 0 (startP D W)
def lmm (l : Nat) : Int32 := if l = 99 then -100 else nI l
def Pm (M : Mem) (b t : Nat) (T : Nat → Int32) (du re : Int32) (hs : Nat) (P : PS) : Prop :=
  (∀ s, s < 24 → M.1 25 (b + 6 + 24 * t + s) = P.1 s) ∧ (∀ k, k < 12 → M.1 25 (b + 294 + 12 * t + k) = P.2.1 k) ∧ (∀ k, k < 12 → M.1 27 k = lmm (P.2.2.1 k)) ∧ (∀ s, s < hs → M.1 28 s = P.2.2.2.1 s) ∧
  (M.1 24 7 = P.2.2.2.2 0 ∧ M.1 24 8 = P.2.2.2.2 1 ∧ M.1 24 9 = P.2.2.2.2 2 ∧ M.1 24 10 = P.2.2.2.2 3 ∧ M.1 24 11 = P.2.2.2.2 4) ∧ (∀ s, s < 24 → M.1 25 (b + 150 + 24 * t + s) = T s) ∧ M.1 25 (b + 421) = du ∧ M.1 25 (b + 420) = re ∧ (∀ k, k < 12 → P.2.2.1 k = 99 ∨ P.2.2.1 k < 24)
def QP (b t : Nat) : Nat → Nat → Prop := fun c i => ¬ (c = 24 ∧ 7 ≤ i ∧ i ≤ 11) ∧ c ≠ 27 ∧ c ≠ 28 ∧ ¬ (c = 25 ∧ (b + 6 + 24 * t ≤ i ∧ i < b + 6 + 24 * t + 24 ∨ b + 294 + 12 * t ≤ i ∧ i < b + 294 + 12 * t + 12))
theorem sub_never {s : Nat} (hs : s < 24) {r : Nat} (hr : r ≤ 24) : nI r ≤ nI s - (-100) := by
  rw [show nI s - (-100) = nI (s + 100) by rw [← nI_add]; exact Int32.sub_neg, le_t (by omega) (by omega)]
  trivial
theorem m_goTo {M : Mem} {b t hs : Nat} {T : Nat → Int32} {du re : Int32} {P : PS} (h : Pm M b t T du re hs P) (hb : b + 428 ≤ 3424) (ht : t < 6) (hre : ∃ r, r ≤ 24 ∧ re = nI r) {s k : Nat} (hs24 : s < 24) (hsh : s < hs) (hk : k < 12) :
    ∃ M', f_X7_goTo (nI b) (nI t) (nI s) (nI k) M = some ((), M') ∧ Pm M' b t T du re hs (goP T du re s k P) ∧ ag (QP b t) M M' := by
  obtain ⟨hD, hW, hL, hH, ⟨c0, c1, c2, c3, c4⟩, hT, hdu, hre', hLb⟩ := h
  obtain ⟨r, hr, rfl⟩ := hre
  unfold f_X7_goTo
  simp (disch := omega) only [bnd_e, chk_tt, bn_s, bt_s, bt_x, inb_n, nI_clamp, le_t, le_f, lt_t, lt_f, eq_f, nI_add, pk_mul, ne_eq, not_true_eq_false, not_false_eq_true, ↓reduceIte, L0_, L1_, L2_, L3_, L4_, L5_, L6_, L7_, L8_, L9_, L10_, L11_, L12_, L13_, L14_, L15_, L16_, L20_, L22_, L23_, L24_, L25_, L30_, L31_, L32_, L33_, L36_, L40_, L41_, L45_, L48_, L60_, L63_, L64_, L97_, L100_, L107_, L108_, L126_, L150_, L200_, L294_, L366_, L402_, L408_, L414_, L420_, L421_, L422_, L423_, L424_, L425_, L426_, L427_, L428_, L999_, L2568_, L2996_, m_at, m_has]
  rw [show b + (150 + 24 * t + s) = b + 150 + 24 * t + s by omega, hT s hs24, hW k hk, hdu, hre', hL k hk]
  unfold goP
  by_cases q : P.2.1 k < du
  · rw [if_pos q, if_pos q]
    have hc : (nI r ≤ nI s - lmm (P.2.2.1 k)) ↔ (P.2.2.1 k = 99 ∨ nI r ≤ nI s - nI (P.2.2.1 k)) := by
      unfold lmm
      by_cases z : P.2.2.1 k = 99
      · rw [if_pos z]
        exact ⟨fun _ => Or.inl z, fun _ => sub_never hs24 hr⟩
      · rw [if_neg z]
        exact ⟨fun h => Or.inr h, fun h => h.resolve_left z⟩
    by_cases z : P.2.2.1 k = 99 ∨ nI r ≤ nI s - nI (P.2.2.1 k)
    · rw [if_pos z, if_pos (hc.mpr z)]
      have fin : ∀ x : Int32, x = bitK (T s) k → ∃ M', f_X7_goTo_172 (nI s) (nI k) (nI (b + 294 + 12 * t + k)) ((mw M 24 7 (M.1 24 7 + nI 1)).1 24 8) x (mw M 24 7 (M.1 24 7 + nI 1)) = some ((), M') ∧ Pm M' b t T du (nI r) hs (P.1, va_up P.2.1 k (P.2.1 k + nI 1), va_up P.2.2.1 k s, va_up P.2.2.2.1 s (P.2.2.2.1 s ||| bit k), va_up (va_up P.2.2.2.2 0 (P.2.2.2.2 0 + nI 1)) 1 (P.2.2.2.2 1 + bitK (T s) k)) ∧ ag (QP b t) M M' := by
        intro x hx
        subst hx
        unfold f_X7_goTo_172 f_X7_goTo_208
        simp (disch := omega) only [bnd_e, chk_tt, bn_s, bt_s, bt_x, inb_n, nI_clamp, le_t, le_f, lt_t, lt_f, eq_f, nI_add, pk_mul, ne_eq, not_true_eq_false, not_false_eq_true, ↓reduceIte, L0_, L1_, L2_, L3_, L4_, L5_, L6_, L7_, L8_, L9_, L10_, L11_, L12_, L13_, L14_, L15_, L16_, L20_, L22_, L23_, L24_, L25_, L30_, L31_, L32_, L33_, L36_, L40_, L41_, L45_, L48_, L60_, L63_, L64_, L97_, L100_, L107_, L108_, L126_, L150_, L200_, L294_, L366_, L402_, L408_, L414_, L420_, L421_, L422_, L423_, L424_, L425_, L426_, L427_, L428_, L999_, L2568_, L2996_, mwn, mw_eq]
        refine ⟨_, rfl, ⟨fun s' hs' => ?_, fun k' hk' => ?_, fun k' hk' => ?_, fun s' hs' => ?_, ⟨?_, ?_, ?_, ?_, ?_⟩, fun s' hs' => ?_, ?_, ?_, fun k' hk' => ?_⟩, ?_⟩
        · simp (disch := omega) only [mwn]; exact hD s' hs'
        · by_cases e : k' = k
          · subst e; simp (disch := omega) only [mw_eq, va_up_self]; rw [hW k' hk']
          · simp (disch := omega) only [mwn, va_up_ne]; exact hW k' hk'
        · by_cases e : k' = k
          · subst e; simp (disch := omega) only [mwn, mw_eq, va_up_self, lmm]; rw [if_neg (by omega)]
          · simp (disch := omega) only [mwn, va_up_ne]; exact hL k' hk'
        · by_cases e : s' = s
          · subst e; simp (disch := omega) only [mwn, mw_eq, va_up_self]; rw [hH s' hs']; rfl
          · simp (disch := omega) only [mwn, va_up_ne]; exact hH s' hs'
        · simp (disch := omega) only [mwn, mw_eq, va_up_ne, va_up_self]; rw [c0]
        · simp (disch := omega) only [mwn, mw_eq, va_up_ne, va_up_self]; rw [c1]
        · simp (disch := omega) only [mwn, mw_eq, va_up_ne, va_up_self]; exact c2
        · simp (disch := omega) only [mwn, mw_eq, va_up_ne, va_up_self]; exact c3
        · simp (disch := omega) only [mwn, mw_eq, va_up_ne, va_up_self]; exact c4
        · simp (disch := omega) only [mwn]; exact hT s' hs'
        · simp (disch := omega) only [mwn]; exact hdu
        · simp (disch := omega) only [mwn]; exact hre'
        · by_cases e : k' = k
          · subst e; simp (disch := omega) only [va_up_self]; right; exact hs24
          · simp (disch := omega) only [va_up_ne]; exact hLb k' hk'
        · exact ((((ag.rf.w _ (by unfold QP; omega)).w _ (by unfold QP; omega)).w _ (by unfold QP; omega)).w _ (by unfold QP; omega)).w _ (by unfold QP; omega)
      split
      · rename_i h0; exact fin _ h0.symm
      · rename_i h0; exact fin _ ((bitK01 (T s) k).resolve_left h0).symm
    · rw [if_neg z, if_neg (fun h => z (hc.mp h))]
      unfold f_X7_goTo_208
      refine ⟨_, rfl, ⟨fun s' hs' => ?_, fun k' hk' => ?_, fun k' hk' => ?_, fun s' hs' => ?_, ⟨?_, ?_, ?_, ?_, ?_⟩, fun s' hs' => ?_, ?_, ?_, hLb⟩, ag.rf.w _ (by unfold QP; omega)⟩
      · simp (disch := omega) only [mwn]; exact hD s' hs'
      · simp (disch := omega) only [mwn]; exact hW k' hk'
      · simp (disch := omega) only [mwn]; exact hL k' hk'
      · simp (disch := omega) only [mwn]; exact hH s' hs'
      · simp (disch := omega) only [mwn, va_up_ne]; exact c0
      · simp (disch := omega) only [mwn, va_up_ne]; exact c1
      · simp (disch := omega) only [mw_eq, va_up_self]; rw [c2]
      · simp (disch := omega) only [mwn, va_up_ne]; exact c3
      · simp (disch := omega) only [mwn, va_up_ne]; exact c4
      · simp (disch := omega) only [mwn]; exact hT s' hs'
      · simp (disch := omega) only [mwn]; exact hdu
      · simp (disch := omega) only [mwn]; exact hre'
  · rw [if_neg q, if_neg q]
    have fin : ∀ x : Int32, x = bitK (T s) k → ∃ M', f_X7_goTo_82 (nI b) (nI t) (nI s) (nI k) ((mw M 24 10 (M.1 24 10 + nI 1)).1 24 11) x (mw M 24 10 (M.1 24 10 + nI 1)) = some ((), M') ∧ Pm M' b t T du (nI r) hs (va_up P.1 s (P.1 s &&& nbit k), P.2.1, P.2.2.1, P.2.2.2.1, va_up (va_up P.2.2.2.2 3 (P.2.2.2.2 3 + nI 1)) 4 (P.2.2.2.2 4 + bitK (T s) k)) ∧ ag (QP b t) M M' := by
      intro x hx
      subst hx
      unfold f_X7_goTo_82 f_X7_goTo_208
      simp (disch := omega) only [bnd_e, chk_tt, bn_s, bt_s, bt_x, inb_n, nI_clamp, le_t, le_f, lt_t, lt_f, eq_f, nI_add, pk_mul, ne_eq, not_true_eq_false, not_false_eq_true, ↓reduceIte, L0_, L1_, L2_, L3_, L4_, L5_, L6_, L7_, L8_, L9_, L10_, L11_, L12_, L13_, L14_, L15_, L16_, L20_, L22_, L23_, L24_, L25_, L30_, L31_, L32_, L33_, L36_, L40_, L41_, L45_, L48_, L60_, L63_, L64_, L97_, L100_, L107_, L108_, L126_, L150_, L200_, L294_, L366_, L402_, L408_, L414_, L420_, L421_, L422_, L423_, L424_, L425_, L426_, L427_, L428_, L999_, L2568_, L2996_, m_at, mwn, mw_eq]
      rw [show b + (6 + 24 * t + s) = b + 6 + 24 * t + s by omega]
      refine ⟨_, rfl, ⟨fun s' hs' => ?_, fun k' hk' => ?_, fun k' hk' => ?_, fun s' hs' => ?_, ⟨?_, ?_, ?_, ?_, ?_⟩, fun s' hs' => ?_, ?_, ?_, hLb⟩, ?_⟩
      · by_cases e : s' = s
        · subst e; simp (disch := omega) only [mw_eq, va_up_self]; rw [hD s' hs']; rfl
        · simp (disch := omega) only [mwn, va_up_ne]; exact hD s' hs'
      · simp (disch := omega) only [mwn]; exact hW k' hk'
      · simp (disch := omega) only [mwn]; exact hL k' hk'
      · simp (disch := omega) only [mwn]; exact hH s' hs'
      · simp (disch := omega) only [mwn, mw_eq, va_up_ne, va_up_self]; exact c0
      · simp (disch := omega) only [mwn, mw_eq, va_up_ne, va_up_self]; exact c1
      · simp (disch := omega) only [mwn, mw_eq, va_up_ne, va_up_self]; exact c2
      · simp (disch := omega) only [mwn, mw_eq, va_up_ne, va_up_self]; rw [c3]
      · simp (disch := omega) only [mwn, mw_eq, va_up_ne, va_up_self]; rw [c4]
      · simp (disch := omega) only [mwn]; exact hT s' hs'
      · simp (disch := omega) only [mwn]; exact hdu
      · simp (disch := omega) only [mwn]; exact hre'
      · exact ((ag.rf.w _ (by unfold QP; omega)).w _ (by unfold QP; omega)).w _ (by unfold QP; omega)
    split
    · rename_i h0; exact fin _ h0.symm
    · rename_i h0; exact fin _ ((bitK01 (T s) k).resolve_left h0).symm
theorem goP_H {T : Nat → Int32} {du re : Int32} {s k : Nat} {P : PS} {i : Nat} (h : i ≠ s) : (goP T du re s k P).2.2.2.1 i = P.2.2.2.1 i := by
  unfold goP
  split
  · split
    · exact va_up_ne _ _ h
    · rfl
  · rfl
theorem teeth_H {T : Nat → Int32} {du re p : Int32} {s i : Nat} (h : i ≠ s) : ∀ (c k : Nat) (P : PS), (teethP T du re p s c k P).2.2.2.1 i = P.2.2.2.1 i := by
  intro c
  induction c with
  | zero => intros; rfl
  | succ c ih =>
    intro k P
    show (teethP T du re p s c (k + 1) _).2.2.2.1 i = _
    rw [ih]
    split
    · rfl
    · exact goP_H h
theorem m_teeth {b t hs : Nat} {T : Nat → Int32} {du re p : Int32} (hb : b + 428 ≤ 3424) (ht : t < 6) (hre : ∃ r, r ≤ 24 ∧ re = nI r) {s : Nat} (hs24 : s < 24) (hsh : s < hs) (k49 : Int32 → Int32 → Int32 → Mem → Option (Unit × Mem)) : ∀ (c k n : Nat) (M : Mem) (P : PS), k + c = 12 → c < n → Pm M b t T du re hs P →
    ∃ M', f_X7_playIn_81 k49 n (nI b) (nI t) (nI s) p (nI k) M = k49 (nI b) (nI t) (nI (s + 1)) M' ∧ Pm M' b t T du re hs (teethP T du re p s c k P) ∧ ag (QP b t) M M' := by
  intro c
  induction c with
  | zero =>
    intro k n M P h hn hP
    obtain ⟨n, rfl, -⟩ := suc hn
    rw [f_X7_playIn_81]
    simp (disch := omega) only [bnd_e, chk_tt, bn_s, bt_s, bt_x, inb_n, nI_clamp, le_t, le_f, lt_t, lt_f, eq_f, nI_add, pk_mul, ne_eq, not_true_eq_false, not_false_eq_true, ↓reduceIte, L0_, L1_, L2_, L3_, L4_, L5_, L6_, L7_, L8_, L9_, L10_, L11_, L12_, L13_, L14_, L15_, L16_, L20_, L22_, L23_, L24_, L25_, L30_, L31_, L32_, L33_, L36_, L40_, L41_, L45_, L48_, L60_, L63_, L64_, L97_, L100_, L107_, L108_, L126_, L150_, L200_, L294_, L366_, L402_, L408_, L414_, L420_, L421_, L422_, L423_, L424_, L425_, L426_, L427_, L428_, L999_, L2568_, L2996_]
    exact ⟨M, rfl, hP, ag.rf⟩
  | succ c ih =>
    intro k n M P h hn hP
    obtain ⟨n, rfl, -⟩ := suc hn
    rw [f_X7_playIn_81]
    simp (disch := omega) only [bnd_e, chk_tt, bn_s, bt_s, bt_x, inb_n, nI_clamp, le_t, le_f, lt_t, lt_f, eq_f, nI_add, pk_mul, ne_eq, not_true_eq_false, not_false_eq_true, ↓reduceIte, L0_, L1_, L2_, L3_, L4_, L5_, L6_, L7_, L8_, L9_, L10_, L11_, L12_, L13_, L14_, L15_, L16_, L20_, L22_, L23_, L24_, L25_, L30_, L31_, L32_, L33_, L36_, L40_, L41_, L45_, L48_, L60_, L63_, L64_, L97_, L100_, L107_, L108_, L126_, L150_, L200_, L294_, L366_, L402_, L408_, L414_, L420_, L421_, L422_, L423_, L424_, L425_, L426_, L427_, L428_, L999_, L2568_, L2996_, m_has, f_X7_playIn_107]
    show ∃ M', _ ∧ Pm M' b t T du re hs (teethP T du re p s c (k + 1) (if bitK p k = nI 0 then P else goP T du re s k P)) ∧ _
    by_cases q : bitK p k = nI 0
    · rw [if_pos q, if_pos q]
      exact ih (k + 1) n M P (by omega) (by omega) hP
    · rw [if_neg q, if_neg q]
      obtain ⟨M1, e1, h1, a1⟩ := m_goTo hP hb ht hre hs24 hsh (k := k) (by omega)
      rw [e1]
      simp (disch := omega) only [bnd_e, chk_tt, bn_s, bt_s, bt_x, inb_n, nI_clamp, le_t, le_f, lt_t, lt_f, eq_f, nI_add, pk_mul, ne_eq, not_true_eq_false, not_false_eq_true, ↓reduceIte, L0_, L1_, L2_, L3_, L4_, L5_, L6_, L7_, L8_, L9_, L10_, L11_, L12_, L13_, L14_, L15_, L16_, L20_, L22_, L23_, L24_, L25_, L30_, L31_, L32_, L33_, L36_, L40_, L41_, L45_, L48_, L60_, L63_, L64_, L97_, L100_, L107_, L108_, L126_, L150_, L200_, L294_, L366_, L402_, L408_, L414_, L420_, L421_, L422_, L423_, L424_, L425_, L426_, L427_, L428_, L999_, L2568_, L2996_]
      obtain ⟨M2, e2, h2, a2⟩ := ih (k + 1) n M1 _ (by omega) (by omega) h1
      exact ⟨M2, e2, h2, a1.tr a2⟩
theorem m_steps {b t : Nat} {T : Nat → Int32} {du re : Int32} (hb : b + 428 ≤ 3424) (ht : t < 6) (hre : ∃ r, r ≤ 24 ∧ re = nI r) : ∀ (c s n : Nat) (M : Mem) (P : PS), s + c = 24 → c < n → Pm M b t T du re s P → (∀ i, s ≤ i → i < 24 → P.2.2.2.1 i = nI 0) →
    ∃ M', f_X7_playIn_49 n (nI b) (nI t) (nI s) M = some ((), M') ∧ Pm M' b t T du re 24 (stepsP T du re c s P) ∧ ag (QP b t) M M' := by
  intro c
  induction c with
  | zero =>
    intro s n M P h hn hP hH
    obtain ⟨n, rfl, -⟩ := suc hn
    rw [f_X7_playIn_49]
    simp (disch := omega) only [bnd_e, chk_tt, bn_s, bt_s, bt_x, inb_n, nI_clamp, le_t, le_f, lt_t, lt_f, eq_f, nI_add, pk_mul, ne_eq, not_true_eq_false, not_false_eq_true, ↓reduceIte, L0_, L1_, L2_, L3_, L4_, L5_, L6_, L7_, L8_, L9_, L10_, L11_, L12_, L13_, L14_, L15_, L16_, L20_, L22_, L23_, L24_, L25_, L30_, L31_, L32_, L33_, L36_, L40_, L41_, L45_, L48_, L60_, L63_, L64_, L97_, L100_, L107_, L108_, L126_, L150_, L200_, L294_, L366_, L402_, L408_, L414_, L420_, L421_, L422_, L423_, L424_, L425_, L426_, L427_, L428_, L999_, L2568_, L2996_]
    rw [show s = 24 by omega] at hP
    exact ⟨M, rfl, hP, ag.rf⟩
  | succ c ih =>
    intro s n M P h hn hP hH
    obtain ⟨n, rfl, -⟩ := suc hn
    rw [f_X7_playIn_49]
    simp (disch := omega) only [bnd_e, chk_tt, bn_s, bt_s, bt_x, inb_n, nI_clamp, le_t, le_f, lt_t, lt_f, eq_f, nI_add, pk_mul, ne_eq, not_true_eq_false, not_false_eq_true, ↓reduceIte, L0_, L1_, L2_, L3_, L4_, L5_, L6_, L7_, L8_, L9_, L10_, L11_, L12_, L13_, L14_, L15_, L16_, L20_, L22_, L23_, L24_, L25_, L30_, L31_, L32_, L33_, L36_, L40_, L41_, L45_, L48_, L60_, L63_, L64_, L97_, L100_, L107_, L108_, L126_, L150_, L200_, L294_, L366_, L402_, L408_, L414_, L420_, L421_, L422_, L423_, L424_, L425_, L426_, L427_, L428_, L999_, L2568_, L2996_, m_at]
    rw [show b + (6 + 24 * t + s) = b + 6 + 24 * t + s by omega, hP.1 s (by omega)]
    have hP1 : Pm (mw M 28 s (nI 0)) b t T du re (s + 1) P := by
      obtain ⟨hD, hW, hL, hHe, ⟨c0, c1, c2, c3, c4⟩, hT, hdu, hre', hLb⟩ := hP
      refine ⟨fun s' hs' => ?_, fun k' hk' => ?_, fun k' hk' => ?_, fun s' hs' => ?_, ⟨?_, ?_, ?_, ?_, ?_⟩, fun s' hs' => ?_, ?_, ?_, hLb⟩
      · simp (disch := omega) only [mwn]; exact hD s' hs'
      · simp (disch := omega) only [mwn]; exact hW k' hk'
      · simp (disch := omega) only [mwn]; exact hL k' hk'
      · by_cases e : s' = s
        · subst e; simp (disch := omega) only [mw_eq]; exact (hH _ (Nat.le_refl _) (by omega)).symm
        · simp (disch := omega) only [mwn]; exact hHe s' (by omega)
      · simp (disch := omega) only [mwn]; exact c0
      · simp (disch := omega) only [mwn]; exact c1
      · simp (disch := omega) only [mwn]; exact c2
      · simp (disch := omega) only [mwn]; exact c3
      · simp (disch := omega) only [mwn]; exact c4
      · simp (disch := omega) only [mwn]; exact hT s' hs'
      · simp (disch := omega) only [mwn]; exact hdu
      · simp (disch := omega) only [mwn]; exact hre'
    obtain ⟨M2, e2, h2, a2⟩ := m_teeth hb ht hre (show s < 24 by omega) (show s < s + 1 by omega) (p := P.1 s) (f_X7_playIn_49 n) 12 0 FU _ P rfl (by decide) hP1
    rw [e2]
    obtain ⟨M3, e3, h3, a3⟩ := ih (s + 1) n M2 _ (by omega) (by omega) h2 (fun i h1 h2 => by rw [teeth_H (by omega)]; exact hH i (by omega) h2)
    exact ⟨M3, e3, h3, ((ag.rf.w _ (by unfold QP; omega)).tr a2).tr a3⟩
theorem m_never {b t : Nat} {T D W : Nat → Int32} {du re : Int32} (hb : b + 428 ≤ 3424) (ht : t < 6) (hre : ∃ r, r ≤ 24 ∧ re = nI r) : ∀ (c k n : Nat) (M : Mem), k + c = 12 → c < n →
    (∀ s, s < 24 → M.1 25 (b + 6 + 24 * t + s) = D s) → (∀ k, k < 12 → M.1 25 (b + 294 + 12 * t + k) = W k) → (∀ s, s < 24 → M.1 25 (b + 150 + 24 * t + s) = T s) → M.1 25 (b + 421) = du → M.1 25 (b + 420) = re →
    (M.1 24 7 = nI 0 ∧ M.1 24 8 = nI 0 ∧ M.1 24 9 = nI 0 ∧ M.1 24 10 = nI 0 ∧ M.1 24 11 = nI 0) → (∀ i, i < k → M.1 27 i = -100) →
    ∃ M', f_X7_playIn_27 n (nI b) (nI t) (nI k) M = some ((), M') ∧ Pm M' b t T du re 24 (playP T du re D W) ∧ ag (QP b t) M M' := by
  intro c
  induction c with
  | zero =>
    intro k n M h hn hD hW hT hdu hre' hc hL
    obtain ⟨n, rfl, -⟩ := suc hn
    rw [f_X7_playIn_27]
    simp (disch := omega) only [bnd_e, chk_tt, bn_s, bt_s, bt_x, inb_n, nI_clamp, le_t, le_f, lt_t, lt_f, eq_f, nI_add, pk_mul, ne_eq, not_true_eq_false, not_false_eq_true, ↓reduceIte, L0_, L1_, L2_, L3_, L4_, L5_, L6_, L7_, L8_, L9_, L10_, L11_, L12_, L13_, L14_, L15_, L16_, L20_, L22_, L23_, L24_, L25_, L30_, L31_, L32_, L33_, L36_, L40_, L41_, L45_, L48_, L60_, L63_, L64_, L97_, L100_, L107_, L108_, L126_, L150_, L200_, L294_, L366_, L402_, L408_, L414_, L420_, L421_, L422_, L423_, L424_, L425_, L426_, L427_, L428_, L999_, L2568_, L2996_]
    exact m_steps hb ht hre 24 0 FU M (startP D W) rfl (by decide) ⟨hD, hW, fun k hk => hL k (by omega), fun s hs => by omega, hc, hT, hdu, hre', fun k hk => Or.inl rfl⟩ (fun _ _ _ => rfl)
  | succ c ih =>
    intro k n M h hn hD hW hT hdu hre' hc hL
    obtain ⟨n, rfl, -⟩ := suc hn
    rw [f_X7_playIn_27]
    simp (disch := omega) only [bnd_e, chk_tt, bn_s, bt_s, bt_x, inb_n, nI_clamp, le_t, le_f, lt_t, lt_f, eq_f, nI_add, pk_mul, ne_eq, not_true_eq_false, not_false_eq_true, ↓reduceIte, L0_, L1_, L2_, L3_, L4_, L5_, L6_, L7_, L8_, L9_, L10_, L11_, L12_, L13_, L14_, L15_, L16_, L20_, L22_, L23_, L24_, L25_, L30_, L31_, L32_, L33_, L36_, L40_, L41_, L45_, L48_, L60_, L63_, L64_, L97_, L100_, L107_, L108_, L126_, L150_, L200_, L294_, L366_, L402_, L408_, L414_, L420_, L421_, L422_, L423_, L424_, L425_, L426_, L427_, L428_, L999_, L2568_, L2996_]
    obtain ⟨M1, e1, h1, a1⟩ := ih (k + 1) n (mw M 27 k (-100)) (by omega) (by omega) (fun s hs => by simp (disch := omega) only [mwn]; exact hD s hs) (fun k hk => by simp (disch := omega) only [mwn]; exact hW k hk) (fun s hs => by simp (disch := omega) only [mwn]; exact hT s hs) (by simp (disch := omega) only [mwn]; exact hdu) (by simp (disch := omega) only [mwn]; exact hre') (by simp (disch := omega) only [mwn]; exact hc) (fun i hi => by
      by_cases e : i = k
      · subst e; simp (disch := omega) only [mw_eq]
      · simp (disch := omega) only [mwn]; exact hL i (by omega))
    exact ⟨M1, e1, h1, (ag.rf.w _ (by unfold QP; omega)).tr a1⟩
theorem m_playIn {M : Mem} {b t : Nat} {T D W : Nat → Int32} {du re : Int32} (hb : b + 428 ≤ 3424) (ht : t < 6) (hre : ∃ r, r ≤ 24 ∧ re = nI r)
    (hD : ∀ s, s < 24 → M.1 25 (b + 6 + 24 * t + s) = D s) (hW : ∀ k, k < 12 → M.1 25 (b + 294 + 12 * t + k) = W k) (hT : ∀ s, s < 24 → M.1 25 (b + 150 + 24 * t + s) = T s) (hdu : M.1 25 (b + 421) = du) (hre' : M.1 25 (b + 420) = re) :
    ∃ M', f_X7_playIn (nI b) (nI t) M = some ((), M') ∧ Pm M' b t T du re 24 (playP T du re D W) ∧ ag (QP b t) M M' := by
  unfold f_X7_playIn
  simp (disch := omega) only [bnd_e, chk_tt, bn_s, bt_s, bt_x, inb_n, nI_clamp, le_t, le_f, lt_t, lt_f, eq_f, nI_add, pk_mul, ne_eq, not_true_eq_false, not_false_eq_true, ↓reduceIte, L0_, L1_, L2_, L3_, L4_, L5_, L6_, L7_, L8_, L9_, L10_, L11_, L12_, L13_, L14_, L15_, L16_, L20_, L22_, L23_, L24_, L25_, L30_, L31_, L32_, L33_, L36_, L40_, L41_, L45_, L48_, L60_, L63_, L64_, L97_, L100_, L107_, L108_, L126_, L150_, L200_, L294_, L366_, L402_, L408_, L414_, L420_, L421_, L422_, L423_, L424_, L425_, L426_, L427_, L428_, L999_, L2568_, L2996_]
  obtain ⟨M1, e1, h1, a1⟩ := m_never (T := T) (D := D) (W := W) (du := du) hb ht hre 12 0 FU (mw (mw (mw (mw (mw M 24 7 (nI 0)) 24 8 (nI 0)) 24 9 (nI 0)) 24 10 (nI 0)) 24 11 (nI 0)) rfl (by decide) (fun s hs => by simp (disch := omega) only [mwn]; exact hD s hs) (fun k hk => by simp (disch := omega) only [mwn]; exact hW k hk) (fun s hs => by simp (disch := omega) only [mwn]; exact hT s hs) (by simp (disch := omega) only [mwn]; exact hdu) (by simp (disch := omega) only [mwn]; exact hre') (by simp (disch := omega) only [mwn, mw_eq]; simp) (fun i hi => by omega)
  exact ⟨M1, e1, h1, (((((ag.rf.w _ (by unfold QP; omega)).w _ (by unfold QP; omega)).w _ (by unfold QP; omega)).w _ (by unfold QP; omega)).w _ (by unfold QP; omega)).tr a1⟩
