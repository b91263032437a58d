/-! ===== the class: who owes; playing ===== -/
def acl6 (f : Nat → Int32) (w : Nat) : Nat → Nat → Int32 → Int32
  | 0, _, a => a
  | c + 1, i, a => acl6 f w c (i + 1) (acl (fun j => f (6 * i + j)) w 0 a)
theorem acl_shift {f : Nat → Int32} (b : Nat) : ∀ (c j : Nat) (a : Int32), acl f c (b + j) a = acl (fun i => f (b + i)) c j a := by
  intro c
  induction c with
  | zero => intros; rfl
  | succ c ih =>
    intro j a
    show acl f c (b + j + 1) (a + f (b + j)) = acl (fun i => f (b + i)) c (j + 1) (a + f (b + j))
    rw [show b + j + 1 = b + (j + 1) by omega]
    exact ih (j + 1) _
theorem acl6_full {f : Nat → Int32} : ∀ (c i : Nat) (a : Int32), acl f (6 * c) (6 * i) a = acl6 f 6 c i a := by
  intro c
  induction c with
  | zero => intros; rfl
  | succ c ih =>
    intro i a
    rw [show 6 * (c + 1) = 6 + 6 * c by omega, acl_add, show 6 * i + 6 = 6 * (i + 1) by omega, ih]
    simp only [acl6]
    rfl
theorem acl6_0 {f : Nat → Int32} {w : Nat} : ∀ (c i : Nat) (a : Int32), (∀ r j, i ≤ r → r < i + c → j < w → f (6 * r + j) = nI 0) → acl6 f w c i a = a := by
  intro c
  induction c with
  | zero => intros; rfl
  | succ c ih =>
    intro i a h
    simp only [acl6]
    rw [acl0 w 0 a (fun j _ h2 => h i j (Nat.le_refl _) (by omega) (by omega))]
    exact ih (i + 1) a (fun r j h1 h2 h3 => h r j (by omega) (by omega) h3)
theorem acl6_cut {f : Nat → Int32} {k : Nat} (hk : k ≤ 6) (h : ∀ r j, r < 6 → j < 6 → (k ≤ r ∨ k ≤ j) → f (6 * r + j) = nI 0) : ∀ (c i : Nat) (a : Int32), i + c = k → acl6 f k c i a = acl6 f 6 (c + (6 - k)) i a := by
  intro c
  induction c with
  | zero =>
    intro i a hi
    rw [Nat.zero_add, acl6_0 (6 - k) i a (fun r j h1 h2 h3 => h r j (by omega) h3 (Or.inl (by omega)))]
    rfl
  | succ c ih =>
    intro i a hi
    rw [show c + 1 + (6 - k) = (c + (6 - k)) + 1 by omega]
    simp only [acl6]
    rw [ih (i + 1) _ (by omega)]
    congr 1
    obtain ⟨z, hz⟩ : ∃ z, 6 = k + z := ⟨6 - k, by omega⟩
    have e : ∀ n, n = k + z → acl (fun j => f (6 * i + j)) n 0 a = acl (fun j => f (6 * i + j)) k 0 a := by
      intro n hn
      subst hn
      rw [acl_add, acl0 z]
      intro j h1 h2
      exact h i j (by omega) (by omega) (Or.inr (by omega))
    exact (e 6 hz).symm
section XP
variable {M : Mem} {L k : Nat} {F : Nat → Int32}
def owB (F : Nat → Int32) : Nat → Int32 := fun e => if F (366 + e) ≤ nI 0 then nI 0 else nI 1
theorem x_pairs14 (h : LR M L F) (hL : isL L) (hS : SI F k) {i : Nat} (hi : i < 6) (k4 : Nat → Int32 → Int32 → Mem → Option (Int32 × Mem)) : ∀ (c j : Nat) (a : Int32) (n : Nat), j + c = k → c < n → f_X0_owingPairs_14 k4 n L a (nI i) (nI j) M = k4 L (acl (fun j => owB F (6 * i + j)) c j a) (nI (i + 1)) M := by
  have hk := hS.1
  intro c
  induction c with
  | zero =>
    intro j a n h9 hn
    obtain ⟨n, rfl, -⟩ := suc hn
    rw [f_X0_owingPairs_14]
    simp (disch := omega) only [bnd_e, chk_tt, bn_s, bt_s, bt_x, inb_n, nI_clamp, le_t, le_f, lt_t, lt_f, eq_f, nI_add, pk_mul, ne_eq, not_true_eq_false, not_false_eq_true, ↓reduceIte, L0_, L1_, L2_, L3_, L4_, L5_, L6_, L7_, L8_, L9_, L10_, L11_, L12_, L13_, L14_, L15_, L16_, L20_, L22_, L23_, L24_, L25_, L30_, L31_, L32_, L33_, L36_, L40_, L41_, L45_, L48_, L60_, L63_, L64_, L97_, L100_, L107_, L108_, L126_, L150_, L200_, L294_, L366_, L402_, L408_, L414_, L420_, L421_, L422_, L423_, L424_, L425_, L426_, L427_, L428_, L999_, L2568_, L2996_, kbL hL, x_many h hS]
    rfl
  | succ c ih =>
    intro j a n h9 hn
    obtain ⟨n, rfl, -⟩ := suc hn
    rw [f_X0_owingPairs_14]
    simp (disch := omega) only [bnd_e, chk_tt, bn_s, bt_s, bt_x, inb_n, nI_clamp, le_t, le_f, lt_t, lt_f, eq_f, nI_add, pk_mul, ne_eq, not_true_eq_false, not_false_eq_true, ↓reduceIte, L0_, L1_, L2_, L3_, L4_, L5_, L6_, L7_, L8_, L9_, L10_, L11_, L12_, L13_, L14_, L15_, L16_, L20_, L22_, L23_, L24_, L25_, L30_, L31_, L32_, L33_, L36_, L40_, L41_, L45_, L48_, L60_, L63_, L64_, L97_, L100_, L107_, L108_, L126_, L150_, L200_, L294_, L366_, L402_, L408_, L414_, L420_, L421_, L422_, L423_, L424_, L425_, L426_, L427_, L428_, L999_, L2568_, L2996_, kbL hL, x_many h hS, rw_c, f_X0_owingPairs_39]
    rw [h.debt hi (by omega)]
    simp only [acl, owB]
    rw [show 366 + (6 * i + j) = 366 + 6 * i + j by omega]
    by_cases q : F (366 + 6 * i + j) ≤ nI 0
    · rw [if_pos q, if_pos q]
      exact ih (j + 1) _ n (by omega) (by omega)
    · rw [if_neg q, if_neg q]
      exact ih (j + 1) _ n (by omega) (by omega)
theorem x_pairs4 (h : LR M L F) (hL : isL L) (hS : SI F k) : ∀ (c j : Nat) (a : Int32) (n : Nat), j + c = k → c < n → f_X0_owingPairs_4 n L a (nI j) M = some (acl6 (owB F) k c j a, M) := by
  have hk := hS.1
  intro c
  induction c with
  | zero =>
    intro j a n h9 hn
    obtain ⟨n, rfl, -⟩ := suc hn
    rw [f_X0_owingPairs_4]
    simp (disch := omega) only [bnd_e, chk_tt, bn_s, bt_s, bt_x, inb_n, nI_clamp, le_t, le_f, lt_t, lt_f, eq_f, nI_add, pk_mul, ne_eq, not_true_eq_false, not_false_eq_true, ↓reduceIte, L0_, L1_, L2_, L3_, L4_, L5_, L6_, L7_, L8_, L9_, L10_, L11_, L12_, L13_, L14_, L15_, L16_, L20_, L22_, L23_, L24_, L25_, L30_, L31_, L32_, L33_, L36_, L40_, L41_, L45_, L48_, L60_, L63_, L64_, L97_, L100_, L107_, L108_, L126_, L150_, L200_, L294_, L366_, L402_, L408_, L414_, L420_, L421_, L422_, L423_, L424_, L425_, L426_, L427_, L428_, L999_, L2568_, L2996_, kbL hL, x_many h hS]
    rfl
  | succ c ih =>
    intro j a n h9 hn
    obtain ⟨n, rfl, -⟩ := suc hn
    rw [f_X0_owingPairs_4]
    simp (disch := omega) only [bnd_e, chk_tt, bn_s, bt_s, bt_x, inb_n, nI_clamp, le_t, le_f, lt_t, lt_f, eq_f, nI_add, pk_mul, ne_eq, not_true_eq_false, not_false_eq_true, ↓reduceIte, L0_, L1_, L2_, L3_, L4_, L5_, L6_, L7_, L8_, L9_, L10_, L11_, L12_, L13_, L14_, L15_, L16_, L20_, L22_, L23_, L24_, L25_, L30_, L31_, L32_, L33_, L36_, L40_, L41_, L45_, L48_, L60_, L63_, L64_, L97_, L100_, L107_, L108_, L126_, L150_, L200_, L294_, L366_, L402_, L408_, L414_, L420_, L421_, L422_, L423_, L424_, L425_, L426_, L427_, L428_, L999_, L2568_, L2996_, kbL hL, x_many h hS]
    rw [x_pairs14 h hL hS (by omega) (f_X0_owingPairs_4 n) k 0 a FU (by omega) (by show k < 100000; omega)]
    simp only [acl6]
    exact ih (j + 1) _ n (by omega) (by omega)
theorem x_pairs (h : LR M L F) (hL : isL L) (hS : SI F k) : f_X0_owingPairs L M = some (owingF F, M) := by
  have hk := hS.1
  unfold f_X0_owingPairs
  simp (disch := omega) only [bnd_e, chk_tt, bn_s, bt_s, bt_x, inb_n, nI_clamp, le_t, le_f, lt_t, lt_f, eq_f, nI_add, pk_mul, ne_eq, not_true_eq_false, not_false_eq_true, ↓reduceIte, L0_, L1_, L2_, L3_, L4_, L5_, L6_, L7_, L8_, L9_, L10_, L11_, L12_, L13_, L14_, L15_, L16_, L20_, L22_, L23_, L24_, L25_, L30_, L31_, L32_, L33_, L36_, L40_, L41_, L45_, L48_, L60_, L63_, L64_, L97_, L100_, L107_, L108_, L126_, L150_, L200_, L294_, L366_, L402_, L408_, L414_, L420_, L421_, L422_, L423_, L424_, L425_, L426_, L427_, L428_, L999_, L2568_, L2996_, x_pairs4 h hL hS k 0 (nI 0) FU (by omega) (by show k < 100000; omega)]
  congr 2
  rw [acl6_cut hk ?_ k 0 _ (by omega), show k + (6 - k) = 6 by omega, ← acl6_full 6 0]
  · rfl
  · intro r j hr hj ho
    unfold owB
    rw [show 366 + (6 * r + j) = 366 + 6 * r + j by omega, hS.2.2.2.2 r j hr hj (Or.inr ho)]
    rfl
end XP
def lmx (l : Nat) : Int32 := if l = 99 then -nI 24 else nI l
def Px (M : Mem) (du re : Int32) (P : PS) : Prop :=
  (∀ s, s < 24 → M.1 6 s = P.1 s) ∧ (∀ k, k < 12 → M.1 7 k = P.2.1 k) ∧ (∀ k, k < 12 → M.1 8 k = lmx (P.2.2.1 k)) ∧ (∀ s, s < 24 → M.1 9 s = P.2.2.2.1 s) ∧
  (M.1 5 6 = P.2.2.2.2 0 ∧ M.1 5 9 = P.2.2.2.2 1 ∧ M.1 5 7 = P.2.2.2.2 2 ∧ M.1 5 8 = P.2.2.2.2 3 ∧ M.1 5 10 = P.2.2.2.2 4) ∧ M.1 5 5 = du ∧ M.1 5 4 = re ∧ (∀ k, k < 12 → P.2.2.1 k = 99 ∨ P.2.2.1 k < 24) ∧ ∀ s, s < 24 → msk (P.1 s)
/-- what playing leaves in the class's memory -/
def xP : Nat → Nat → Prop := fun c _ => c < 5 ∨ 10 ≤ c
theorem subx_never {s : Nat} (hs : s < 24) {r : Nat} (hr : r ≤ 24) : nI r ≤ nI s - (-nI 24) := by
  rw [show nI s - (-nI 24) = nI (s + 24) by rw [← nI_add]; exact Int32.sub_neg, le_t (by omega) (by omega)]
  trivial
theorem bit_e (k : Nat) : (nI 1 <<< (nI k &&& nI 31)) = bit k := rfl
theorem nbit_e (k : Nat) : (bit k ^^^ -nI 1) = nbit k := rfl
theorem x_meet {M : Mem} {T : Nat → Int32} {du re : Int32} {P : PS} (h : Px M du re P) (hre : ∃ r, r ≤ 24 ∧ re = nI r) {s k : Nat} (hs24 : s < 24) (hk : k < 12) {x : Int32} (hx : x = bitK (T s) k) :
    ∃ M', f_X1_meetPin (nI s) (nI k) x M = some ((), M') ∧ Px M' du re (goP T du re s k P) ∧ ag xP M M' := by
  obtain ⟨hD, hW, hL, hH, ⟨c0, c1, c2, c3, c4⟩, hdu, hre', hLb, hm⟩ := h
  obtain ⟨r, hr, rfl⟩ := hre
  have hx01 : x = nI 0 ∨ x = nI 1 := by rw [hx]; exact bitK01 _ _
  unfold f_X1_meetPin
  simp (disch := omega) only [bnd_e, chk_tt, bn_s, bt_s, bt_x, inb_n, nI_clamp, le_t, le_f, lt_t, lt_f, eq_f, nI_add, pk_mul, ne_eq, not_true_eq_false, not_false_eq_true, ↓reduceIte, L0_, L1_, L2_, L3_, L4_, L5_, L6_, L7_, L8_, L9_, L10_, L11_, L12_, L13_, L14_, L15_, L16_, L20_, L22_, L23_, L24_, L25_, L30_, L31_, L32_, L33_, L36_, L40_, L41_, L45_, L48_, L60_, L63_, L64_, L97_, L100_, L107_, L108_, L126_, L150_, L200_, L294_, L366_, L402_, L408_, L414_, L420_, L421_, L422_, L423_, L424_, L425_, L426_, L427_, L428_, L999_, L2568_, L2996_, f_X1_meetPin_139, f_X1_meetPin_143, f_X1_meetPin_51, bit_e, nbit_e]
  rw [hW k hk, hdu, hre', hL k hk]
  unfold goP
  by_cases q : P.2.1 k < du
  · rw [if_pos q, if_pos q]
    have hc : (nI r ≤ nI s - lmx (P.2.2.1 k)) ↔ (P.2.2.1 k = 99 ∨ nI r ≤ nI s - nI (P.2.2.1 k)) := by
      unfold lmx
      by_cases z : P.2.2.1 k = 99
      · rw [if_pos z]
        exact ⟨fun _ => Or.inl z, fun _ => subx_never hs24 hr⟩
      · rw [if_neg z]
        exact ⟨fun h => Or.inr h, fun h => h.resolve_left z⟩
    by_cases z : P.2.2.1 k = 99 ∨ nI r ≤ nI s - nI (P.2.2.1 k)
    · rw [if_pos z, if_pos (hc.mpr z)]
      have fin : ∀ y : Int32, y = bitK (T s) k → Px (mw (mw (mw (mw (mw M 9 s (M.1 9 s ||| bit k)) 8 k (nI s)) 7 k ((mw (mw M 9 s (M.1 9 s ||| bit k)) 8 k (nI s)).1 7 k + nI 1)) 5 6 ((mw (mw (mw M 9 s (M.1 9 s ||| bit k)) 8 k (nI s)) 7 k ((mw (mw M 9 s (M.1 9 s ||| bit k)) 8 k (nI s)).1 7 k + nI 1)).1 5 6 + nI 1)) 5 9 ((mw (mw (mw (mw M 9 s (M.1 9 s ||| bit k)) 8 k (nI s)) 7 k ((mw (mw M 9 s (M.1 9 s ||| bit k)) 8 k (nI s)).1 7 k + nI 1)) 5 6 ((mw (mw (mw M 9 s (M.1 9 s ||| bit k)) 8 k (nI s)) 7 k ((mw (mw M 9 s (M.1 9 s ||| bit k)) 8 k (nI s)).1 7 k + nI 1)).1 5 6 + nI 1)).1 5 9 + y)) du (nI r) (P.1, va_up P.2.1 k (P.2.1 k + nI 1), va_up P.2.2.1 k s, va_up P.2.2.2.1 s (P.2.2.2.1 s ||| bit k), va_up (va_up P.2.2.2.2 0 (P.2.2.2.2 0 + nI 1)) 1 (P.2.2.2.2 1 + bitK (T s) k)) := by
        intro y hy
        subst hy
        refine ⟨fun s' hs' => ?_, fun k' hk' => ?_, fun k' hk' => ?_, fun s' hs' => ?_, ⟨?_, ?_, ?_, ?_, ?_⟩, ?_, ?_, fun k' hk' => ?_, hm⟩
        · simp (disch := omega) only [mwn]; exact hD s' hs'
        · by_cases e : k' = k
          · subst e; simp (disch := omega) only [mwn, mw_eq, va_up_self]; rw [hW k' hk']
          · simp (disch := omega) only [mwn, va_up_ne]; exact hW k' hk'
        · by_cases e : k' = k
          · subst e; simp (disch := omega) only [mwn, mw_eq, va_up_self, lmx]; rw [if_neg (by omega)]
          · simp (disch := omega) only [mwn, va_up_ne]; exact hL k' hk'
        · by_cases e : s' = s
          · subst e; simp (disch := omega) only [mwn, mw_eq, va_up_self]; rw [hH s' hs']
          · simp (disch := omega) only [mwn, va_up_ne]; exact hH s' hs'
        · simp (disch := omega) only [mwn, mw_eq, va_up_ne, va_up_self]; rw [c0]
        · simp (disch := omega) only [mwn, mw_eq, va_up_ne, va_up_self]; rw [c1]
        · simp (disch := omega) only [mwn, mw_eq, va_up_ne, va_up_self]; exact c2
        · simp (disch := omega) only [mwn, mw_eq, va_up_ne, va_up_self]; exact c3
        · simp (disch := omega) only [mwn, mw_eq, va_up_ne, va_up_self]; exact c4
        · simp (disch := omega) only [mwn]; exact hdu
        · simp (disch := omega) only [mwn]; exact hre'
        · by_cases e : k' = k
          · subst e; simp (disch := omega) only [va_up_self]; right; exact hs24
          · simp (disch := omega) only [va_up_ne]; exact hLb k' hk'
      have fa : ∀ y : Int32, ag xP M (mw (mw (mw (mw (mw M 9 s (M.1 9 s ||| bit k)) 8 k (nI s)) 7 k ((mw (mw M 9 s (M.1 9 s ||| bit k)) 8 k (nI s)).1 7 k + nI 1)) 5 6 ((mw (mw (mw M 9 s (M.1 9 s ||| bit k)) 8 k (nI s)) 7 k ((mw (mw M 9 s (M.1 9 s ||| bit k)) 8 k (nI s)).1 7 k + nI 1)).1 5 6 + nI 1)) 5 9 y) := fun y =>
        ((((ag.rf.w _ (by unfold xP; omega)).w _ (by unfold xP; omega)).w _ (by unfold xP; omega)).w _ (by unfold xP; omega)).w _ (by unfold xP; omega)
      rcases hx01 with rfl | rfl
      · simp (disch := omega) only [bnd_e, chk_tt, bn_s, bt_s, bt_x, inb_n, nI_clamp, le_t, le_f, lt_t, lt_f, eq_f, nI_add, pk_mul, ne_eq, not_true_eq_false, not_false_eq_true, ↓reduceIte, L0_, L1_, L2_, L3_, L4_, L5_, L6_, L7_, L8_, L9_, L10_, L11_, L12_, L13_, L14_, L15_, L16_, L20_, L22_, L23_, L24_, L25_, L30_, L31_, L32_, L33_, L36_, L40_, L41_, L45_, L48_, L60_, L63_, L64_, L97_, L100_, L107_, L108_, L126_, L150_, L200_, L294_, L366_, L402_, L408_, L414_, L420_, L421_, L422_, L423_, L424_, L425_, L426_, L427_, L428_, L999_, L2568_, L2996_]
        exact ⟨_, rfl, fin _ hx, fa _⟩
      · simp (disch := omega) only [bnd_e, chk_tt, bn_s, bt_s, bt_x, inb_n, nI_clamp, le_t, le_f, lt_t, lt_f, eq_f, nI_add, pk_mul, ne_eq, not_true_eq_false, not_false_eq_true, ↓reduceIte, L0_, L1_, L2_, L3_, L4_, L5_, L6_, L7_, L8_, L9_, L10_, L11_, L12_, L13_, L14_, L15_, L16_, L20_, L22_, L23_, L24_, L25_, L30_, L31_, L32_, L33_, L36_, L40_, L41_, L45_, L48_, L60_, L63_, L64_, L97_, L100_, L107_, L108_, L126_, L150_, L200_, L294_, L366_, L402_, L408_, L414_, L420_, L421_, L422_, L423_, L424_, L425_, L426_, L427_, L428_, L999_, L2568_, L2996_, n10]
        exact ⟨_, rfl, fin _ hx, fa _⟩
    · rw [if_neg z, if_neg (fun h => z (hc.mp h))]
      refine ⟨_, rfl, ⟨fun s' hs' => ?_, fun k' hk' => ?_, fun k' hk' => ?_, fun s' hs' => ?_, ⟨?_, ?_, ?_, ?_, ?_⟩, ?_, ?_, hLb, hm⟩, ag.rf.w _ (by unfold xP; omega)⟩
      · simp (disch := omega) only [mwn]; exact hD s' hs'
      · simp (disch := omega) only [mwn]; exact hW k' hk'
      · simp (disch := omega) only [mwn]; exact hL k' hk'
      · simp (disch := omega) only [mwn]; exact hH s' hs'
      · simp (disch := omega) only [mwn, va_up_ne]; exact c0
      · simp (disch := omega) only [mwn, va_up_ne]; exact c1
      · simp (disch := omega) only [mw_eq, va_up_self]; rw [c2]
      · simp (disch := omega) only [mwn, va_up_ne]; exact c3
      · simp (disch := omega) only [mwn, va_up_ne]; exact c4
      · simp (disch := omega) only [mwn]; exact hdu
      · simp (disch := omega) only [mwn]; exact hre'
  · rw [if_neg q, if_neg q]
    have fin : ∀ y : Int32, y = bitK (T s) k → Px (mw (mw (mw M 6 s (M.1 6 s &&& nbit k)) 5 8 ((mw M 6 s (M.1 6 s &&& nbit k)).1 5 8 + nI 1)) 5 10 ((mw (mw M 6 s (M.1 6 s &&& nbit k)) 5 8 ((mw M 6 s (M.1 6 s &&& nbit k)).1 5 8 + nI 1)).1 5 10 + y)) du (nI r) (va_up P.1 s (P.1 s &&& nbit k), P.2.1, P.2.2.1, P.2.2.2.1, va_up (va_up P.2.2.2.2 3 (P.2.2.2.2 3 + nI 1)) 4 (P.2.2.2.2 4 + bitK (T s) k)) := by
      intro y hy
      subst hy
      refine ⟨fun s' hs' => ?_, fun k' hk' => ?_, fun k' hk' => ?_, fun s' hs' => ?_, ⟨?_, ?_, ?_, ?_, ?_⟩, ?_, ?_, hLb, fun s' hs' => ?_⟩
      · by_cases e : s' = s
        · subst e; simp (disch := omega) only [mwn, mw_eq, va_up_self]; rw [hD s' hs']
        · simp (disch := omega) only [mwn, va_up_ne]; exact hD s' hs'
      · simp (disch := omega) only [mwn]; exact hW k' hk'
      · simp (disch := omega) only [mwn]; exact hL k' hk'
      · simp (disch := omega) only [mwn]; exact hH s' hs'
      · simp (disch := omega) only [mwn, mw_eq, va_up_ne, va_up_self]; exact c0
      · simp (disch := omega) only [mwn, mw_eq, va_up_ne, va_up_self]; exact c1
      · simp (disch := omega) only [mwn, mw_eq, va_up_ne, va_up_self]; exact c2
      · simp (disch := omega) only [mwn, mw_eq, va_up_ne, va_up_self]; rw [c3]
      · simp (disch := omega) only [mwn, mw_eq, va_up_ne, va_up_self]; rw [c4]
      · simp (disch := omega) only [mwn]; exact hdu
      · simp (disch := omega) only [mwn]; exact hre'
      · by_cases e : s' = s
        · subst e; simp (disch := omega) only [va_up_self]; exact msk_and (hm _ hs')
        · simp (disch := omega) only [va_up_ne]; exact hm s' hs'
    have fa : ∀ y : Int32, ag xP M (mw (mw (mw M 6 s (M.1 6 s &&& nbit k)) 5 8 ((mw M 6 s (M.1 6 s &&& nbit k)).1 5 8 + nI 1)) 5 10 y) := fun y => ((ag.rf.w _ (by unfold xP; omega)).w _ (by unfold xP; omega)).w _ (by unfold xP; omega)
    rcases hx01 with rfl | rfl
    · simp (disch := omega) only [bnd_e, chk_tt, bn_s, bt_s, bt_x, inb_n, nI_clamp, le_t, le_f, lt_t, lt_f, eq_f, nI_add, pk_mul, ne_eq, not_true_eq_false, not_false_eq_true, ↓reduceIte, L0_, L1_, L2_, L3_, L4_, L5_, L6_, L7_, L8_, L9_, L10_, L11_, L12_, L13_, L14_, L15_, L16_, L20_, L22_, L23_, L24_, L25_, L30_, L31_, L32_, L33_, L36_, L40_, L41_, L45_, L48_, L60_, L63_, L64_, L97_, L100_, L107_, L108_, L126_, L150_, L200_, L294_, L366_, L402_, L408_, L414_, L420_, L421_, L422_, L423_, L424_, L425_, L426_, L427_, L428_, L999_, L2568_, L2996_]
      exact ⟨_, rfl, fin _ hx, fa _⟩
    · simp (disch := omega) only [bnd_e, chk_tt, bn_s, bt_s, bt_x, inb_n, nI_clamp, le_t, le_f, lt_t, lt_f, eq_f, nI_add, pk_mul, ne_eq, not_true_eq_false, not_false_eq_true, ↓reduceIte, L0_, L1_, L2_, L3_, L4_, L5_, L6_, L7_, L8_, L9_, L10_, L11_, L12_, L13_, L14_, L15_, L16_, L20_, L22_, L23_, L24_, L25_, L30_, L31_, L32_, L33_, L36_, L40_, L41_, L45_, L48_, L60_, L63_, L64_, L97_, L100_, L107_, L108_, L126_, L150_, L200_, L294_, L366_, L402_, L408_, L414_, L420_, L421_, L422_, L423_, L424_, L425_, L426_, L427_, L428_, L999_, L2568_, L2996_, n10]
      exact ⟨_, rfl, fin _ hx, fa _⟩
theorem goP_msk {T : Nat → Int32} {du re : Int32} {s k : Nat} {P : PS} (h : ∀ s, s < 24 → msk (P.1 s)) : ∀ i, i < 24 → msk ((goP T du re s k P).1 i) := by
  intro i hi
  unfold goP
  split
  · split
    · exact h i hi
    · exact h i hi
  · show msk (va_up P.1 s (P.1 s &&& nbit k) i)
    by_cases e : i = s
    · subst e; rw [va_up_self]; exact msk_and (h i hi)
    · rw [va_up_ne _ _ e]; exact h i hi
theorem goP_bit {T : Nat → Int32} {du re : Int32} {s k j : Nat} {P : PS} (hs : s < 24) (hk : k < 12) (hj : j < 12) (hjk : k < j) (h : ∀ s, s < 24 → msk (P.1 s)) : bitK ((goP T du re s k P).1 s) j = bitK (P.1 s) j := by
  unfold goP
  split
  · split <;> rfl
  · show bitK (va_up P.1 s (P.1 s &&& nbit k) s) j = _
    rw [va_up_self, B2 (h s hs) hk hj, if_neg (by omega)]
theorem x_pass2 {T : Nat → Int32} {du re p : Int32} (hre : ∃ r, r ≤ 24 ∧ re = nI r) {s : Nat} (hs24 : s < 24) (hT : msk (T s)) : ∀ (c k n : Nat) (M : Mem) (P : PS), k + c = 12 → c < n → Px M du re P → (∀ j, k ≤ j → j < 12 → bitK (P.1 s) j = bitK p j) →
    ∃ M', f_X1_passStep_2 n (nI s) (T s) (nI k) M = some ((), M') ∧ Px M' du re (teethP T du re p s c k P) ∧ ag xP M M' := by
  intro c
  induction c with
  | zero =>
    intro k n M P h hn hP hb
    obtain ⟨n, rfl, -⟩ := suc hn
    rw [f_X1_passStep_2]
    simp (disch := omega) only [bnd_e, chk_tt, bn_s, bt_s, bt_x, inb_n, nI_clamp, le_t, le_f, lt_t, lt_f, eq_f, nI_add, pk_mul, ne_eq, not_true_eq_false, not_false_eq_true, ↓reduceIte, L0_, L1_, L2_, L3_, L4_, L5_, L6_, L7_, L8_, L9_, L10_, L11_, L12_, L13_, L14_, L15_, L16_, L20_, L22_, L23_, L24_, L25_, L30_, L31_, L32_, L33_, L36_, L40_, L41_, L45_, L48_, L60_, L63_, L64_, L97_, L100_, L107_, L108_, L126_, L150_, L200_, L294_, L366_, L402_, L408_, L414_, L420_, L421_, L422_, L423_, L424_, L425_, L426_, L427_, L428_, L999_, L2568_, L2996_]
    exact ⟨M, rfl, hP, ag.rf⟩
  | succ c ih =>
    intro k n M P h hn hP hb
    obtain ⟨n, rfl, -⟩ := suc hn
    rw [f_X1_passStep_2]
    simp (disch := omega) only [bnd_e, chk_tt, bn_s, bt_s, bt_x, inb_n, nI_clamp, le_t, le_f, lt_t, lt_f, eq_f, nI_add, pk_mul, ne_eq, not_true_eq_false, not_false_eq_true, ↓reduceIte, L0_, L1_, L2_, L3_, L4_, L5_, L6_, L7_, L8_, L9_, L10_, L11_, L12_, L13_, L14_, L15_, L16_, L20_, L22_, L23_, L24_, L25_, L30_, L31_, L32_, L33_, L36_, L40_, L41_, L45_, L48_, L60_, L63_, L64_, L97_, L100_, L107_, L108_, L126_, L150_, L200_, L294_, L366_, L402_, L408_, L414_, L420_, L421_, L422_, L423_, L424_, L425_, L426_, L427_, L428_, L999_, L2568_, L2996_, f_X1_passStep_37, f_X1_passStep_40, bit_e]
    rw [hP.1 s hs24]
    have hm := hP.2.2.2.2.2.2.2.2
    have hk : k < 12 := by omega
    have hbk := hb k (Nat.le_refl _) hk
    simp only [teethP]
    split
    · rename_i h0
      have h1 : bitK p k = nI 0 := by rw [← hbk]; exact (B1 (hm s hs24) hk).mp h0
      rw [if_pos h1]
      exact ih (k + 1) n M P (by omega) (by omega) hP (fun j h1 h2 => hb j (by omega) h2)
    · rename_i h0
      have h1 : ¬ bitK p k = nI 0 := by rw [← hbk]; exact fun e => h0 ((B1 (hm s hs24) hk).mpr e)
      rw [if_neg h1]
      have go : ∀ x : Int32, x = bitK (T s) k → ∃ M', bn (f_X1_meetPin (nI s) (nI k) x M) (fun _ M37 => f_X1_passStep_2 n (nI s) (T s) (nI (k + 1)) M37) = some ((), M') ∧ Px M' du re (teethP T du re p s c (k + 1) (goP T du re s k P)) ∧ ag xP M M' := by
        intro x hx
        obtain ⟨M1, e1, h1, a1⟩ := x_meet (T := T) hP hre hs24 hk hx
        rw [e1]
        simp (disch := omega) only [bnd_e, chk_tt, bn_s, bt_s, bt_x, inb_n, nI_clamp, le_t, le_f, lt_t, lt_f, eq_f, nI_add, pk_mul, ne_eq, not_true_eq_false, not_false_eq_true, ↓reduceIte, L0_, L1_, L2_, L3_, L4_, L5_, L6_, L7_, L8_, L9_, L10_, L11_, L12_, L13_, L14_, L15_, L16_, L20_, L22_, L23_, L24_, L25_, L30_, L31_, L32_, L33_, L36_, L40_, L41_, L45_, L48_, L60_, L63_, L64_, L97_, L100_, L107_, L108_, L126_, L150_, L200_, L294_, L366_, L402_, L408_, L414_, L420_, L421_, L422_, L423_, L424_, L425_, L426_, L427_, L428_, L999_, L2568_, L2996_]
        obtain ⟨M2, e2, h2, a2⟩ := ih (k + 1) n M1 _ (by omega) (by omega) h1 (fun j h3 h4 => by rw [goP_bit hs24 hk h4 (by omega) hm]; exact hb j (by omega) h4)
        exact ⟨M2, e2, h2, a1.tr a2⟩
      split
      · rename_i h2
        exact go _ ((B1 hT hk).mp h2).symm
      · rename_i h2
        exact go _ ((bitK01 (T s) k).resolve_left (fun e => h2 ((B1 hT hk).mpr e))).symm
theorem bit00 : ∀ k, k < 12 → bitK (nI 0) k = nI 0 := by decide +kernel
theorem teeth0 {T : Nat → Int32} {du re : Int32} {s : Nat} : ∀ (c k : Nat) (P : PS), k + c = 12 → teethP T du re (nI 0) s c k P = P := by
  intro c
  induction c with
  | zero => intros; rfl
  | succ c ih =>
    intro k P h
    simp only [teethP]
    rw [if_pos (bit00 k (by omega))]
    exact ih (k + 1) P (by omega)
theorem goP_D {T : Nat → Int32} {du re : Int32} {s k : Nat} {P : PS} {i : Nat} (h : i ≠ s) : (goP T du re s k P).1 i = P.1 i := by
  unfold goP
  split
  · split <;> rfl
  · exact va_up_ne _ _ h
theorem x_through6 {T : Nat → Int32} {du re : Int32} {tk : Nat} (hk8 : kd tk = 8) (ha : al tk = 24) (htk : 10 ≤ tk) (hre : ∃ r, r ≤ 24 ∧ re = nI r) (hTm : ∀ s, s < 24 → msk (T s)) : ∀ (c s n : Nat) (M : Mem) (P : PS), s + c = 24 → c < n → Px M du re P → (∀ s, s < 24 → M.1 tk s = T s) →
    ∃ M', f_X1_goThrough_6 n tk (nI s) M = some ((), M') ∧ Px M' du re (stepsP T du re c s P) ∧ ag xP M M' := by
  intro c
  induction c with
  | zero =>
    intro s n M P h hn hP hT
    obtain ⟨n, rfl, -⟩ := suc hn
    rw [f_X1_goThrough_6]
    simp (disch := omega) only [bnd_e, chk_tt, bn_s, bt_s, bt_x, inb_n, nI_clamp, le_t, le_f, lt_t, lt_f, eq_f, nI_add, pk_mul, ne_eq, not_true_eq_false, not_false_eq_true, ↓reduceIte, L0_, L1_, L2_, L3_, L4_, L5_, L6_, L7_, L8_, L9_, L10_, L11_, L12_, L13_, L14_, L15_, L16_, L20_, L22_, L23_, L24_, L25_, L30_, L31_, L32_, L33_, L36_, L40_, L41_, L45_, L48_, L60_, L63_, L64_, L97_, L100_, L107_, L108_, L126_, L150_, L200_, L294_, L366_, L402_, L408_, L414_, L420_, L421_, L422_, L423_, L424_, L425_, L426_, L427_, L428_, L999_, L2568_, L2996_]
    exact ⟨M, rfl, hP, ag.rf⟩
  | succ c ih =>
    intro s n M P h hn hP hT
    obtain ⟨n, rfl, -⟩ := suc hn
    rw [f_X1_goThrough_6]
    simp (disch := omega) only [bnd_e, chk_tt, bn_s, bt_s, bt_x, inb_n, nI_clamp, le_t, le_f, lt_t, lt_f, eq_f, nI_add, pk_mul, ne_eq, not_true_eq_false, not_false_eq_true, ↓reduceIte, L0_, L1_, L2_, L3_, L4_, L5_, L6_, L7_, L8_, L9_, L10_, L11_, L12_, L13_, L14_, L15_, L16_, L20_, L22_, L23_, L24_, L25_, L30_, L31_, L32_, L33_, L36_, L40_, L41_, L45_, L48_, L60_, L63_, L64_, L97_, L100_, L107_, L108_, L126_, L150_, L200_, L294_, L366_, L402_, L408_, L414_, L420_, L421_, L422_, L423_, L424_, L425_, L426_, L427_, L428_, L999_, L2568_, L2996_, f_X1_goThrough_29, kb_t hk8, ha]
    rw [hP.1 s (by omega), hT s (by omega)]
    simp only [stepsP]
    split
    · rename_i h0
      rw [show P.1 s = nI 0 from h0, teeth0 12 0 P rfl]
      exact ih (s + 1) n M P (by omega) (by omega) hP hT
    · obtain ⟨M1, e1, h1, a1⟩ := x_pass2 (T := T) (p := P.1 s) hre (show s < 24 by omega) (hTm s (by omega)) 12 0 FU M P rfl (by decide) hP (fun j _ _ => rfl)
      have e1' : f_X1_passStep (nI s) (T s) M = some ((), M1) := e1
      rw [e1']
      simp (disch := omega) only [bnd_e, chk_tt, bn_s, bt_s, bt_x, inb_n, nI_clamp, le_t, le_f, lt_t, lt_f, eq_f, nI_add, pk_mul, ne_eq, not_true_eq_false, not_false_eq_true, ↓reduceIte, L0_, L1_, L2_, L3_, L4_, L5_, L6_, L7_, L8_, L9_, L10_, L11_, L12_, L13_, L14_, L15_, L16_, L20_, L22_, L23_, L24_, L25_, L30_, L31_, L32_, L33_, L36_, L40_, L41_, L45_, L48_, L60_, L63_, L64_, L97_, L100_, L107_, L108_, L126_, L150_, L200_, L294_, L366_, L402_, L408_, L414_, L420_, L421_, L422_, L423_, L424_, L425_, L426_, L427_, L428_, L999_, L2568_, L2996_]
      obtain ⟨M2, e2, h2, a2⟩ := ih (s + 1) n M1 _ (by omega) (by omega) h1 (fun s hs => by rw [a1.2 tk s (Or.inr htk)]; exact hT s hs)
      exact ⟨M2, e2, h2, a1.tr a2⟩
theorem x_forget48 : ∀ (c k n : Nat) (M : Mem), k + c = 12 → c < n → ∃ M', f_X1_forgetSounds_48 n (nI k) M = some ((), M') ∧ (∀ i, k ≤ i → i < 12 → M'.1 8 i = -nI 24) ∧ (∀ i, i < k → M'.1 8 i = M.1 8 i) ∧ ag (fun a _ => a ≠ 8) M M' := by
  intro c
  induction c with
  | zero =>
    intro k n M h hn
    obtain ⟨n, rfl, -⟩ := suc hn
    rw [f_X1_forgetSounds_48]
    simp (disch := omega) only [bnd_e, chk_tt, bn_s, bt_s, bt_x, inb_n, nI_clamp, le_t, le_f, lt_t, lt_f, eq_f, nI_add, pk_mul, ne_eq, not_true_eq_false, not_false_eq_true, ↓reduceIte, L0_, L1_, L2_, L3_, L4_, L5_, L6_, L7_, L8_, L9_, L10_, L11_, L12_, L13_, L14_, L15_, L16_, L20_, L22_, L23_, L24_, L25_, L30_, L31_, L32_, L33_, L36_, L40_, L41_, L45_, L48_, L60_, L63_, L64_, L97_, L100_, L107_, L108_, L126_, L150_, L200_, L294_, L366_, L402_, L408_, L414_, L420_, L421_, L422_, L423_, L424_, L425_, L426_, L427_, L428_, L999_, L2568_, L2996_]
    exact ⟨M, rfl, fun i h1 h2 => by omega, fun _ _ => rfl, ag.rf⟩
  | succ c ih =>
    intro k n M h hn
    obtain ⟨n, rfl, -⟩ := suc hn
    rw [f_X1_forgetSounds_48]
    simp (disch := omega) only [bnd_e, chk_tt, bn_s, bt_s, bt_x, inb_n, nI_clamp, le_t, le_f, lt_t, lt_f, eq_f, nI_add, pk_mul, ne_eq, not_true_eq_false, not_false_eq_true, ↓reduceIte, L0_, L1_, L2_, L3_, L4_, L5_, L6_, L7_, L8_, L9_, L10_, L11_, L12_, L13_, L14_, L15_, L16_, L20_, L22_, L23_, L24_, L25_, L30_, L31_, L32_, L33_, L36_, L40_, L41_, L45_, L48_, L60_, L63_, L64_, L97_, L100_, L107_, L108_, L126_, L150_, L200_, L294_, L366_, L402_, L408_, L414_, L420_, L421_, L422_, L423_, L424_, L425_, L426_, L427_, L428_, L999_, L2568_, L2996_]
    obtain ⟨M1, e1, h1, h2, a1⟩ := ih (k + 1) n (mw M 8 k (-nI 24)) (by omega) (by omega)
    refine ⟨M1, e1, fun i h3 h4 => ?_, fun i h3 => ?_, (ag.rf.w _ (by omega)).tr a1⟩
    · by_cases e : i = k
      · subst e; rw [h2 i (by omega), mw_eq]
      · exact h1 i (by omega) h4
    · rw [h2 i (by omega), mwn (by omega)]
theorem x_forget27 : ∀ (c k n : Nat) (M : Mem), k + c = 24 → c < n → (∀ i, i < k → M.1 9 i = nI 0) → ∃ M', f_X1_forgetSounds_27 n (nI k) M = some ((), M') ∧ (∀ i, i < 24 → M'.1 9 i = nI 0) ∧ (∀ i, i < 12 → M'.1 8 i = -nI 24) ∧ ag (fun a _ => a ≠ 8 ∧ a ≠ 9) M M' := by
  intro c
  induction c with
  | zero =>
    intro k n M h hn h0
    obtain ⟨n, rfl, -⟩ := suc hn
    rw [f_X1_forgetSounds_27]
    simp (disch := omega) only [bnd_e, chk_tt, bn_s, bt_s, bt_x, inb_n, nI_clamp, le_t, le_f, lt_t, lt_f, eq_f, nI_add, pk_mul, ne_eq, not_true_eq_false, not_false_eq_true, ↓reduceIte, L0_, L1_, L2_, L3_, L4_, L5_, L6_, L7_, L8_, L9_, L10_, L11_, L12_, L13_, L14_, L15_, L16_, L20_, L22_, L23_, L24_, L25_, L30_, L31_, L32_, L33_, L36_, L40_, L41_, L45_, L48_, L60_, L63_, L64_, L97_, L100_, L107_, L108_, L126_, L150_, L200_, L294_, L366_, L402_, L408_, L414_, L420_, L421_, L422_, L423_, L424_, L425_, L426_, L427_, L428_, L999_, L2568_, L2996_]
    obtain ⟨M1, e1, h1, h2, a1⟩ := x_forget48 12 0 FU M rfl (by decide)
    exact ⟨M1, e1, fun i hi => by rw [a1.2 9 i (by omega)]; exact h0 i (by omega), fun i hi => h1 i (Nat.zero_le _) hi, a1.mono (fun _ _ q => q.1)⟩
  | succ c ih =>
    intro k n M h hn h0
    obtain ⟨n, rfl, -⟩ := suc hn
    rw [f_X1_forgetSounds_27]
    simp (disch := omega) only [bnd_e, chk_tt, bn_s, bt_s, bt_x, inb_n, nI_clamp, le_t, le_f, lt_t, lt_f, eq_f, nI_add, pk_mul, ne_eq, not_true_eq_false, not_false_eq_true, ↓reduceIte, L0_, L1_, L2_, L3_, L4_, L5_, L6_, L7_, L8_, L9_, L10_, L11_, L12_, L13_, L14_, L15_, L16_, L20_, L22_, L23_, L24_, L25_, L30_, L31_, L32_, L33_, L36_, L40_, L41_, L45_, L48_, L60_, L63_, L64_, L97_, L100_, L107_, L108_, L126_, L150_, L200_, L294_, L366_, L402_, L408_, L414_, L420_, L421_, L422_, L423_, L424_, L425_, L426_, L427_, L428_, L999_, L2568_, L2996_]
    obtain ⟨M1, e1, h1, h2, a1⟩ := ih (k + 1) n (mw M 9 k (nI 0)) (by omega) (by omega) (fun i hi => by
      by_cases e : i = k
      · subst e; rw [mw_eq]
      · rw [mwn (by omega)]; exact h0 i (by omega))
    exact ⟨M1, e1, h1, h2, (ag.rf.w _ (by omega)).tr a1⟩
theorem x_through {M : Mem} {T D W : Nat → Int32} {du re : Int32} {tk : Nat} (hk8 : kd tk = 8) (ha : al tk = 24) (htk : 10 ≤ tk) (hre : ∃ r, r ≤ 24 ∧ re = nI r) (hTm : ∀ s, s < 24 → msk (T s)) (hDm : ∀ s, s < 24 → msk (D s)) (hT : ∀ s, s < 24 → M.1 tk s = T s) (hD : ∀ s, s < 24 → M.1 6 s = D s) (hW : ∀ k, k < 12 → M.1 7 k = W k) (hdu : M.1 5 5 = du) (hre' : M.1 5 4 = re) :
    ∃ M', f_X1_goThrough tk M = some ((), M') ∧ Px M' du re (playP T du re D W) ∧ ag xP M M' := by
  unfold f_X1_goThrough f_X1_forgetSounds
  simp (disch := omega) only [bnd_e, chk_tt, bn_s, bt_s, bt_x, inb_n, nI_clamp, le_t, le_f, lt_t, lt_f, eq_f, nI_add, pk_mul, ne_eq, not_true_eq_false, not_false_eq_true, ↓reduceIte, L0_, L1_, L2_, L3_, L4_, L5_, L6_, L7_, L8_, L9_, L10_, L11_, L12_, L13_, L14_, L15_, L16_, L20_, L22_, L23_, L24_, L25_, L30_, L31_, L32_, L33_, L36_, L40_, L41_, L45_, L48_, L60_, L63_, L64_, L97_, L100_, L107_, L108_, L126_, L150_, L200_, L294_, L366_, L402_, L408_, L414_, L420_, L421_, L422_, L423_, L424_, L425_, L426_, L427_, L428_, L999_, L2568_, L2996_]
  obtain ⟨M1, e1, h1, h2, a1⟩ := x_forget27 24 0 FU (mw (mw (mw (mw (mw M 5 6 (nI 0)) 5 7 (nI 0)) 5 8 (nI 0)) 5 9 (nI 0)) 5 10 (nI 0)) rfl (by decide) (fun i hi => by omega)
  rw [e1]
  simp (disch := omega) only [bnd_e, chk_tt, bn_s, bt_s, bt_x, inb_n, nI_clamp, le_t, le_f, lt_t, lt_f, eq_f, nI_add, pk_mul, ne_eq, not_true_eq_false, not_false_eq_true, ↓reduceIte, L0_, L1_, L2_, L3_, L4_, L5_, L6_, L7_, L8_, L9_, L10_, L11_, L12_, L13_, L14_, L15_, L16_, L20_, L22_, L23_, L24_, L25_, L30_, L31_, L32_, L33_, L36_, L40_, L41_, L45_, L48_, L60_, L63_, L64_, L97_, L100_, L107_, L108_, L126_, L150_, L200_, L294_, L366_, L402_, L408_, L414_, L420_, L421_, L422_, L423_, L424_, L425_, L426_, L427_, L428_, L999_, L2568_, L2996_]
  have a0 : ag xP M M1 := ((((((ag.rf.w _ (by unfold xP; omega)).w _ (by unfold xP; omega)).w _ (by unfold xP; omega)).w _ (by unfold xP; omega)).w _ (by unfold xP; omega)).tr (a1.mono (fun c i q => by unfold xP at q; omega)))
  have g : ∀ c i, c ≠ 8 → c ≠ 9 → M1.1 c i = (mw (mw (mw (mw (mw M 5 6 (nI 0)) 5 7 (nI 0)) 5 8 (nI 0)) 5 9 (nI 0)) 5 10 (nI 0)).1 c i := fun c i q1 q2 => a1.2 c i ⟨q1, q2⟩
  obtain ⟨M2, e2, h3, a2⟩ := x_through6 (du := du) hk8 ha htk hre hTm 24 0 FU M1 (startP D W) rfl (by decide) ⟨fun s hs => by rw [g _ _ (by omega) (by omega)]; simp (disch := omega) only [mwn]; exact hD s hs, fun k hk => by rw [g _ _ (by omega) (by omega)]; simp (disch := omega) only [mwn]; exact hW k hk, fun k hk => h2 k hk, fun s hs => h1 s hs, ⟨by rw [g _ _ (by omega) (by omega)]; simp (disch := omega) only [mwn, mw_eq]; rfl, by rw [g _ _ (by omega) (by omega)]; simp (disch := omega) only [mwn, mw_eq]; rfl, by rw [g _ _ (by omega) (by omega)]; simp (disch := omega) only [mwn, mw_eq]; rfl, by rw [g _ _ (by omega) (by omega)]; simp (disch := omega) only [mwn, mw_eq]; rfl, by rw [g _ _ (by omega) (by omega)]; simp (disch := omega) only [mwn, mw_eq]; rfl⟩, by rw [g _ _ (by omega) (by omega)]; simp (disch := omega) only [mwn]; exact hdu, by rw [g _ _ (by omega) (by omega)]; simp (disch := omega) only [mwn]; exact hre', fun _ _ => Or.inl rfl, hDm⟩ (fun s hs => by rw [a0.2 tk s (Or.inr htk)]; exact hT s hs)
  exact ⟨M2, e2, h3, a0.tr a2⟩
