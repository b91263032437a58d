/-! ===== the class: how long it lasts; the best turn, the best drum ===== -/
theorem bitK_lt (v : Int32) (k : Nat) : bitK v k = nI 0 ∨ bitK v k = nI 1 := bitK01 v k
theorem sum_bd {f : Nat → Int32} {w : Nat} (hf : ∀ i, ∃ m, m ≤ w ∧ f i = nI m) : ∀ (c j a : Nat), ∃ m, m ≤ a + w * c ∧ acl f c j (nI a) = nI m := by
  intro c
  induction c with
  | zero => intro j a; exact ⟨a, by omega, rfl⟩
  | succ c ih =>
    intro j a
    obtain ⟨m, hm, e⟩ := hf j
    obtain ⟨m', hm', e'⟩ := ih (j + 1) (a + m)
    refine ⟨m', by rw [Nat.mul_add]; omega, ?_⟩
    show acl f c (j + 1) (nI a + f j) = _
    rw [e, nI_add, e']
theorem bitsI_bd (v : Int32) : ∃ m, m ≤ 12 ∧ bitsI v = nI m := by
  obtain ⟨m, hm, e⟩ := sum_bd (f := bitK v) (w := 1) (fun i => by
    rcases bitK01 v i with e | e
    · exact ⟨0, by omega, e⟩
    · exact ⟨1, by omega, e⟩) 12 0 0
  exact ⟨m, by omega, e⟩
theorem rightF_bd (F : Nat → Int32) (d t b : Nat) : ∃ m, m ≤ 288 ∧ rightF F d t b = nI m := by
  obtain ⟨m, hm, e⟩ := sum_bd (f := fun s => bitsI (F (6 + 24 * d + s) &&& F (150 + 24 * t + (s + b) % 24))) (w := 12) (fun i => bitsI_bd _) 24 0 0
  exact ⟨m, by omega, e⟩
theorem pinsF_bd (F : Nat → Int32) (r t : Nat) : ∃ m, m ≤ 288 ∧ pinsF F r t = nI m := by
  obtain ⟨m, hm, e⟩ := sum_bd (f := fun s => bitsI (F (r + 24 * t + s))) (w := 12) (fun i => bitsI_bd _) 24 0 0
  exact ⟨m, by omega, e⟩
theorem msk_z {v : Int32} (hv : msk v) (h : ∀ k, k < 12 → bitK v k = nI 0) : v = nI 0 := by
  obtain ⟨n, hn, rfl⟩ := hv
  congr 1
  apply Nat.eq_of_testBit_eq
  intro i
  rw [Nat.zero_testBit]
  by_cases q : i < 12
  · have := h i q
    rw [bitK_t (by omega) q] at this
    cases e : n.testBit i with
    | false => rfl
    | true =>
      rw [e, if_pos rfl] at this
      exact absurd this (by decide)
  · exact tb_hi hn (by omega)
/-- sounds so far; none: all that was met has fallen out -/
def ZP (s k : Nat) (P : PS) : Prop := (∀ i, i < 24 → msk (P.1 i)) ∧ ∃ m, m ≤ 12 * s + k ∧ P.2.2.2.2 0 = nI m ∧ (m = 0 → (∀ j, P.2.2.1 j = 99) ∧ (∀ i, i < s → P.1 i = nI 0) ∧ ∀ j, j < k → bitK (P.1 s) j = nI 0)
theorem ZP_go {T : Nat → Int32} {du re : Int32} {s k : Nat} {P : PS} (hs : s < 24) (hk : k < 12) (h : ZP s k P) : ZP s (k + 1) (goP T du re s k P) := by
  refine ⟨goP_msk h.1, ?_⟩
  obtain ⟨hm, m, h1, h2, h3⟩ := h
  unfold goP
  by_cases q : P.2.1 k < du
  · rw [if_pos q]
    by_cases z : P.2.2.1 k = 99 ∨ re ≤ nI s - nI (P.2.2.1 k)
    · rw [if_pos z]
      refine ⟨m + 1, by omega, ?_, fun e => by omega⟩
      show va_up (va_up P.2.2.2.2 0 (P.2.2.2.2 0 + nI 1)) 1 (P.2.2.2.2 1 + bitK (T s) k) 0 = _
      simp (disch := omega) only [va_up_ne, va_up_self]
      rw [h2, nI_add]
    · rw [if_neg z]
      refine ⟨m, by omega, ?_, fun e => absurd (Or.inl ((h3 e).1 k)) z⟩
      show va_up P.2.2.2.2 2 (P.2.2.2.2 2 + nI 1) 0 = _
      simp (disch := omega) only [va_up_ne]
      exact h2
  · rw [if_neg q]
    refine ⟨m, by omega, ?_, fun e => ⟨(h3 e).1, fun i hi => ?_, fun j hj => ?_⟩⟩
    · show va_up (va_up P.2.2.2.2 3 (P.2.2.2.2 3 + nI 1)) 4 (P.2.2.2.2 4 + bitK (T s) k) 0 = _
      simp (disch := omega) only [va_up_ne]
      exact h2
    · show va_up P.1 s (P.1 s &&& nbit k) i = _
      rw [va_up_ne _ _ (by omega)]
      exact (h3 e).2.1 i hi
    · show bitK (va_up P.1 s (P.1 s &&& nbit k) s) j = _
      rw [va_up_self, B2 (hm s hs) hk (by omega)]
      by_cases y : j = k
      · rw [if_pos y]
      · rw [if_neg y]
        exact (h3 e).2.2 j (by omega)
theorem ZP_teeth {T : Nat → Int32} {du re p : Int32} {s : Nat} (hs : s < 24) : ∀ (c k : Nat) (P : PS), k + c = 12 → ZP s k P → (∀ j, k ≤ j → j < 12 → bitK (P.1 s) j = bitK p j) → ZP s 12 (teethP T du re p s c k P) := by
  intro c
  induction c with
  | zero =>
    intro k P h hz hb
    obtain rfl : k = 12 := by omega
    exact hz
  | succ c ih =>
    intro k P h hz hb
    have hk : k < 12 := by omega
    simp only [teethP]
    by_cases q : bitK p k = nI 0
    · rw [if_pos q]
      refine ih (k + 1) P (by omega) ⟨hz.1, ?_⟩ (fun j h1 h2 => hb j (by omega) h2)
      obtain ⟨hm, m, h1, h2, h3⟩ := hz
      refine ⟨m, by omega, h2, fun e => ⟨(h3 e).1, (h3 e).2.1, fun j hj => ?_⟩⟩
      by_cases y : j = k
      · subst y; rw [hb j (by omega) hk]; exact q
      · exact (h3 e).2.2 j (by omega)
    · rw [if_neg q]
      exact ih (k + 1) _ (by omega) (ZP_go hs hk hz) (fun j h1 h2 => by rw [goP_bit hs hk h2 (by omega) hz.1]; exact hb j (by omega) h2)
theorem ZP_steps {T : Nat → Int32} {du re : Int32} : ∀ (c s : Nat) (P : PS), s + c = 24 → ZP s 0 P → ZP 24 0 (stepsP T du re c s P) := by
  intro c
  induction c with
  | zero =>
    intro s P h hz
    obtain rfl : s = 24 := by omega
    exact hz
  | succ c ih =>
    intro s P h hz
    simp only [stepsP]
    have h1 := ZP_teeth (T := T) (du := du) (re := re) (p := P.1 s) (show s < 24 by omega) 12 0 P rfl hz (fun j _ _ => rfl)
    refine ih (s + 1) _ (by omega) ⟨h1.1, ?_⟩
    obtain ⟨hm, m, h2, h3, h4⟩ := h1
    refine ⟨m, by omega, h3, fun e => ⟨(h4 e).1, fun i hi => ?_, fun j hj => by omega⟩⟩
    by_cases y : i = s
    · subst y
      exact msk_z (hm i (by omega)) (h4 e).2.2
    · exact (h4 e).2.1 i (by omega)
/-- without a sound nothing is left -/
theorem play_0 {T D W : Nat → Int32} {du re : Int32} (hD : ∀ s, s < 24 → msk (D s)) (h : (playP T du re D W).2.2.2.2 0 = nI 0) : ∀ s, s < 24 → (playP T du re D W).1 s = nI 0 := by
  obtain ⟨hm, m, h1, h2, h3⟩ := ZP_steps (T := T) (du := du) (re := re) 24 0 (startP D W) rfl ⟨hD, 0, by omega, rfl, fun _ => ⟨fun _ => rfl, fun i hi => by omega, fun j hj => by omega⟩⟩
  have e : nI m = nI 0 := h2.symm.trans h
  have e' : m = 0 := (nI_eq (by omega) (by omega)).mp e
  exact (h3 e').2.1
theorem steps_0 {T : Nat → Int32} {du re : Int32} : ∀ (c s : Nat) (P : PS), (∀ i, i < 24 → P.1 i = nI 0) → s + c = 24 → stepsP T du re c s P = P := by
  intro c
  induction c with
  | zero => intros; rfl
  | succ c ih =>
    intro s P h hs
    simp only [stepsP]
    rw [h s (by omega), teeth0 12 0 P rfl]
    exact ih (s + 1) P h (by omega)
theorem lasts_0 {T : Nat → Int32} {du re : Int32} : ∀ (c y : Nat) (D W : Nat → Int32), (∀ i, i < 24 → D i = nI 0) → lastsL T du re c y D W = -nI 1 := by
  intro c
  induction c with
  | zero => intros; rfl
  | succ c ih =>
    intro y D W h
    have e : playP T du re D W = startP D W := steps_0 24 0 _ h rfl
    simp only [lastsL]
    rw [e]
    have z : (startP D W).2.2.2.2 4 ≤ nI 0 := Int32.le_refl (nI 0)
    rw [if_pos z]
    exact ih (y + 1) D W h
section XL
variable {M : Mem} {k : Nat} {F : Nat → Int32}
theorem x_lasts32 {t : Nat} (ht : t < 6) (hS : SI F k) : ∀ (c y n : Nat) (M : Mem) (D W : Nat → Int32), y + c = 201 → c < n → (∀ s, s < 24 → msk (D s)) → (∀ s, s < 24 → M.1 6 s = D s) → (∀ k, k < 12 → M.1 7 k = W k) → M.1 5 4 = F 420 → M.1 5 5 = F 421 → LR M 34 F →
    ∃ M', f_X6_lastsFor_32 n (tc 34 t) (nI y) M = some (.inl (lastsL (tuneF F t) (F 421) (F 420) c y D W), M') ∧ ag xP M M' := by
  intro c
  induction c with
  | zero =>
    intro y n M D W h hn hm hD hW h4 h5 hR
    obtain ⟨n, rfl, -⟩ := suc hn
    obtain rfl : y = 201 := by omega
    refine ⟨M, ?_, ag.rf⟩
    rw [f_X6_lastsFor_32]
    simp (disch := omega) only [bnd_e, chk_tt, bn_s, bt_s, bt_x, inb_n, nI_clamp, le_t, le_f, lt_t, lt_f, eq_f, nI_add, pk_mul, ne_eq, not_true_eq_false, not_false_eq_true, ↓reduceIte, L0_, L1_, L2_, L3_, L4_, L5_, L6_, L7_, L8_, L9_, L10_, L11_, L12_, L13_, L14_, L15_, L16_, L20_, L22_, L23_, L24_, L25_, L30_, L31_, L32_, L33_, L36_, L40_, L41_, L45_, L48_, L60_, L63_, L64_, L97_, L100_, L107_, L108_, L126_, L150_, L200_, L294_, L366_, L402_, L408_, L414_, L420_, L421_, L422_, L423_, L424_, L425_, L426_, L427_, L428_, L999_, L2568_, L2996_]
    rfl
  | succ c ih =>
    intro y n M D W h hn hm hD hW h4 h5 hR
    obtain ⟨n, rfl, -⟩ := suc hn
    have hc : 40 ≤ tc 34 t := by unfold tc; omega
    obtain ⟨M1, e1, h1, a1⟩ := x_through (M := M) (T := tuneF F t) (D := D) (W := W) (du := F 421) (re := F 420) (tk := tc 34 t + 2) (kTt (kT isL34 ht)) (aTt (kT isL34 ht)) (by omega) hS.2.2.2.1 (fun s hs => hS.2.2.1 _ (by omega) (by omega)) hm (fun s hs => by rw [hR.tune ht hs]; rfl) hD hW h5 h4
    have ih' := fun n (hn : c < n) => ih (y + 1) n M1 (playP (tuneF F t) (F 421) (F 420) D W).1 (playP (tuneF F t) (F 421) (F 420) D W).2.1 (by omega) hn h1.2.2.2.2.2.2.2.2 h1.1 h1.2.1 h1.2.2.2.2.2.2.1 h1.2.2.2.2.2.1 (hR.ag a1 (fun c i q _ => by unfold xP; omega))
    obtain ⟨⟨c0, c1, c2, c3, c4⟩⟩ := And.intro h1.2.2.2.2.1 trivial
    have h0 := play_0 (T := tuneF F t) (W := W) (du := F 421) (re := F 420) hm
    rw [f_X6_lastsFor_32]
    simp (disch := omega) only [bnd_e, chk_tt, bn_s, bt_s, bt_x, inb_n, nI_clamp, le_t, le_f, lt_t, lt_f, eq_f, nI_add, pk_mul, ne_eq, not_true_eq_false, not_false_eq_true, ↓reduceIte, L0_, L1_, L2_, L3_, L4_, L5_, L6_, L7_, L8_, L9_, L10_, L11_, L12_, L13_, L14_, L15_, L16_, L20_, L22_, L23_, L24_, L25_, L30_, L31_, L32_, L33_, L36_, L40_, L41_, L45_, L48_, L60_, L63_, L64_, L97_, L100_, L107_, L108_, L126_, L150_, L200_, L294_, L366_, L402_, L408_, L414_, L420_, L421_, L422_, L423_, L424_, L425_, L426_, L427_, L428_, L999_, L2568_, L2996_, kbT isL34 ht, e1]
    rw [c4, c0]
    simp only [lastsL]
    by_cases q : (playP (tuneF F t) (F 421) (F 420) D W).2.2.2.2 4 ≤ nI 0
    · rw [if_pos q, if_pos q]
      by_cases z : (playP (tuneF F t) (F 421) (F 420) D W).2.2.2.2 0 = nI 0
      · rw [if_pos z, lasts_0 _ _ _ _ (h0 z)]
        exact ⟨M1, rfl, a1⟩
      · rw [if_neg z]
        obtain ⟨M2, e2, a2⟩ := ih' n (by omega)
        exact ⟨M2, e2, a1.tr a2⟩
    · rw [if_neg q, if_neg q]
      exact ⟨M1, rfl, a1⟩
theorem x_ct (hF : LR M 34 F) (hS : SI F k) (x : Int32) : (f_X6_checkTown x M = some (.inl (), M) ∧ ∃ t, t < k ∧ x = nI t) ∨ f_X6_checkTown x M = some (.inr exI, M) ∧ (x < nI 0 ∨ nI k ≤ x) := by
  have hk := hS.1
  unfold f_X6_checkTown
  rw [x_many hF hS]
  rcases pk_ix x (show k < 2 ^ 31 by omega) with q | q | ⟨j, hj, rfl⟩
  · right
    rw [if_pos q]
    exact ⟨rfl, Or.inl q⟩
  · right
    by_cases z : x < 0
    · rw [if_pos z]; exact ⟨rfl, Or.inl z⟩
    · rw [if_neg z, if_neg (Int32.not_lt.mpr q)]
      exact ⟨rfl, Or.inr q⟩
  · left
    refine ⟨?_, j, hj, rfl⟩
    simp (disch := omega) only [bnd_e, chk_tt, bn_s, bt_s, bt_x, inb_n, nI_clamp, le_t, le_f, lt_t, lt_f, eq_f, nI_add, pk_mul, ne_eq, not_true_eq_false, not_false_eq_true, ↓reduceIte, L0_, L1_, L2_, L3_, L4_, L5_, L6_, L7_, L8_, L9_, L10_, L11_, L12_, L13_, L14_, L15_, L16_, L20_, L22_, L23_, L24_, L25_, L30_, L31_, L32_, L33_, L36_, L40_, L41_, L45_, L48_, L60_, L63_, L64_, L97_, L100_, L107_, L108_, L126_, L150_, L200_, L294_, L366_, L402_, L408_, L414_, L420_, L421_, L422_, L423_, L424_, L425_, L426_, L427_, L428_, L999_, L2568_, L2996_]
theorem x_lasts (hF : LR M 34 F) (hS : SI F k) {t : Nat} (ht : t < k) : ∃ M', f_X6_lastsFor (nI t) M = some (.inl (lastsF F t), M') ∧ ag xP M M' := by
  have hk := hS.1
  have h6 : t < 6 := by omega
  obtain ⟨M1, e1, h1, h2, h3, h4, a1⟩ := x_begin hF h6
  obtain ⟨M2, e2, a2⟩ := x_lasts32 h6 hS 200 1 FU M1 (drumF F t) (wearF F t) rfl (by decide) (fun s hs => hS.2.2.1 _ (by omega) (by omega)) h1 h2 h3 h4 (hF.ag a1 (fun c i q _ => by unfold xP; omega))
  refine ⟨M2, ?_, a1.tr a2⟩
  unfold f_X6_lastsFor f_X6_checkTown
  rw [x_many hF hS]
  simp (disch := omega) only [bnd_e, chk_tt, bn_s, bt_s, bt_x, inb_n, nI_clamp, le_t, le_f, lt_t, lt_f, eq_f, nI_add, pk_mul, ne_eq, not_true_eq_false, not_false_eq_true, ↓reduceIte, L0_, L1_, L2_, L3_, L4_, L5_, L6_, L7_, L8_, L9_, L10_, L11_, L12_, L13_, L14_, L15_, L16_, L20_, L22_, L23_, L24_, L25_, L30_, L31_, L32_, L33_, L36_, L40_, L41_, L45_, L48_, L60_, L63_, L64_, L97_, L100_, L107_, L108_, L126_, L150_, L200_, L294_, L366_, L402_, L408_, L414_, L420_, L421_, L422_, L423_, L424_, L425_, L426_, L427_, L428_, L999_, L2568_, L2996_, tw_35, e1]
  exact e2
theorem x_turn44 (h : LR M 34 F) (hS : SI F k) {t w : Nat} (ht : t < 6) (hw : w < 2) : ∀ (c y b n : Nat), y + c = 24 → b < 24 → c < n → f_X6_bestTurn_44 n (nI t) (nI w) (nI b) (rightF F t t b) (nI y) M = some (.inl (if w = 0 then nI (bestT F t c y b) else rightF F t t (bestT F t c y b)), M) := by
  intro c
  induction c with
  | zero =>
    intro y b n h1 hb hn
    obtain ⟨n, rfl, -⟩ := suc hn
    rw [f_X6_bestTurn_44]
    simp (disch := omega) only [bnd_e, chk_tt, bn_s, bt_s, bt_x, inb_n, nI_clamp, le_t, le_f, lt_t, lt_f, eq_f, nI_add, pk_mul, ne_eq, not_true_eq_false, not_false_eq_true, ↓reduceIte, L0_, L1_, L2_, L3_, L4_, L5_, L6_, L7_, L8_, L9_, L10_, L11_, L12_, L13_, L14_, L15_, L16_, L20_, L22_, L23_, L24_, L25_, L30_, L31_, L32_, L33_, L36_, L40_, L41_, L45_, L48_, L60_, L63_, L64_, L97_, L100_, L107_, L108_, L126_, L150_, L200_, L294_, L366_, L402_, L408_, L414_, L420_, L421_, L422_, L423_, L424_, L425_, L426_, L427_, L428_, L999_, L2568_, L2996_, f_X6_bestTurn_97, bestT]
    rcases (show w = 0 ∨ w = 1 by omega) with rfl | rfl
    · simp (disch := omega) only [bnd_e, chk_tt, bn_s, bt_s, bt_x, inb_n, nI_clamp, le_t, le_f, lt_t, lt_f, eq_f, nI_add, pk_mul, ne_eq, not_true_eq_false, not_false_eq_true, ↓reduceIte, L0_, L1_, L2_, L3_, L4_, L5_, L6_, L7_, L8_, L9_, L10_, L11_, L12_, L13_, L14_, L15_, L16_, L20_, L22_, L23_, L24_, L25_, L30_, L31_, L32_, L33_, L36_, L40_, L41_, L45_, L48_, L60_, L63_, L64_, L97_, L100_, L107_, L108_, L126_, L150_, L200_, L294_, L366_, L402_, L408_, L414_, L420_, L421_, L422_, L423_, L424_, L425_, L426_, L427_, L428_, L999_, L2568_, L2996_]
    · simp (disch := omega) only [bnd_e, chk_tt, bn_s, bt_s, bt_x, inb_n, nI_clamp, le_t, le_f, lt_t, lt_f, eq_f, nI_add, pk_mul, ne_eq, not_true_eq_false, not_false_eq_true, ↓reduceIte, L0_, L1_, L2_, L3_, L4_, L5_, L6_, L7_, L8_, L9_, L10_, L11_, L12_, L13_, L14_, L15_, L16_, L20_, L22_, L23_, L24_, L25_, L30_, L31_, L32_, L33_, L36_, L40_, L41_, L45_, L48_, L60_, L63_, L64_, L97_, L100_, L107_, L108_, L126_, L150_, L200_, L294_, L366_, L402_, L408_, L414_, L420_, L421_, L422_, L423_, L424_, L425_, L426_, L427_, L428_, L999_, L2568_, L2996_, n10]
      rw [if_neg (by omega)]
  | succ c ih =>
    intro y b n h1 hb hn
    obtain ⟨n, rfl, -⟩ := suc hn
    rw [f_X6_bestTurn_44]
    simp (disch := omega) only [bnd_e, chk_tt, bn_s, bt_s, bt_x, inb_n, nI_clamp, le_t, le_f, lt_t, lt_f, eq_f, nI_add, pk_mul, ne_eq, not_true_eq_false, not_false_eq_true, ↓reduceIte, L0_, L1_, L2_, L3_, L4_, L5_, L6_, L7_, L8_, L9_, L10_, L11_, L12_, L13_, L14_, L15_, L16_, L20_, L22_, L23_, L24_, L25_, L30_, L31_, L32_, L33_, L36_, L40_, L41_, L45_, L48_, L60_, L63_, L64_, L97_, L100_, L107_, L108_, L126_, L150_, L200_, L294_, L366_, L402_, L408_, L414_, L420_, L421_, L422_, L423_, L424_, L425_, L426_, L427_, L428_, L999_, L2568_, L2996_, tw_35, x_ift h isL34 hS, f_X6_bestTurn_81]
    simp only [bestT]
    by_cases q : rightF F t t y ≤ rightF F t t b
    · rw [if_pos q, if_pos q]
      exact ih (y + 1) b n (by omega) hb (by omega)
    · rw [if_neg q, if_neg q]
      exact ih (y + 1) y n (by omega) (by omega) (by omega)
theorem x_turnOf (h : LR M 34 F) (hS : SI F k) {t w : Nat} (ht : t < 6) (hw : w < 2) : f_X6_bestTurn_25 (nI t) (nI w) M = some (.inl (turnF F t w), M) := by
  have := x_turn44 h hS ht hw 23 1 0 FU rfl (by omega) (by decide)
  unfold f_X6_bestTurn_25
  simp (disch := omega) only [bnd_e, chk_tt, bn_s, bt_s, bt_x, inb_n, nI_clamp, le_t, le_f, lt_t, lt_f, eq_f, nI_add, pk_mul, ne_eq, not_true_eq_false, not_false_eq_true, ↓reduceIte, L0_, L1_, L2_, L3_, L4_, L5_, L6_, L7_, L8_, L9_, L10_, L11_, L12_, L13_, L14_, L15_, L16_, L20_, L22_, L23_, L24_, L25_, L30_, L31_, L32_, L33_, L36_, L40_, L41_, L45_, L48_, L60_, L63_, L64_, L97_, L100_, L107_, L108_, L126_, L150_, L200_, L294_, L366_, L402_, L408_, L414_, L420_, L421_, L422_, L423_, L424_, L425_, L426_, L427_, L428_, L999_, L2568_, L2996_, tw_35, x_right h isL34 hS]
  rw [this]
  rcases (show w = 0 ∨ w = 1 by omega) with rfl | rfl
  · rw [if_pos rfl]; rfl
  · rw [if_neg (by omega)]; rfl
theorem le_m1 (m : Nat) (h : m < 2 ^ 31) : ¬ (nI m ≤ -nI 1) := by
  intro q
  have h1 : nI m < 0 := Int32.lt_of_le_of_lt q (by decide)
  exact nI_pos (by omega) h1
def mbI (b : Nat) : Int32 := if b = 9 then -nI 1 else nI b
theorem x_drum12 (h : LR M 34 F) (hS : SI F k) {t : Nat} (ht : t < 6) : ∀ (c u b n : Nat), u + c = k → (b = 9 ∨ b < 6) → c < n → f_X6_bestDrum_12 n (nI t) (mbI b) (if b = 9 then -nI 1 else rightF F b t 0) (nI u) M = some (.inl (mbI (bestD F t c u b)), M) := by
  have hk := hS.1
  intro c
  induction c with
  | zero =>
    intro u b n h1 hb hn
    obtain ⟨n, rfl, -⟩ := suc hn
    rw [f_X6_bestDrum_12]
    simp (disch := omega) only [bnd_e, chk_tt, bn_s, bt_s, bt_x, inb_n, nI_clamp, le_t, le_f, lt_t, lt_f, eq_f, nI_add, pk_mul, ne_eq, not_true_eq_false, not_false_eq_true, ↓reduceIte, L0_, L1_, L2_, L3_, L4_, L5_, L6_, L7_, L8_, L9_, L10_, L11_, L12_, L13_, L14_, L15_, L16_, L20_, L22_, L23_, L24_, L25_, L30_, L31_, L32_, L33_, L36_, L40_, L41_, L45_, L48_, L60_, L63_, L64_, L97_, L100_, L107_, L108_, L126_, L150_, L200_, L294_, L366_, L402_, L408_, L414_, L420_, L421_, L422_, L423_, L424_, L425_, L426_, L427_, L428_, L999_, L2568_, L2996_, x_many h hS]
    rfl
  | succ c ih =>
    intro u b n h1 hb hn
    obtain ⟨n, rfl, -⟩ := suc hn
    have hu : u < 6 := by omega
    rw [f_X6_bestDrum_12]
    simp (disch := omega) only [bnd_e, chk_tt, bn_s, bt_s, bt_x, inb_n, nI_clamp, le_t, le_f, lt_t, lt_f, eq_f, nI_add, pk_mul, ne_eq, not_true_eq_false, not_false_eq_true, ↓reduceIte, L0_, L1_, L2_, L3_, L4_, L5_, L6_, L7_, L8_, L9_, L10_, L11_, L12_, L13_, L14_, L15_, L16_, L20_, L22_, L23_, L24_, L25_, L30_, L31_, L32_, L33_, L36_, L40_, L41_, L45_, L48_, L60_, L63_, L64_, L97_, L100_, L107_, L108_, L126_, L150_, L200_, L294_, L366_, L402_, L408_, L414_, L420_, L421_, L422_, L423_, L424_, L425_, L426_, L427_, L428_, L999_, L2568_, L2996_, x_many h hS, tw_35, x_shared h isL34 hS, f_X6_bestDrum_72]
    simp only [bestD]
    have iu := ih (u + 1) u n (by omega) (Or.inr hu) (by omega)
    rw [if_neg (show ¬ u = 9 by omega), show mbI u = nI u from if_neg (by omega)] at iu
    by_cases e : u = t
    · subst e
      rw [if_pos rfl, if_pos rfl]
      exact ih (u + 1) b n (by omega) hb (by omega)
    · rw [if_neg e, if_neg (fun q => e ((nI_eq (by omega) (by omega)).mp q))]
      by_cases q : b = 9
      · rw [if_pos q, if_pos q]
        obtain ⟨m, hm, em⟩ := rightF_bd F u t 0
        rw [if_neg (by rw [em]; exact le_m1 m (by omega))]
        exact iu
      · rw [if_neg q, if_neg q]
        by_cases z : rightF F u t 0 ≤ rightF F b t 0
        · rw [if_pos z, if_pos z]
          have := ih (u + 1) b n (by omega) hb (by omega)
          rw [if_neg q] at this
          exact this
        · rw [if_neg z, if_neg z]
          exact iu
end XL
