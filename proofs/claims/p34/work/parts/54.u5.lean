/-! ===== rows replaced; trade, turn, play ===== -/
def putR (F : Nat → Int32) (a c : Nat) (D : Nat → Int32) : Nat → Int32 := fun i => if a ≤ i ∧ i < a + c then D (i - a) else F i
theorem putR_i {F : Nat → Int32} {a c s : Nat} {D : Nat → Int32} (h : s < c) : putR F a c D (a + s) = D s := by
  unfold putR
  rw [if_pos ⟨by omega, by omega⟩, show a + s - a = s by omega]
theorem putR_o {F : Nat → Int32} {a c i : Nat} {D : Nat → Int32} (h : i < a ∨ a + c ≤ i) : putR F a c D i = F i := if_neg (by omega)
theorem lc_row : ∀ i, i < 428 → ∀ t, t < 6 → (lc i = 11 + 4 * t → 6 + 24 * t ≤ i ∧ i < 6 + 24 * t + 24) ∧ (lc i = 12 + 4 * t → 150 + 24 * t ≤ i ∧ i < 150 + 24 * t + 24) ∧ (lc i = 13 + 4 * t → 294 + 12 * t ≤ i ∧ i < 294 + 12 * t + 12) := by decide +kernel
section RW
variable {M M' : Mem} {F : Nat → Int32} {t : Nat} {D : Nat → Int32}
theorem LR.putD (h : LR M 34 F) (ht : t < 6) (hv : ∀ s, s < 24 → M'.1 (tc 34 t + 1) s = D s) (ho : ∀ c i, 34 ≤ c → c < 68 → c ≠ tc 34 t + 1 → M'.1 c i = M.1 c i) : LR M' 34 (putR F (6 + 24 * t) 24 D) := by
  intro i hi
  have hl := (liv_ok i hi).2
  by_cases q : 6 + 24 * t ≤ i ∧ i < 6 + 24 * t + 24
  · obtain ⟨s, rfl⟩ : ∃ s, i = 6 + 24 * t + s := ⟨i - (6 + 24 * t), by omega⟩
    have hs : s < 24 := by omega
    rw [(lc_drum ht hs).1, (lc_drum ht hs).2, putR_i hs, hv s hs]
  · rw [putR_o (by omega), ho _ _ (by omega) (by omega) (fun e => q ((lc_row i hi t ht).1 (by unfold tc at e; omega)))]
    exact h i hi
theorem LR.putT (h : LR M 34 F) (ht : t < 6) (hv : ∀ s, s < 24 → M'.1 (tc 34 t + 2) s = D s) (ho : ∀ c i, 34 ≤ c → c < 68 → c ≠ tc 34 t + 2 → M'.1 c i = M.1 c i) : LR M' 34 (putR F (150 + 24 * t) 24 D) := by
  intro i hi
  have hl := (liv_ok i hi).2
  by_cases q : 150 + 24 * t ≤ i ∧ i < 150 + 24 * t + 24
  · obtain ⟨s, rfl⟩ : ∃ s, i = 150 + 24 * t + s := ⟨i - (150 + 24 * t), by omega⟩
    have hs : s < 24 := by omega
    rw [(lc_tune ht hs).1, (lc_tune ht hs).2, putR_i hs, hv s hs]
  · rw [putR_o (by omega), ho _ _ (by omega) (by omega) (fun e => q ((lc_row i hi t ht).2.1 (by unfold tc at e; omega)))]
    exact h i hi
theorem LR.putW (h : LR M 34 F) (ht : t < 6) (hv : ∀ s, s < 12 → M'.1 (tc 34 t + 3) s = D s) (ho : ∀ c i, 34 ≤ c → c < 68 → c ≠ tc 34 t + 3 → M'.1 c i = M.1 c i) : LR M' 34 (putR F (294 + 12 * t) 12 D) := by
  intro i hi
  have hl := (liv_ok i hi).2
  by_cases q : 294 + 12 * t ≤ i ∧ i < 294 + 12 * t + 12
  · obtain ⟨s, rfl⟩ : ∃ s, i = 294 + 12 * t + s := ⟨i - (294 + 12 * t), by omega⟩
    have hs : s < 12 := by omega
    rw [(lc_wear ht hs).1, (lc_wear ht hs).2, putR_i hs, hv s hs]
  · rw [putR_o (by omega), ho _ _ (by omega) (by omega) (fun e => q ((lc_row i hi t ht).2.2 (by unfold tc at e; omega)))]
    exact h i hi
variable {F' : Nat → Int32} {k n l : Nat} {Sv : Nat → Nat → Int32} {B : Nat → Int32}
/-- the land has changed, nothing else of the state -/
theorem JX.set (h : JX M F n Sv l B) (hF : LR M' 34 F') (e : ∀ c i, (c = 0 ∧ i = 2 ∨ c = 1 ∨ c = 3 ∨ c = 2 ∧ i = 1 ∨ 68 ≤ c) → M'.1 c i = M.1 c i) : JX M' F' n Sv l B := by
  obtain ⟨⟨_, p, hp, hS⟩, h2, h3⟩ := h
  refine ⟨⟨hF, p, ⟨hp.1, by rw [e _ _ (by omega)]; exact hp.2.1, fun j hj => by rw [e _ _ (by omega)]; exact hp.2.2.1 j hj, hp.2.2.2⟩, fun j hj i hi => ?_⟩, by rw [e _ _ (by omega)]; exact h2, fun i hi => by rw [e _ _ (by omega)]; exact h3 i hi⟩
  have := hp.2.2.1 j (by have := hp.1; omega)
  rw [e _ _ (by omega)]
  exact hS j hj i hi
theorem JM.set (h : JM M F n Sv l B) (hF : Mo M' F') (e : ∀ c i, (c = 24 ∧ (i = 1 ∨ i = 4) ∨ c = 25 ∧ 428 ≤ i ∧ i < 2996 ∨ c = 26) → M'.1 c i = M.1 c i) : JM M' F' n Sv l B := by
  obtain ⟨⟨h1, h2, h3, h4⟩, h5, h6⟩ := h
  refine ⟨⟨hF, by rw [e _ _ (by omega)]; exact h2, h3, fun j i hj hi => by rw [e _ _ (by omega)]; exact h4 j i hj hi⟩, by rw [e _ _ (by omega)]; exact h5, fun i hi => by rw [e _ _ (by omega)]; exact h6 i hi⟩
theorem SI.put (h : SI F k) {a c : Nat} (h1 : ∀ s, s < c → 6 ≤ a + s → a + s < 294 → msk (D s)) (h2 : a + c ≤ 366) : SI (putR F a c D) k := by
  obtain ⟨g1, g2, g3, g4, g5⟩ := h
  refine ⟨g1, ?_, fun j a' b' => ?_, ?_, fun f t hf ht q => ?_⟩
  · rw [putR_o (by omega)]; exact g2
  · by_cases e : a ≤ j ∧ j < a + c
    · obtain ⟨s, rfl⟩ : ∃ s, j = a + s := ⟨j - a, by omega⟩
      rw [putR_i (by omega)]
      exact h1 s (by omega) a' b'
    · rw [putR_o (by omega)]; exact g3 j a' b'
  · rw [putR_o (by omega)]; exact g4
  · rw [putR_o (by omega)]; exact g5 f t hf ht q
end RW
def trF (F : Nat → Int32) (t u j : Nat) : Nat → Int32 := putR (putR F (6 + 24 * t) j (drumF F u)) (6 + 24 * u) j (drumF F t)
theorem trF_t {F : Nat → Int32} {t u j : Nat} (e : t ≠ u) (hj : j < 24) : trF F t u j (6 + 24 * t + j) = F (6 + 24 * t + j) := by
  unfold trF
  rw [putR_o (by omega), putR_o (by omega)]
theorem trF_u {F : Nat → Int32} {t u j : Nat} (e : t ≠ u) (hj : j < 24) : trF F t u j (6 + 24 * u + j) = F (6 + 24 * u + j) := by
  unfold trF
  rw [putR_o (by omega), putR_o (by omega)]
theorem putR_s {F : Nat → Int32} {a j : Nat} {D : Nat → Int32} : putR F a (j + 1) D = va_up (putR F a j D) (a + j) (D j) := by
  funext i
  by_cases e : i = a + j
  · subst e; rw [va_up_self, putR_i (by omega)]
  · rw [va_up_ne _ _ e]
    unfold putR
    by_cases q : a ≤ i ∧ i < a + j
    · rw [if_pos q, if_pos (by omega)]
    · rw [if_neg q, if_neg (by omega)]
theorem putR_up {F : Nat → Int32} {a c i : Nat} {D : Nat → Int32} {v : Int32} (h : i < a ∨ a + c ≤ i) : putR (va_up F i v) a c D = va_up (putR F a c D) i v := by
  funext x
  by_cases e : x = i
  · subst e; rw [va_up_self, putR_o h, va_up_self]
  · rw [va_up_ne _ _ e]
    unfold putR
    rw [va_up_ne _ _ e]
theorem trF_s {F : Nat → Int32} {t u j : Nat} (e : t ≠ u) (hj : j < 24) : trF F t u (j + 1) = va_up (va_up (trF F t u j) (6 + 24 * t + j) (F (6 + 24 * u + j))) (6 + 24 * u + j) (F (6 + 24 * t + j)) := by
  unfold trF
  rw [putR_s, putR_s, putR_up (by omega)]
  rfl
theorem SI.tr {F : Nat → Int32} {k : Nat} (h : SI F k) {t u : Nat} (ht : t < 6) (hu : u < 6) : SI (trF F t u 24) k :=
  (h.put (fun s hs _ _ => h.2.2.1 (6 + 24 * u + s) (by omega) (by omega)) (by omega)).put (fun s hs _ _ => h.2.2.1 (6 + 24 * t + s) (by omega) (by omega)) (by omega)
def trV (F : Nat → Int32) (t u : Nat) : Int32 := rightF (trF F t u 24) t t 0 + rightF (trF F t u 24) u u 0
theorem x_trade43 {F : Nat → Int32} {k t u n l : Nat} {Sv : Nat → Nat → Int32} {B : Nat → Int32} (hS : SI F k) (ht : t < 6) (hu : u < 6) (e : t ≠ u) : ∀ (c j m : Nat) (M : Mem), j + c = 24 → c < m → JX M (trF F t u j) n Sv l B →
    ∃ M', f_X6_trade_43 m (tc 34 t) (tc 34 u) (nI j) M = some (.inl (trV F t u), M') ∧ JX M' (trF F t u 24) n Sv l B ∧ ∀ c i, aX c i → M'.1 c i = M.1 c i := by
  intro c
  induction c with
  | zero =>
    intro j m M h hm hX
    obtain ⟨m, rfl, -⟩ := suc hm
    obtain rfl : j = 24 := by omega
    have s2 := hS.tr ht hu
    refine ⟨M, ?_, hX, fun _ _ _ => rfl⟩
    rw [f_X6_trade_43]
    simp (disch := omega) only [bnd_e, chk_tt, bn_s, bt_s, bt_x, inb_n, nI_clamp, le_t, le_f, lt_t, lt_f, eq_f, nI_add, pk_mul, ne_eq, not_true_eq_false, not_false_eq_true, ↓reduceIte, L0_, L1_, L2_, L3_, L4_, L5_, L6_, L7_, L8_, L9_, L10_, L11_, L12_, L13_, L14_, L15_, L16_, L20_, L22_, L23_, L24_, L25_, L30_, L31_, L32_, L33_, L36_, L40_, L41_, L45_, L48_, L60_, L63_, L64_, L97_, L100_, L107_, L108_, L126_, L150_, L200_, L294_, L366_, L402_, L408_, L414_, L420_, L421_, L422_, L423_, L424_, L425_, L426_, L427_, L428_, L999_, L2568_, L2996_, kbT isL34, x_right hX.1.1 isL34 s2]
    rfl
  | succ c ih =>
    intro j m M h hm hX
    obtain ⟨m, rfl, -⟩ := suc hm
    have hj : j < 24 := by omega
    have x2 := (hX.w (F (6 + 24 * u + j)) (6 + 24 * t + j) (by omega) (lc_drum ht hj).1 (lc_drum ht hj).2).w (F (6 + 24 * t + j)) (6 + 24 * u + j) (by omega) (lc_drum hu hj).1 (lc_drum hu hj).2
    rw [← trF_s e hj] at x2
    obtain ⟨M2, e2, x3, a3⟩ := ih (j + 1) m _ (by omega) (by omega) x2
    refine ⟨M2, ?_, x3, fun c i q => ?_⟩
    · rw [f_X6_trade_43]
      simp (disch := omega) only [bnd_e, chk_tt, bn_s, bt_s, bt_x, inb_n, nI_clamp, le_t, le_f, lt_t, lt_f, eq_f, nI_add, pk_mul, ne_eq, not_true_eq_false, not_false_eq_true, ↓reduceIte, L0_, L1_, L2_, L3_, L4_, L5_, L6_, L7_, L8_, L9_, L10_, L11_, L12_, L13_, L14_, L15_, L16_, L20_, L22_, L23_, L24_, L25_, L30_, L31_, L32_, L33_, L36_, L40_, L41_, L45_, L48_, L60_, L63_, L64_, L97_, L100_, L107_, L108_, L126_, L150_, L200_, L294_, L366_, L402_, L408_, L414_, L420_, L421_, L422_, L423_, L424_, L425_, L426_, L427_, L428_, L999_, L2568_, L2996_, kbT isL34]
      rw [hX.1.1.drum ht hj, hX.1.1.drum hu hj, trF_t e hj, trF_u e hj]
      exact e2
    · rw [a3 c i q, mwn (by unfold aX tc at *; omega), mwn (by unfold aX tc at *; omega)]
theorem trF_0 {F : Nat → Int32} {t u : Nat} : trF F t u 0 = F := by
  funext i
  unfold trF
  rw [putR_o (by omega), putR_o (by omega)]
