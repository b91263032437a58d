/-! ===== turn, play, undo, the text's ends ===== -/
def tuD (F : Nat → Int32) (t b : Nat) : Nat → Int32 := fun r => F (6 + 24 * t + (r + (24 - b)) % 24)
def tuF (F : Nat → Int32) (t b : Nat) : Nat → Int32 := putR F (6 + 24 * t) 24 (tuD F t b)
theorem tu_r {r b : Nat} (hr : r < 24) (hb : b < 24) : ((r + (24 - b)) % 24 + b) % 24 = r ∧ (r + (24 - b)) % 24 < 24 := by omega
theorem SI.tu {F : Nat → Int32} {k t b : Nat} (h : SI F k) (ht : t < 6) : SI (tuF F t b) k := h.put (fun s hs _ _ => h.2.2.1 _ (by omega) (by omega)) (by omega)
theorem pk_rem' {a b : Nat} (ha : a < 24) (hb : b < 24) : nI (a + b) - nI (a + b) / nI 24 * nI 24 = nI ((a + b) % 24) := by
  have h1 : a + b < 2 ^ 31 := by omega
  simp (disch := omega) only [pk_rem]
theorem x_turn42 {F : Nat → Int32} {k t b n l : Nat} {Sv : Nat → Nat → Int32} {B : Nat → Int32} (hS : SI F k) (ht : t < 6) (hb : b < 24) : ∀ (c j m : Nat) (M : Mem), j + c = 24 → c < m → JX M F n Sv l B → (∀ s, s < j → M.1 22 ((s + b) % 24) = F (6 + 24 * t + s)) →
    ∃ M', f_X6_turn_42 m (nI b) (tc 34 t) (nI j) M = some (.inl (rightF (tuF F t b) t t 0), M') ∧ JX M' (tuF F t b) n Sv l B ∧ ∀ c i, aX c i → M'.1 c i = M.1 c i := by
  intro c
  induction c with
  | zero =>
    intro j m M h hm hX hT
    obtain ⟨m, rfl, -⟩ := suc hm
    obtain rfl : j = 24 := by omega
    obtain ⟨M1, e1, a1, h1⟩ := x_copy (M := M) (a := 22) (b := tc 34 t + 1) (n := 24) rfl (kTd (kT isL34 ht)) rfl (alD isL34 ht) (by omega)
    have hL : LR M1 34 (tuF F t b) := LR.putD hX.1.1 ht (fun s hs => by
      obtain ⟨q1, q2⟩ := tu_r hs hb
      rw [h1 s hs]
      have := hT _ q2
      rw [q1] at this
      exact this) (fun c i _ _ q => a1.2 c i q)
    refine ⟨M1, ?_, hX.set hL (fun c i q => a1.2 c i (by unfold tc; omega)), fun c i q => a1.2 c i (by unfold aX tc at *; omega)⟩
    rw [f_X6_turn_42]
    simp (disch := omega) only [bnd_e, chk_tt, bn_s, bt_s, bt_x, inb_n, nI_clamp, le_t, le_f, lt_t, lt_f, eq_f, nI_add, pk_mul, ne_eq, not_true_eq_false, not_false_eq_true, ↓reduceIte, L0_, L1_, L2_, L3_, L4_, L5_, L6_, L7_, L8_, L9_, L10_, L11_, L12_, L13_, L14_, L15_, L16_, L20_, L22_, L23_, L24_, L25_, L30_, L31_, L32_, L33_, L36_, L40_, L41_, L45_, L48_, L60_, L63_, L64_, L97_, L100_, L107_, L108_, L126_, L150_, L200_, L294_, L366_, L402_, L408_, L414_, L420_, L421_, L422_, L423_, L424_, L425_, L426_, L427_, L428_, L999_, L2568_, L2996_, kbT isL34, e1, x_right hL isL34 (hS.tu ht)]
  | succ c ih =>
    intro j m M h hm hX hT
    obtain ⟨m, rfl, -⟩ := suc hm
    have hj : j < 24 := by omega
    obtain ⟨M2, e2, x3, a3⟩ := ih (j + 1) m (mw M 22 ((j + b) % 24) (F (6 + 24 * t + j))) (by omega) (by omega) (hX.cp (fun c i q => mwn (by omega))) (fun s hs => by
      by_cases e : s = j
      · subst e; rw [mw_eq]
      · rw [mwn (by omega)]
        exact hT s (by omega))
    refine ⟨M2, ?_, x3, fun c i q => by rw [a3 c i q, mwn (by unfold aX at q; omega)]⟩
    rw [f_X6_turn_42]
    simp (disch := omega) only [bnd_e, chk_tt, bn_s, bt_s, bt_x, inb_n, nI_clamp, le_t, le_f, lt_t, lt_f, eq_f, nI_add, pk_mul, ne_eq, not_true_eq_false, not_false_eq_true, ↓reduceIte, L0_, L1_, L2_, L3_, L4_, L5_, L6_, L7_, L8_, L9_, L10_, L11_, L12_, L13_, L14_, L15_, L16_, L20_, L22_, L23_, L24_, L25_, L30_, L31_, L32_, L33_, L36_, L40_, L41_, L45_, L48_, L60_, L63_, L64_, L97_, L100_, L107_, L108_, L126_, L150_, L200_, L294_, L366_, L402_, L408_, L414_, L420_, L421_, L422_, L423_, L424_, L425_, L426_, L427_, L428_, L999_, L2568_, L2996_, kbT isL34, pk_rem']
    rw [hX.1.1.drum ht hj]
    exact e2
theorem nx_b {n : Nat} (h : n ≤ 6) : 1 ≤ nx n ∧ nx n ≤ 6 := by unfold nx; split <;> omega
theorem push_l {F : Nat → Int32} {n : Nat} {Sv : Nat → Nat → Int32} (h : n ≤ 6) : pushS F n Sv (nx n - 1) = F := by
  funext i
  unfold pushS nx
  by_cases q : n < 6
  · rw [if_pos q, if_pos q, if_pos (by omega)]
  · rw [if_neg q, if_neg q, if_pos (by omega)]
