/-! ===== isSound ===== -/
section SO
variable {M : Mem} {F : Nat → Int32} {k m n l t : Nat} {Sv : Nat → Nat → Int32} {B : Nat → Int32}
theorem so_186 {k12 : Int32 → Int32 → Int32 → Int32 → Int32 → Mem → Option ((Int32 ⊕ String) × Mem)} {k146 : Int32 → Int32 → Int32 → Int32 → Int32 → Int32 → Int32 → Int32 → Int32 → Mem → Option ((Int32 ⊕ String) × Mem)} {y1 y2 y3 y4 y5 y6 y7 y9 v : Int32} : ∀ (c j f : Nat) (h : Int32), j + c = 12 → c < f → f_L_isSound_186 k12 k146 f y1 y2 y3 y4 y5 y6 y7 h y9 v (nI j) M = k146 y1 y2 y3 y4 y5 y6 y7 (acl (bitK v) c j h) (y9 + 1) M := by
  intro c
  induction c with
  | zero =>
    intro j f h hj hf
    obtain ⟨f, rfl, -⟩ := suc hf
    obtain rfl : j = 12 := by omega
    rw [f_L_isSound_186, if_pos (show (12 : Int32) ≤ nI 12 from Int32.le_refl _), bnd_e]
    rfl
  | succ c ih =>
    intro j f h hj hf
    obtain ⟨f, rfl, -⟩ := suc hf
    rw [f_L_isSound_186, if_neg (show ¬ (12 : Int32) ≤ nI j by rw [show (12 : Int32) = nI 12 from rfl, nI_leI (by omega) (by omega)]; omega), bnd_e, bnd_e, show nI j + (1 : Int32) = nI (j + 1) from nI_add j 1]
    exact ih (j + 1) f _ (by omega) (by omega)
theorem acl_z {f : Nat → Int32} {c j : Nat} {a : Int32} : acl f c j a = a + acl f c j (nI 0) := by
  have := acl_in (f := f) c j (nI 0) a
  rw [show nI 0 + a = a from Int32.zero_add a] at this
  rw [this, Int32.add_comm]
theorem hear_in {T D0 : Nat → Int32} {P : PS} (hD : ∀ i, i < 24 → msk (D0 i)) (h : PJ T D0 24 0 P) {s : Nat} (hs : s < 24) : P.2.2.2.1 s &&& (D0 s ^^^ (-1 : Int32)) = 0 := by
  obtain ⟨a1, a2, a3, a4, a5, -⟩ := h
  obtain ⟨x, hx, ex⟩ := a4 s hs
  obtain ⟨d, hd, ed⟩ := hD s hs
  rw [ex, ed, show ((-1 : Int32)) = nI 4294967295 from by decide, nI_xor, nI_and]
  have : x &&& (d ^^^ 4294967295) = 0 := by
    apply Nat.eq_of_testBit_eq
    intro i
    rw [Nat.testBit_and, Nat.testBit_xor, Nat.zero_testBit]
    by_cases q : i < 12
    · have h5 := a5 s i hs q
      rw [ed, ex, bitK_t (by omega) q, bitK_t (by omega) q] at h5
      cases e1 : x.testBit i with
      | false => rfl
      | true =>
        cases e2 : d.testBit i with
        | false =>
          rw [e1, e2] at h5
          exact absurd (h5 rfl) (by decide)
        | true =>
          rw [show 4294967295 = 2 ^ 32 - 1 from rfl, Nat.testBit_two_pow_sub_one]
          simp
          omega
    · rw [tb_hi hx (by omega)]; rfl
  rw [this]
  rfl
theorem dull_le {W W' : Nat → Int32} {d : Nat} (hd : d < 2 ^ 31) (h : ∀ j, j < 12 → ∃ w0 w, W j = nI w0 ∧ W' j = nI w ∧ w0 ≤ w ∧ w ≤ 100) : dullW W (nI d) ≤ dullW W' (nI d) := by
  obtain ⟨x, y, h1, h2, h3, h4⟩ := sum_le (f := fun k => if W k < nI d then nI 0 else nI 1) (g := fun k => if W' k < nI d then nI 0 else nI 1) (w := 1) 12 0 0 0 (Nat.le_refl _) (fun i _ hi => by
    obtain ⟨w0, w, e0, e1, g1, g2⟩ := h i (by omega)
    rw [e0, e1]
    by_cases q : w < d
    · rw [if_pos ((nI_ltI (by omega) hd).mpr q), if_pos ((nI_ltI (by omega) hd).mpr (show w0 < d by omega))]; exact ⟨0, 0, by omega, by omega, rfl, rfl⟩
    · rw [if_neg (show ¬ nI w < nI d from fun e => q ((nI_ltI (by omega) hd).mp e))]
      by_cases q' : w0 < d
      · rw [if_pos ((nI_ltI (by omega) hd).mpr q')]; exact ⟨0, 1, by omega, by omega, rfl, rfl⟩
      · rw [if_neg (show ¬ nI w0 < nI d from fun e => q' ((nI_ltI (by omega) hd).mp e))]; exact ⟨1, 1, by omega, by omega, rfl, rfl⟩)
  show sumI _ 12 ≤ sumI _ 12
  unfold sumI
  rw [h3, h4, nI_leI (by omega) (by omega)]
  exact h1
theorem so_146 (hI : Iv F k m) (ht : t < k) {k12 : Int32 → Int32 → Int32 → Int32 → Int32 → Mem → Option ((Int32 ⊕ String) × Mem)} {y1 y2 y3 y4 : Int32} : ∀ (c s f : Nat) (M : Mem), s + c = 24 → c < f → JX M F n Sv l B →
    ∃ M', f_L_isSound_146 k12 f y1 y2 y3 y4 (nI t) (pinsF F 6 t) ((plF F t).2.2.2.2 0) (sumI (fun i => bitsI ((plF F t).2.2.2.1 i)) s) (nI s) M = k12 (y1 + (F t + pinsF F 6 t)) (y2 + rightF F t t 0) (y3 + owesF F t) (y4 + owedF F t) (nI (t + 1)) M' ∧ JX M' F n Sv l B := by
  have hS := hI.1
  have hk := hS.1
  have h6 : t < 6 := by omega
  obtain ⟨hJ, hK⟩ := pl_all hI h6
  obtain ⟨b, b1, b2, b3, b4⟩ := best_turn F t
  intro c
  induction c with
  | zero =>
    intro s f M hs hf hX
    obtain ⟨f, rfl, -⟩ := suc hf
    obtain rfl : s = 24 := by omega
    have hh : sumI (fun i => bitsI ((plF F t).2.2.2.1 i)) 24 = (plF F t).2.2.2.2 0 := hJ.2.2.2.2.2.2.2.2.2
    refine ⟨M, ?_, hX⟩
    rw [f_L_isSound_146, if_pos (show (24 : Int32) ≤ nI 24 from Int32.le_refl _), if_pos hh, q_turn1 hX hS ht, bt_s, q_t3 hX hS ht, bt_s, if_pos (by rw [b3]; exact (b4 0 (by omega)).1), q_t0 hX hS ht, bt_s, bnd_e, q_t3 hX hS ht, bt_s, bnd_e, q_t6 hX hS ht, bt_s, bnd_e, q_t7 hX hS ht, bt_s, bnd_e, show nI t + (1 : Int32) = nI (t + 1) from nI_add t 1, bnd_e]
  | succ c ih =>
    intro s f M hs hf hX
    obtain ⟨f, rfl, -⟩ := suc hf
    obtain ⟨M2, e2, x2⟩ := q_s2 hX hS ht (show s < 24 by omega)
    obtain ⟨M3, e3, x3⟩ := ih (s + 1) f M2 (by omega) (by omega) x2
    refine ⟨M3, ?_, x3⟩
    have hz : (plF F t).2.2.2.1 s &&& (F (6 + 24 * t + s) ^^^ (-1 : Int32)) = 0 := hear_in (D0 := drumF F t) (fun i hi => hS.2.2.1 _ (by omega) (by omega)) hJ (show s < 24 by omega)
    rw [f_L_isSound_146, if_neg (show ¬ (24 : Int32) ≤ nI s by rw [show (24 : Int32) = nI 24 from rfl, nI_leI (by omega) (by omega)]; omega), e2, bt_s, q_s0 x2 hS ht (by omega), bt_s, if_pos hz, show (0 : Int32) = nI 0 from rfl, so_186 12 0 FU _ rfl (by decide), show nI s + (1 : Int32) = nI (s + 1) from nI_add s 1]
    rw [sumI_s] at e3
    rw [show acl (bitK ((plF F t).2.2.2.1 s)) 12 0 (sumI (fun i => bitsI ((plF F t).2.2.2.1 i)) s) = sumI (fun i => bitsI ((plF F t).2.2.2.1 i)) s + bitsI ((plF F t).2.2.2.1 s) from acl_z]
    exact e3
theorem so_12 (hI : Iv F k m) : ∀ (c t f : Nat) (M : Mem), t + c = k → c < f → JX M F n Sv l B →
    ∃ M', f_L_isSound_12 f (totF F t) (sumI (fun t => townF F t 3) t) (sumI (fun t => owesF F t) t) (sumI (fun t => owedF F t) t) (nI t) M = some (.inl (nI 1), M') ∧ JX M' F n Sv l B := by
  have hS := hI.1
  have hk := hS.1
  intro c
  induction c with
  | zero =>
    intro t f M hs hf hX
    obtain ⟨f, rfl, -⟩ := suc hf
    obtain rfl : t = k := by omega
    obtain ⟨M2, e2, x2⟩ := q_trades hX hS
    refine ⟨M2, ?_, x2⟩
    have hb : ¬ tdV F t 0 < sumI (fun i => townF F i 3) t := best_trades hk
    rw [f_L_isSound_12, q_c0 hX hS, bt_s, if_pos (Int32.le_refl _), q_c1 hX hS, bt_s, if_pos rfl, q_c9 hX hS, bt_s, if_pos (show sumTF F t 3 = sumI (fun t => townF F t 3) t from rfl), if_pos (owe_sum hS), q_c3 hX hS, bt_s, if_pos (show sumI (fun t => owesF F t) t = allD F t from rfl), e2, bt_s, if_neg hb]
    rfl
  | succ c ih =>
    intro t f M hs hf hX
    obtain ⟨f, rfl, -⟩ := suc hf
    have ht : t < k := by omega
    obtain ⟨d, ed, d1, d2⟩ := hI.2.2.2.1
    obtain ⟨hJ, ⟨a, b, c', f', g, e0, e1, e2, e3, e4, h1, h2, h3, h4⟩, hw⟩ := pl_all hI (show t < 6 by omega)
    obtain ⟨M1, p1, x1⟩ := q_if0 hX hS ht
    obtain ⟨M2, p2, x2⟩ := q_if1 x1 hS ht
    obtain ⟨M3, p3, x3⟩ := q_if2 x2 hS ht
    obtain ⟨M4, p4, x4⟩ := q_if3 x3 hS ht
    obtain ⟨M5, p5, x5⟩ := q_if4 x4 hS ht
    obtain ⟨M6, p6, x6⟩ := so_146 (k12 := f_L_isSound_12 f) (y1 := totF F t) (y2 := sumI (fun t => townF F t 3) t) (y3 := sumI (fun t => owesF F t) t) (y4 := sumI (fun t => owedF F t) t) hI ht 24 0 FU M5 rfl (by decide) x5
    obtain ⟨M7, p7, x7⟩ := ih (t + 1) f M6 (by omega) (by omega) x6
    refine ⟨M7, ?_, x7⟩
    have g1 : rightF F t t 0 + (pinsF F 6 t - rightF F t t 0) = pinsF F 6 t := i_sc _ _
    have g2 : rightF F t t 0 + (pinsF F 150 t - rightF F t t 0) = pinsF F 150 t := i_sc _ _
    have g3 : (plF F t).2.2.2.2 0 + (plF F t).2.2.2.2 2 + (plF F t).2.2.2.2 3 = pinsF F 6 t := by
      rw [e0, e2, e3, nI_add, nI_add, h4]; rfl
    have g4 : ¬ (plF F t).2.2.2.2 0 < (plF F t).2.2.2.2 1 := by
      rw [e0, e1, nI_ltI (by omega) (by omega)]; omega
    have g5 : dullF F t ≤ dullW (plF F t).2.1 (F 421) := by
      rw [ed]
      have := dull_le (W := wearF F t) (W' := (plF F t).2.1) (d := d) (by omega) hw
      rw [← ed] at this ⊢
      exact this
    rw [f_L_isSound_12, q_c0 hX hS, bt_s, if_neg (show ¬ nI k ≤ nI t by rw [nI_leI (by omega) (by omega)]; omega), q_t1 hX hS ht, bt_s, p1, bt_s, q_t3 x1 hS ht, bt_s, q_t4 x1 hS ht, bt_s, if_pos g1, q_t3 x1 hS ht, bt_s, q_t5 x1 hS ht, bt_s, q_t2 x1 hS ht, bt_s, if_pos g2, p2, bt_s, p3, bt_s, if_pos g3, p4, bt_s, if_neg g4, p5, bt_s, q_t11 x5 hS ht, bt_s, if_pos g5]
    have s1 : totF F t + (F t + pinsF F 6 t) = totF F (t + 1) := sumI_s.symm
    have s2 : sumI (fun t => townF F t 3) t + rightF F t t 0 = sumI (fun t => townF F t 3) (t + 1) := sumI_s.symm
    have s3 : sumI (fun t => owesF F t) t + owesF F t = sumI (fun t => owesF F t) (t + 1) := sumI_s.symm
    have s4 : sumI (fun t => owedF F t) t + owedF F t = sumI (fun t => owedF F t) (t + 1) := sumI_s.symm
    rw [s1, s2, s3, s4] at p6
    exact p6.trans p7
theorem l_sound (hX : JX M F n Sv l B) (hI : Iv F k m) : ∃ M', f_L_isSound M = some (.inl (nI 1), M') ∧ JX M' F n Sv l B := by
  have hk := hI.1.1
  exact so_12 hI k 0 FU M (by omega) (by show k < 100000; omega) hX
end SO
