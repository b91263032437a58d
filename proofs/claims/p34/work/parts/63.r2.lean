/-! ===== rings: the class finds ===== -/
def aF : Nat → Nat → Prop := fun c i => c ≠ 11 ∧ ¬ (c = 10 ∧ 1 ≤ i)
section RY
variable {F : Nat → Int32} {k z : Nat} {x : Nat → Nat}
theorem x_fol {M : Mem} (hz : z ≤ 6) (h1 : M.1 10 1 = nI z) (hR : ∀ i, i < z → M.1 11 i = nI (x i)) {i : Nat} (hi : i < z) : f_X2_following (nI i) M = some (nI (fol x z i), M) := by
  unfold f_X2_following fol
  rw [h1, show nI i + (1 : Int32) = nI (i + 1) from nI_add i 1]
  by_cases q : i + 1 < z
  · rw [if_pos q, if_neg (by rw [nI_leI (by omega) (by omega)]; omega), inb_n (by omega) (by omega), chk_tt, nI_clamp (by omega), hR _ q]
    rfl
  · rw [if_neg q, if_pos (by rw [nI_leI (by omega) (by omega)]; omega), show inb (0 : Int32) 6 = true from rfl, chk_tt, show (0 : Int32).toNatClampNeg = 0 from rfl, hR 0 (by omega)]
    rfl
theorem x_least17 (hk : k ≤ 6) (hz : z ≤ 6) {M : Mem} (hL : LR M 34 F) (h1 : M.1 10 1 = nI z) (hR : ∀ i, i < z → M.1 11 i = nI (x i)) (hx : ∀ i, i < z → x i < 6 ∧ fol x z i < 6) : ∀ (c i n : Nat) (a : Int32), i + c = z → c < n → f_X2_leastDebt_17 n 37 a (nI i) M = some (lsL F x z c i a, M) := by
  intro c
  induction c with
  | zero =>
    intro i n a h hn
    obtain ⟨n, rfl, -⟩ := suc hn
    obtain rfl : i = z := by omega
    rw [f_X2_leastDebt_17, h1, if_pos (Int32.le_refl _)]
    rfl
  | succ c ih =>
    intro i n a h hn
    obtain ⟨n, rfl, -⟩ := suc hn
    have hi := hx i (by omega)
    rw [f_X2_leastDebt_17, h1, if_neg (by rw [nI_leI (by omega) (by omega)]; omega), inb_n (by omega) (by omega), chk_tt, show kb 37 11 = true from rfl, chk_tt, nI_clamp (by omega), hR i (by omega), inb_n (by omega) (by omega), chk_tt, rw_37 (by omega), bnd_e, x_fol hz h1 hR (by omega), bn_s, inb_n (by omega) (by omega), chk_tt, nI_clamp (by omega), hL.debt (by omega) (by omega), bnd_e, show nI i + (1 : Int32) = nI (i + 1) from nI_add i 1, bnd_e]
    exact ih (i + 1) n _ (by omega) (by omega)
theorem x_least (hk : k ≤ 6) (hz : z ≤ 6) (hz2 : 2 ≤ z) {M : Mem} (hL : LR M 34 F) (h1 : M.1 10 1 = nI z) (hR : ∀ i, i < z → M.1 11 i = nI (x i)) (hx : ∀ i, i < z → x i < 6 ∧ fol x z i < 6) : f_X2_leastDebt 37 M = some (lsF F x z, M) := by
  have h0 := hx 0 (by omega)
  have ef : f_X2_following 0 M = some (nI (fol x z 0), M) := x_fol hz h1 hR (i := 0) (by omega)
  unfold f_X2_leastDebt
  rw [show inb (0 : Int32) 6 = true from rfl, chk_tt, show kb 37 11 = true from rfl, chk_tt, show (0 : Int32).toNatClampNeg = 0 from rfl, hR 0 (by omega), inb_n (by omega) (by omega), chk_tt, rw_37 (by omega), bnd_e, ef, bn_s, inb_n (by omega) (by omega), chk_tt, nI_clamp (by omega), hL.debt (by omega) (by omega), bnd_e]
  exact x_least17 hk hz hL h1 hR hx (z - 1) 1 FU _ (by omega) (by show z - 1 < 100000; omega)
theorem x_find22 (hS : SI F k) (hz : z ≤ 6) (hz2 : 2 ≤ z) (k12 : Nat → Int32 → Mem → Option (Unit × Mem)) : ∀ (c t n : Nat) (M : Mem), t + c = k → c < n → LR M 34 F →
    (fnd F k z c t = none → ∃ M1, f_X2_find_22 k12 n 34 (nI z) (nI t) M = k12 34 (nI (z + 1)) M1 ∧ ag aR M M1) ∧ ∀ x, fnd F k z c t = some x → ∃ M1, f_X2_find_22 k12 n 34 (nI z) (nI t) M = some ((), M1) ∧ ag aF M M1 ∧ M1.1 10 1 = nI z ∧ M1.1 10 2 = lsF F x z ∧ ∀ i, i < z → M1.1 11 i = nI (x i) := by
  have hk6 := hS.1
  intro c
  induction c with
  | zero =>
    intro t n M h hn hL
    obtain ⟨n, rfl, -⟩ := suc hn
    obtain rfl : t = k := by omega
    refine ⟨fun _ => ⟨M, ?_, ag.rf⟩, fun x e => (by cases e)⟩
    rw [f_X2_find_22, kbL isL34, chk_tt, x_many hL hS, if_pos (Int32.le_refl _), show nI z + (1 : Int32) = nI (z + 1) from nI_add z 1, bnd_e]
  | succ c ih =>
    intro t n M h hn hL
    obtain ⟨n, rfl, -⟩ := suc hn
    have ht : t < k := by omega
    have a0 : ag aR M (mw M 11 0 (nI t)) := ag.rf.w _ (by unfold aR; omega)
    have hL0 : LR (mw M 11 0 (nI t)) 34 F := hL.ag a0 (fun c i _ _ => by unfold aR; omega)
    obtain ⟨M2, e2, a2, q2, w2⟩ := x_closed hS hz (z - 1) 1 (fun _ => t) (2 ^ t) 8 (mw M 11 0 (nI t)) (by omega) (by omega) (by omega) (fun i _ => ht) (by
      have hp : 2 ^ t < 2 ^ 6 := Nat.pow_lt_pow_right (by decide) (by omega)
      refine ⟨hp, fun u hu => ?_⟩
      rw [Nat.testBit_two_pow]
      simp only [newB, Bool.true_and, Bool.not_not]) hL0 (fun i hi => by rw [show i = 0 by omega, mw_eq])
    have e0 : f_X2_find_22 k12 (n + 1) 34 (nI z) (nI t) M = if b01 (srch F k (z - 1) 1 (fun _ => t)) = 0 then (f_X2_find_22 k12 n 34 (nI z) (nI (t + 1)) M2) else (bnd (mw M2 10 1 (nI z)) fun M55 => bn (f_X2_leastDebt 37 M55) fun r64 M64 => bnd (mw M64 10 2 r64) fun M67 => some ((), M67)) := by
      rw [f_X2_find_22, kbL isL34, chk_tt, x_many hL hS, if_neg (by rw [nI_leI (by omega) (by omega)]; omega), show inb (0 : Int32) 6 = true from rfl, chk_tt, show (0 : Int32).toNatClampNeg = 0 from rfl, bnd_e, show ((1 : Int32) <<< (nI t &&& 31)) = nI (2 ^ t) from bit_n t (by omega), show ((1 : Int32)) = nI 1 from rfl, e2, bn_s, nI_add, bnd_e]
    rw [e0]
    simp only [fnd]
    cases hs : srch F k (z - 1) 1 (fun _ => t) with
    | none =>
      obtain ⟨i1, i2⟩ := ih (t + 1) n M2 (by omega) (by omega) (hL0.ag a2 (fun c i _ _ => by unfold aR; omega))
      have : (if b01 (none : Option (Nat → Nat)) = 0 then (f_X2_find_22 k12 n 34 (nI z) (nI (t + 1)) M2) else (bnd (mw M2 10 1 (nI z)) fun M55 => bn (f_X2_leastDebt 37 M55) fun r64 M64 => bnd (mw M64 10 2 r64) fun M67 => some ((), M67))) = f_X2_find_22 k12 n 34 (nI z) (nI (t + 1)) M2 := if_pos rfl
      rw [this]
      dsimp only
      refine ⟨fun e => ?_, fun x e => ?_⟩
      · obtain ⟨M3, e3, a3⟩ := i1 e
        exact ⟨M3, e3, (a0.tr a2).tr a3⟩
      · obtain ⟨M3, e3, a3, q3⟩ := i2 x e
        exact ⟨M3, e3, ((a0.tr a2).mono (fun c i q => q.1)).tr a3, q3⟩
    | some y =>
      have : (if b01 (some y) = 0 then (f_X2_find_22 k12 n 34 (nI z) (nI (t + 1)) M2) else (bnd (mw M2 10 1 (nI z)) fun M55 => bn (f_X2_leastDebt 37 M55) fun r64 M64 => bnd (mw M64 10 2 r64) fun M67 => some ((), M67))) = (bnd (mw M2 10 1 (nI z)) fun M55 => bn (f_X2_leastDebt 37 M55) fun r64 M64 => bnd (mw M64 10 2 r64) fun M67 => some ((), M67)) := if_neg (show ¬ nI 1 = 0 by decide)
      rw [this]
      dsimp only
      refine ⟨fun e => (by cases e), fun x e => ?_⟩
      injection e with e
      subst e
      have hok := srch_ok (z - 1) 1 _ _ (Nat.le_refl _) ⟨fun i _ => by show t < k; omega, fun i j hi hj _ => by omega, fun i hi => by omega⟩ hs
      rw [show 1 + (z - 1) = z by omega] at hok
      have hx : ∀ i, i < z → y i < 6 ∧ fol y z i < 6 := fun i hi => by
        have := rng_e hok.1 hok.2 hz2 hi
        omega
      have hR2 := w2 y hs
      have hle := x_least (x := y) hk6 hz hz2 (M := mw M2 10 1 (nI z)) ((hL0.ag a2 (fun c i _ _ => by unfold aR; omega)).o _ (by omega)) (by rw [mw_eq]) (fun i hi => by rw [mwn (by omega)]; exact hR2 i hi) hx
      refine ⟨mw (mw M2 10 1 (nI z)) 10 2 (lsF F y z), ?_, ?_, ?_, ?_, fun i hi => ?_⟩
      · rw [bnd_e, hle, bn_s, bnd_e]
      · exact (((a0.tr a2).mono (fun c i q => q.1)).w _ (by unfold aF; omega)).w _ (by unfold aF; omega)
      · rw [mwn (by omega), mw_eq]
      · rw [mw_eq]
      · rw [mwn (by omega), mwn (by omega)]; exact hR2 i hi
/-- a ring found lies there -/
def Rg (M : Mem) (F : Nat → Int32) (o : Option (Nat × (Nat → Nat))) : Prop := (o = none ∧ M.1 10 1 = nI 0) ∨ ∃ z x, o = some (z, x) ∧ M.1 10 1 = nI z ∧ M.1 10 2 = lsF F x z ∧ ∀ i, i < z → M.1 11 i = nI (x i)
theorem x_find12 (hS : SI F k) : ∀ (c z n : Nat) (M : Mem), k < z + c → 2 ≤ z → c < n → LR M 34 F → M.1 10 1 = nI 0 → z ≤ 8 →
    ∃ M1, f_X2_find_12 n 34 (nI z) M = some ((), M1) ∧ ag aF M M1 ∧ Rg M1 F (fndS F k c z) := by
  have hk6 := hS.1
  intro c
  induction c with
  | zero =>
    intro z n M h hz2 hn hL h1 h8
    obtain ⟨n, rfl, -⟩ := suc hn
    refine ⟨M, ?_, ag.rf, Or.inl ⟨rfl, h1⟩⟩
    rw [f_X2_find_12, kbL isL34, chk_tt, x_many hL hS, if_pos (by rw [nI_ltI (by omega) (by omega)]; omega)]
  | succ c ih =>
    intro z n M h hz2 hn hL h1 h8
    obtain ⟨n, rfl, -⟩ := suc hn
    by_cases q : k < z
    · refine ⟨M, ?_, ag.rf, Or.inl ⟨?_, h1⟩⟩
      · rw [f_X2_find_12, kbL isL34, chk_tt, x_many hL hS, if_pos (by rw [nI_ltI (by omega) (by omega)]; omega)]
      · simp only [fndS]
        rw [if_pos q]
    · obtain ⟨i1, i2⟩ := x_find22 hS (show z ≤ 6 by omega) hz2 (f_X2_find_12 n) k 0 FU M (by omega) (by show k < 100000; omega) hL
      have e0 : f_X2_find_12 (n + 1) 34 (nI z) M = f_X2_find_22 (f_X2_find_12 n) FU 34 (nI z) (nI 0) M := by
        rw [f_X2_find_12, kbL isL34, chk_tt, x_many hL hS, if_neg (by rw [nI_ltI (by omega) (by omega)]; omega)]
        rfl
      rw [e0]
      simp only [fndS]
      rw [if_neg q]
      cases hs : fnd F k z k 0 with
      | none =>
        obtain ⟨M2, e2, a2⟩ := i1 hs
        obtain ⟨M3, e3, a3, r3⟩ := ih (z + 1) n M2 (by omega) (by omega) (by omega) (hL.ag a2 (fun c i _ _ => by unfold aR; omega)) (by rw [a2.2 _ _ (by unfold aR; omega)]; exact h1) (by omega)
        exact ⟨M3, e2.trans e3, (a2.mono (fun c i q => q.1)).tr a3, r3⟩
      | some x =>
        obtain ⟨M2, e2, a2, q2, q3, q4⟩ := i2 x hs
        exact ⟨M2, e2, a2, Or.inr ⟨z, x, rfl, q2, q3, q4⟩⟩
theorem x_find (hS : SI F k) {M : Mem} (hL : LR M 34 F) : ∃ M1, f_X2_find 34 M = some ((), M1) ∧ ag aF M M1 ∧ Rg M1 F (rngF F k) := by
  have hk6 := hS.1
  obtain ⟨M1, e1, a1, r1⟩ := x_find12 hS 6 2 FU (mw (mw M 10 1 (nI 0)) 10 2 (nI 0)) (by omega) (by omega) (by decide) ((hL.o _ (by omega)).o _ (by omega)) (by rw [mwn (by omega), mw_eq]) (by omega)
  refine ⟨M1, ?_, ((ag.rf.w _ (by unfold aF; omega)).w _ (by unfold aF; omega)).tr a1, r1⟩
  unfold f_X2_find
  rw [bnd_e, bnd_e]
  exact e1
end RY
