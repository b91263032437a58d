/-! ===== rings: the reference finds ===== -/
theorem cst_max : cst 0 6 < 100000 ∧ cst 1 6 < 100000 ∧ cst 2 6 < 100000 ∧ cst 3 6 < 100000 ∧ cst 4 6 < 100000 := by decide
theorem cst_ok {all k : Nat} (h2 : 2 ≤ all) (h : all ≤ 6) (hk : k ≤ 6) : cst (all - 2) k < FU := by
  refine Nat.lt_of_le_of_lt (cst_m hk) ?_
  show cst (all - 2) 6 < 100000
  obtain ⟨c0, c1, c2, c3, c4⟩ := cst_max
  rcases (show all = 2 ∨ all = 3 ∨ all = 4 ∨ all = 5 ∨ all = 6 by omega) with rfl | rfl | rfl | rfl | rfl
  · exact c0
  · exact c1
  · exact c2
  · exact c3
  · exact c4
def aG : Nat → Nat → Prop := fun c i => c ≠ 29 ∧ ¬ (c = 24 ∧ i = 13)
def Mg (M : Mem) (o : Option (Nat × (Nat → Nat))) : Prop := (o = none ∧ M.1 24 13 = nI 0) ∨ ∃ z x, o = some (z, x) ∧ M.1 24 13 = nI z ∧ ∀ i, i < z → M.1 29 i = nI (x i)
section MG
variable {F : Nat → Int32} {k z : Nat}
theorem m_closes (hS : SI F k) (hz2 : 2 ≤ z) (hz : z ≤ 6) {t : Nat} (ht : t < k) {M : Mem} (hF : Mo M F) (h0 : M.1 29 0 = nI t) : ∃ M', f_X7_closes (nI z) M = some (b01 (srch F k (z - 1) 1 (fun _ => t)), M') ∧ ag aK M M' ∧ ∀ x, srch F k (z - 1) 1 (fun _ => t) = some x → ∀ i, i < z → M'.1 29 i = nI (x i) := by
  have hk6 := hS.1
  have hc := cst_ok hz2 hz hk6
  have a0 : ag aK M (mw M 29 1 (-nI 1)) := ag.rf.w _ (by unfold aK; omega)
  obtain ⟨j1, j2⟩ := m_loop hS hz (z - 2) 1 (by omega) (Nat.le_refl _) k k 0 FU (fun _ => t) (mw M 29 1 (-nI 1)) (Nat.le_refl _) (by omega) (by omega) (fun i hi => by rw [mwn (by omega)]; exact hF i hi) (fun i hi => ht) (fun i hi => by rw [show i = 0 by omega, mwn (by omega)]; exact h0) (by rw [mw_eq]; rfl)
  have e0 : f_X7_closes (nI z) M = f_X7_closes_9 FU (nI z) (nI 1) (mw M 29 1 (-nI 1)) := by
    unfold f_X7_closes
    rw [show inb (1 : Int32) 7 = true from rfl, chk_tt, show (1 : Int32).toNatClampNeg = 1 from rfl, bnd_e]
    rfl
  have es : srch F k (z - 1) 1 (fun _ => t) = lpK F (srch F k (z - 2) (1 + 1)) (fun _ => t) 1 k 0 := by
    rw [show z - 1 = (z - 2) + 1 by omega]
    rfl
  rw [e0, es]
  cases hs : lpK F (srch F k (z - 2) (1 + 1)) (fun _ => t) 1 k 0 with
  | none =>
    obtain ⟨n', M', w1, w2, w3, w4⟩ := j1 hs
    obtain ⟨n', rfl⟩ : ∃ m, n' = m + 1 := ⟨n' - 1, by omega⟩
    refine ⟨M', ?_, a0.tr w3, fun x e => (by cases e)⟩
    rw [w2, f_X7_closes_9]
    rfl
  | some y =>
    obtain ⟨M', w1, w2, w3⟩ := j2 y hs
    refine ⟨M', w1, a0.tr w2, fun x e => ?_⟩
    injection e with e
    subst e
    exact w3
theorem m_find16 (hS : SI F k) (hz : z ≤ 6) (hz2 : 2 ≤ z) (k2 : Int32 → Mem → Option (Int32 × Mem)) : ∀ (c t n : Nat) (M : Mem), t + c = k → c < n → Mo M F →
    (fnd F k z c t = none → ∃ M1, f_X7_findsRing_16 k2 n (nI z) (nI t) M = k2 (nI (z + 1)) M1 ∧ ag aK M M1) ∧ ∀ x, fnd F k z c t = some x → ∃ M1, f_X7_findsRing_16 k2 n (nI z) (nI t) M = some (nI 1, M1) ∧ ag aG M M1 ∧ M1.1 24 13 = nI z ∧ ∀ i, i < z → M1.1 29 i = nI (x i) := by
  have hk6 := hS.1
  intro c
  induction c with
  | zero =>
    intro t n M h hn hF
    obtain ⟨n, rfl, -⟩ := suc hn
    obtain rfl : t = k := by omega
    have hmm := (hF 423 (by omega)).trans hS.2.1
    refine ⟨fun _ => ⟨M, ?_, ag.rf⟩, fun x e => (by cases e)⟩
    rw [f_X7_findsRing_16, show inb (423 : Int32) 3424 = true from rfl, chk_tt, show (423 : Int32).toNatClampNeg = 423 from rfl, hmm, if_pos (Int32.le_refl _), show nI z + (1 : Int32) = nI (z + 1) from nI_add z 1, bnd_e]
  | succ c ih =>
    intro t n M h hn hF
    obtain ⟨n, rfl, -⟩ := suc hn
    have ht : t < k := by omega
    have hmm := (hF 423 (by omega)).trans hS.2.1
    have a0 : ag aK M (mw M 29 0 (nI t)) := ag.rf.w _ (by unfold aK; omega)
    have hF0 : Mo (mw M 29 0 (nI t)) F := fun i hi => by rw [mwn (by omega)]; exact hF i hi
    obtain ⟨M2, e2, a2, w2⟩ := m_closes hS hz2 hz ht hF0 (by rw [mw_eq])
    have e0 : f_X7_findsRing_16 k2 (n + 1) (nI z) (nI t) M = if b01 (srch F k (z - 1) 1 (fun _ => t)) = 0 then (f_X7_findsRing_16 k2 n (nI z) (nI (t + 1)) M2) else (bnd (mw M2 24 13 (nI z)) fun M45 => some ((1 : Int32), M45)) := by
      rw [f_X7_findsRing_16, show inb (423 : Int32) 3424 = true from rfl, chk_tt, show (423 : Int32).toNatClampNeg = 423 from rfl, hmm, if_neg (by rw [nI_leI (by omega) (by omega)]; omega), show inb (0 : Int32) 7 = true from rfl, chk_tt, show (0 : Int32).toNatClampNeg = 0 from rfl, bnd_e, e2, bn_s, show nI t + (1 : Int32) = nI (t + 1) from nI_add t 1, bnd_e]
    rw [e0]
    simp only [fnd]
    cases hs : srch F k (z - 1) 1 (fun _ => t) with
    | none =>
      obtain ⟨i1, i2⟩ := ih (t + 1) n M2 (by omega) (by omega) (fun i hi => by rw [a2.2 _ _ (by unfold aK; omega)]; exact hF0 i hi)
      have : (if b01 (none : Option (Nat → Nat)) = 0 then (f_X7_findsRing_16 k2 n (nI z) (nI (t + 1)) M2) else (bnd (mw M2 24 13 (nI z)) fun M45 => some ((1 : Int32), M45))) = f_X7_findsRing_16 k2 n (nI z) (nI (t + 1)) M2 := if_pos rfl
      rw [this]
      dsimp only
      refine ⟨fun e => ?_, fun x e => ?_⟩
      · obtain ⟨M3, e3, a3⟩ := i1 e
        exact ⟨M3, e3, (a0.tr a2).tr a3⟩
      · obtain ⟨M3, e3, a3, q3⟩ := i2 x e
        exact ⟨M3, e3, ((a0.tr a2).mono (fun c i q => q.1)).tr a3, q3⟩
    | some y =>
      have : (if b01 (some y) = 0 then (f_X7_findsRing_16 k2 n (nI z) (nI (t + 1)) M2) else (bnd (mw M2 24 13 (nI z)) fun M45 => some ((1 : Int32), M45))) = some (nI 1, mw M2 24 13 (nI z)) := (if_neg (show ¬ nI 1 = 0 by decide)).trans rfl
      rw [this]
      dsimp only
      refine ⟨fun e => (by cases e), fun x e => ?_⟩
      injection e with e
      subst e
      exact ⟨_, rfl, ((a0.tr a2).mono (fun c i q => q.1)).w _ (by unfold aG; omega), by rw [mw_eq], fun i hi => by rw [mwn (by omega)]; exact w2 y hs i hi⟩
theorem m_find2 (hS : SI F k) : ∀ (c z n : Nat) (M : Mem), k < z + c → 2 ≤ z → c < n → Mo M F → z ≤ 8 →
    ∃ M1, f_X7_findsRing_2 n (nI z) M = some (b01 (fndS F k c z), M1) ∧ ag aG M M1 ∧ Mg M1 (fndS F k c z) := by
  have hk6 := hS.1
  intro c
  induction c with
  | zero =>
    intro z n M h hz2 hn hF h8
    obtain ⟨n, rfl, -⟩ := suc hn
    have hmm := (hF 423 (by omega)).trans hS.2.1
    refine ⟨mw M 24 13 (nI 0), ?_, ag.rf.w _ (by unfold aG; omega), Or.inl ⟨rfl, by rw [mw_eq]⟩⟩
    rw [f_X7_findsRing_2, show inb (423 : Int32) 3424 = true from rfl, chk_tt, show (423 : Int32).toNatClampNeg = 423 from rfl, hmm, if_pos (by rw [nI_ltI (by omega) (by omega)]; omega), bnd_e]
    rfl
  | succ c ih =>
    intro z n M h hz2 hn hF h8
    obtain ⟨n, rfl, -⟩ := suc hn
    have hmm := (hF 423 (by omega)).trans hS.2.1
    by_cases q : k < z
    · have es : fndS F k (c + 1) z = none := by
        simp only [fndS]
        rw [if_pos q]
      rw [es]
      refine ⟨mw M 24 13 (nI 0), ?_, ag.rf.w _ (by unfold aG; omega), Or.inl ⟨rfl, by rw [mw_eq]⟩⟩
      rw [f_X7_findsRing_2, show inb (423 : Int32) 3424 = true from rfl, chk_tt, show (423 : Int32).toNatClampNeg = 423 from rfl, hmm, if_pos (by rw [nI_ltI (by omega) (by omega)]; omega), bnd_e]
      rfl
    · obtain ⟨i1, i2⟩ := m_find16 hS (show z ≤ 6 by omega) hz2 (f_X7_findsRing_2 n) k 0 FU M (by omega) (by show k < 100000; omega) hF
      have e0 : f_X7_findsRing_2 (n + 1) (nI z) M = f_X7_findsRing_16 (f_X7_findsRing_2 n) FU (nI z) (nI 0) M := by
        rw [f_X7_findsRing_2, show inb (423 : Int32) 3424 = true from rfl, chk_tt, show (423 : Int32).toNatClampNeg = 423 from rfl, hmm, if_neg (by rw [nI_ltI (by omega) (by omega)]; omega)]
        rfl
      rw [e0]
      cases hs : fnd F k z k 0 with
      | none =>
        have es : fndS F k (c + 1) z = fndS F k c (z + 1) := by
          simp only [fndS, hs]
          rw [if_neg q]
        rw [es]
        obtain ⟨M2, e2, a2⟩ := i1 hs
        obtain ⟨M3, e3, a3, r3⟩ := ih (z + 1) n M2 (by omega) (by omega) (by omega) (fun i hi => by rw [a2.2 _ _ (by unfold aK; omega)]; exact hF i hi) (by omega)
        exact ⟨M3, e2.trans e3, (a2.mono (fun c i q => q.1)).tr a3, r3⟩
      | some x =>
        have es : fndS F k (c + 1) z = some (z, x) := by
          simp only [fndS, hs]
          rw [if_neg q]
        rw [es]
        obtain ⟨M2, e2, a2, q2, q3⟩ := i2 x hs
        exact ⟨M2, e2, a2, Or.inr ⟨z, x, rfl, q2, q3⟩⟩
theorem m_finds (hS : SI F k) {M : Mem} (hF : Mo M F) : ∃ M1, f_X7_findsRing M = some (b01 (rngF F k), M1) ∧ ag aG M M1 ∧ Mg M1 (rngF F k) := by
  have hk6 := hS.1
  exact m_find2 hS 6 2 FU M (by omega) (by omega) (by decide) hF (by omega)
variable {x : Nat → Nat}
theorem m_fol {M : Mem} (hz : z ≤ 6) (hR : ∀ i, i < z → M.1 29 i = nI (x i)) {i : Nat} (hi : i < z) : M.1 29 ((i + 1) % z) = nI (fol x z i) := by
  unfold fol
  by_cases q : i + 1 < z
  · rw [if_pos q, Nat.mod_eq_of_lt q]; exact hR _ q
  · rw [if_neg q, show i + 1 = z by omega, Nat.mod_self]; exact hR 0 (by omega)
theorem m_least23 (hz : z ≤ 6) {M : Mem} (hF : Mo M F) (h1 : M.1 24 13 = nI z) (hR : ∀ i, i < z → M.1 29 i = nI (x i)) (hx : ∀ i, i < z → x i < 6 ∧ fol x z i < 6) : ∀ (c i n : Nat) (a : Int32), i + c = z → c < n → f_X7_leastOfRing_23 n a (nI i) M = some (lsL F x z c i a, M) := by
  intro c
  induction c with
  | zero =>
    intro i n a h hn
    obtain ⟨n, rfl, -⟩ := suc hn
    obtain rfl : i = z := by omega
    rw [f_X7_leastOfRing_23, h1, if_pos (Int32.le_refl _)]
    rfl
  | succ c ih =>
    intro i n a h hn
    obtain ⟨n, rfl, -⟩ := suc hn
    have hi := hx i (by omega)
    have hm : (i + 1) % z < z := Nat.mod_lt _ (by omega)
    have ix : (nI 366 + nI 6 * nI (x i)) + nI (fol x z i) = nI (366 + 6 * x i + fol x z i) := by rw [pk_mul, nI_add, nI_add]
    rw [f_X7_leastOfRing_23, h1, if_neg (by rw [nI_leI (by omega) (by omega)]; omega), inb_n (by omega) (by omega), chk_tt, show (!decide (nI z = 0)) = true by rw [decide_eq_false (show ¬ nI z = 0 by rw [show (0 : Int32) = nI 0 from rfl, nI_eq (by omega) (by omega)]; omega)]; rfl, chk_tt, show nI i + (1 : Int32) = nI (i + 1) from nI_add i 1, pk_rem (show i + 1 < 2 ^ 31 by omega) (by omega) (by omega), inb_n (by omega) (by omega), chk_tt, nI_clamp (by omega), nI_clamp (by omega), hR i (by omega), m_fol hz hR (by omega), m_owes, bn_s, ix, inb_n (by omega) (by omega), chk_tt, nI_clamp (by omega), hF _ (by omega), bnd_e]
    unfold f_X7_leastOfRing_69
    rw [show nI i + (1 : Int32) = nI (i + 1) from nI_add i 1, bnd_e, bnd_e]
    simp only [lsL]
    by_cases q : F (366 + 6 * x i + fol x z i) < a
    · rw [if_pos q, if_neg (Int32.not_le.mpr q)]
      exact ih (i + 1) n _ (by omega) (by omega)
    · rw [if_neg q, if_pos (Int32.not_lt.mp q)]
      exact ih (i + 1) n _ (by omega) (by omega)
theorem m_least (hz : z ≤ 6) (hz2 : 2 ≤ z) {M : Mem} (hF : Mo M F) (h1 : M.1 24 13 = nI z) (hR : ∀ i, i < z → M.1 29 i = nI (x i)) (hx : ∀ i, i < z → x i < 6 ∧ fol x z i < 6) : f_X7_leastOfRing M = some (lsF F x z, M) := by
  have h0 := hx 0 (by omega)
  have hf : fol x z 0 = x 1 := if_pos (by omega)
  have ix : (nI 366 + nI 6 * nI (x 0)) + nI (x 1) = nI (366 + 6 * x 0 + x 1) := by rw [pk_mul, nI_add, nI_add]
  rw [hf] at h0
  unfold f_X7_leastOfRing lsF
  rw [show inb (0 : Int32) 7 = true from rfl, chk_tt, show inb (1 : Int32) 7 = true from rfl, chk_tt, show (0 : Int32).toNatClampNeg = 0 from rfl, show (1 : Int32).toNatClampNeg = 1 from rfl, hR 0 (by omega), hR 1 (by omega), m_owes, bn_s, ix, inb_n (by omega) (by omega), chk_tt, nI_clamp (by omega), hF _ (by omega), bnd_e, hf]
  exact m_least23 hz hF h1 hR hx (z - 1) 1 FU _ (by omega) (by show z - 1 < 100000; omega)
end MG
