/-! ===== the best trades: the reference ===== -/
theorem bI_le2 {a v : Nat} (ha : a < 2 ^ 30) (hv : v < 2 ^ 30) : (nI a - nI 1 ≤ nI v - nI 1) ↔ a ≤ v := by
  by_cases z : a = 0
  · subst z
    by_cases w : v = 0
    · subst w
      exact ⟨fun _ => Nat.le_refl _, fun _ => Int32.le_refl _⟩
    · refine ⟨fun _ => Nat.zero_le _, fun _ => ?_⟩
      rw [pk_sub (show 1 ≤ v by omega)]
      exact Int32.le_of_lt (Int32.lt_of_lt_of_le (show nI 0 - nI 1 < nI 0 by decide) (by rw [nI_leI (by omega) (by omega)]; omega))
  · rw [pk_sub (show 1 ≤ a by omega)]
    rw [bI_le (by omega) hv]
    omega
def aV : Nat → Nat → Prop := fun c _ => c < 31 ∨ 34 ≤ c
section BM
variable {F : Nat → Int32} {k : Nat}
def rgO (M : Mem) (F : Nat → Int32) (k : Nat) : Prop := M.1 25 423 = nI k ∧ ∀ t d, t < k → d < k → M.1 31 (6 * t + d) = nI (gF F t d)
theorem m_brt19 (hk : k ≤ 6) {v : Nat} (hv : v < 2 ^ 30) : ∀ (c U s n : Nat) (M : Mem), c ≤ k → c < n → U < 64 → s + 288 * c ≤ 3000 → rgO M F k →
    ∃ M', f_X7_broughtBy_19 n (nI (v / k ^ (k - c))) (nI U) (nI s) (nI c - nI 1) M = some (nI (brL (gF F) (dig k v) c U s) - nI 1, M') ∧ ag (fun c _ => c ≠ 32) M M' ∧ (∀ i, c ≤ i → M'.1 32 i = M.1 32 i) ∧ (0 < brL (gF F) (dig k v) c U s → ∀ i, i < c → M'.1 32 i = nI (dig k v i)) := by
  intro c
  induction c with
  | zero =>
    intro U s n M hc hn hU hs hR
    obtain ⟨n, rfl, -⟩ := suc hn
    refine ⟨M, ?_, ag.rf, fun _ _ => rfl, fun _ i hi => by omega⟩
    rw [f_X7_broughtBy_19, if_pos (show nI 0 - nI 1 < 0 by decide)]
    simp only [brL]
    rw [bI_s]
  | succ c ih =>
    intro U s n M hc hn hU hs hR
    obtain ⟨n, rfl, -⟩ := suc hn
    have hd := dig_lt (v := v) (show c < k by omega)
    have hle : v / k ^ (k - (c + 1)) ≤ v := Nat.div_le_self _ _
    have k0 : ¬ nI k = 0 := by rw [show (0 : Int32) = nI 0 from rfl, nI_eq (by omega) (by omega)]; omega
    have hR1 : rgO (mw M 32 c (nI (dig k v c))) F k := ⟨by rw [mwn (by omega)]; exact hR.1, fun t d ht hd => by rw [mwn (by omega)]; exact hR.2 t d ht hd⟩
    have e0 : f_X7_broughtBy_19 (n + 1) (nI (v / k ^ (k - (c + 1)))) (nI U) (nI s) (nI (c + 1) - nI 1) M = if bitK (nI U) (dig k v c) = 0 then f_X7_broughtBy_19 n (nI (v / k ^ (k - c))) (nI (U ||| 2 ^ dig k v c)) (nI (s + gF F c (dig k v c))) (nI c - nI 1) (mw M 32 c (nI (dig k v c))) else some ((-1 : Int32), mw M 32 c (nI (dig k v c))) := by
      have em : nI 6 * nI c + nI (dig k v c) = nI (6 * c + dig k v c) := by rw [pk_mul, nI_add]
      rw [bI_s, f_X7_broughtBy_19, if_neg (nI_pos (by omega)), show inb (423 : Int32) 3424 = true from rfl, chk_tt, show (423 : Int32).toNatClampNeg = 423 from rfl, hR.1, show (!decide (nI k = 0)) = true by rw [decide_eq_false k0]; rfl, chk_tt, inb_n (by omega) (by omega), chk_tt, nI_clamp (by omega), pk_rem (show v / k ^ (k - (c + 1)) < 2 ^ 31 by omega) (by omega) (by omega), show v / k ^ (k - (c + 1)) % k = dig k v c from rfl, bnd_e, chk_tt, hR1.1, show (!decide (nI k = 0)) = true by rw [decide_eq_false k0]; rfl, chk_tt, pk_div (show v / k ^ (k - (c + 1)) < 2 ^ 31 by omega) (by omega) (by omega), ← pre_s (show c < k by omega), bnd_e, chk_tt, mw_eq, m_has, bn_s, mw_eq, show ((1 : Int32) <<< (nI (dig k v c) &&& 31)) = bit (dig k v c) from rfl, bit_n _ (by omega), nI_or, bnd_e, chk_tt, show (6 : Int32) * nI c + nI (dig k v c) = nI (6 * c + dig k v c) from em, inb_n (by omega) (by omega), chk_tt, nI_clamp (by omega), hR1.2 c _ (by omega) hd, nI_add, bnd_e, show nI c + (-1 : Int32) = nI c - nI 1 from (Int32.sub_eq_add_neg (nI c) (nI 1)).symm, bnd_e, chk_tt]
    have hb := bitK_t (n := U) (k := dig k v c) (by omega) (by omega)
    have a0 : ag (fun c _ => c ≠ 32) M (mw M 32 c (nI (dig k v c))) := ag.rf.w _ (by omega)
    rw [e0]
    simp only [brL]
    by_cases q : U.testBit (dig k v c) = true
    · rw [if_pos q] at hb ⊢
      rw [hb]
      exact ⟨_, if_neg (show ¬ nI 1 = 0 by decide), a0, fun i hi => mwn (by omega), fun h => by omega⟩
    · rw [if_neg q] at hb ⊢
      have p : 2 ^ dig k v c < 2 ^ 6 := Nat.pow_lt_pow_right (by decide) (by omega)
      have hg := (gF_is F c (dig k v c)).2
      obtain ⟨M2, e2, a2, r2, w2⟩ := ih (U ||| 2 ^ dig k v c) (s + gF F c (dig k v c)) n (mw M 32 c (nI (dig k v c))) (by omega) (by omega) (Nat.or_lt_two_pow (n := 6) hU p) (by omega) hR1
      rw [hb]
      refine ⟨M2, (if_pos rfl).trans e2, a0.tr a2, fun i hi => ?_, fun h i hi => ?_⟩
      · rw [r2 i (by omega), mwn (by omega)]
      · by_cases y : i = c
        · subst y; rw [r2 i (Nat.le_refl _), mw_eq]
        · exact w2 h i (by omega)
theorem brV_bd (v : Nat) (hk : k ≤ 6) : brV (gF F) k v ≤ 1729 := by
  have := brV_le (g := gF F) (k := k) (v := v)
  have := opt_bd (k := k) (fun t d => (gF_is F t d).2) k 0 0
  omega
theorem m_brt (hk : k ≤ 6) {v : Nat} (hv : v < 2 ^ 30) (hvk : v < k ^ k) {M : Mem} (hR : rgO M F k) : ∃ M', f_X7_broughtBy (nI v) M = some (nI (brV (gF F) k v) - nI 1, M') ∧ ag (fun c _ => c ≠ 32) M M' ∧ (0 < brV (gF F) k v → ∀ i, i < k → M'.1 32 i = nI (dig k v i)) := by
  obtain ⟨M2, e2, a2, _, w2⟩ := m_brt19 hk hv k 0 0 FU M (Nat.le_refl _) (by show k < 100000; omega) (by omega) (by omega) hR
  rw [Nat.sub_self, Nat.pow_zero, Nat.div_one] at e2
  refine ⟨M2, ?_, a2, w2⟩
  unfold f_X7_broughtBy
  rw [show inb (423 : Int32) 3424 = true from rfl, chk_tt, show (423 : Int32).toNatClampNeg = 423 from rfl, hR.1, bnd_e]
  exact e2
theorem m_cp122 (k105 : Int32 → Int32 → Int32 → Int32 → Mem → Option (Int32 × Mem)) {w W v : Int32} {mv b : Nat} (hm : mv < 2 ^ 30) (hb : b < 2 ^ 30) (hlt : mv < b) : ∀ (c j n : Nat) (M : Mem), j + c = 6 → c < n → (∀ i, i < j → M.1 33 i = M.1 32 i) →
    ∃ M', f_X7_bestTradesOf_122 k105 n w W (nI mv - nI 1) v (nI b - nI 1) (nI j) M = k105 w W (nI b - nI 1) (v + 1) M' ∧ ag (fun c _ => c ≠ 33) M M' ∧ ∀ i, i < 6 → M'.1 33 i = M.1 32 i := by
  have hnot : ¬ (nI b - nI 1 ≤ nI mv - nI 1) := fun e => by have := (bI_le2 hb hm).mp e; omega
  intro c
  induction c with
  | zero =>
    intro j n M h hn hM
    obtain ⟨n, rfl, -⟩ := suc hn
    obtain rfl : j = 6 := by omega
    refine ⟨M, ?_, ag.rf, hM⟩
    rw [f_X7_bestTradesOf_122, if_pos (show (6 : Int32) ≤ nI 6 from Int32.le_refl _)]
    unfold f_X7_bestTradesOf_155 f_X7_bestTradesOf_167
    rw [if_neg hnot, bnd_e]
  | succ c ih =>
    intro j n M h hn hM
    obtain ⟨n, rfl, -⟩ := suc hn
    obtain ⟨M2, e2, a2, r2⟩ := ih (j + 1) n (mw M 33 j (M.1 32 j)) (by omega) (by omega) (fun i hi => by
      by_cases e : i = j
      · subst e; rw [mw_eq, mwn (by omega)]
      · rw [mwn (by omega), mwn (by omega)]; exact hM i (by omega))
    refine ⟨M2, ?_, (ag.rf.w _ (by omega)).tr a2, fun i hi => by rw [r2 i hi, mwn (by omega)]⟩
    rw [f_X7_bestTradesOf_122, if_neg (show ¬ (6 : Int32) ≤ nI j by rw [show (6 : Int32) = nI 6 from rfl, nI_leI (by omega) (by omega)]; omega), if_neg hnot, inb_n (by omega) (by omega), chk_tt, chk_tt, nI_clamp (by omega), bnd_e, show nI j + (1 : Int32) = nI (j + 1) from nI_add j 1, bnd_e]
    exact e2
def tdV (F : Nat → Int32) (k w : Nat) : Int32 := if w = 0 then nI (opt (gF F) k k 0 0) else if w - 10 < k then nI (ch (gF F) k (w - 10)) else -nI 1
theorem m_tr105 (hk : k ≤ 6) {w : Nat} (hw : w = 0 ∨ (10 ≤ w ∧ w < 16)) (hW : k ^ k < 60000) : ∀ (c v mv n : Nat) (D : Nat → Nat) (M : Mem), v + c = k ^ k → c < n → mv ≤ 3000 → scn (gF F) k v mv D → rgO M F k → (0 < mv → ∀ t, t < k → M.1 33 t = nI (D t)) →
    ∃ M', f_X7_bestTradesOf_105 n (nI w) (nI (k ^ k)) (nI mv - nI 1) (nI v) M = some (tdV F k w, M') ∧ ag aV M M' := by
  intro c
  induction c with
  | zero =>
    intro v mv n D M h hn hmv hs hR hD
    obtain ⟨n, rfl, -⟩ := suc hn
    obtain rfl : v = k ^ k := by omega
    obtain ⟨e1, e2⟩ := scn_end hs
    refine ⟨M, ?_, ag.rf⟩
    rw [f_X7_bestTradesOf_105, if_pos (Int32.le_refl _), e1, bI_s]
    unfold tdV
    rcases hw with rfl | hw
    · rfl
    · obtain ⟨i, rfl⟩ : ∃ i, w = 10 + i := ⟨w - 10, by omega⟩
      rw [if_neg (show ¬ 10 + i = 0 by omega), show 10 + i - 10 = i by omega, if_neg (show ¬ nI (10 + i) = 0 by rw [show (0 : Int32) = nI 0 from rfl, nI_eq (by omega) (by omega)]; omega), show inb (423 : Int32) 3424 = true from rfl, chk_tt, show (423 : Int32).toNatClampNeg = 423 from rfl, hR.1, show nI (10 + i) - (10 : Int32) = nI i from (show nI (10 + i) - nI 10 = nI i by rw [pk_sub (by omega)]; congr 1; omega)]
      by_cases q : i < k
      · rw [if_pos q, if_neg (by rw [nI_leI (by omega) (by omega)]; omega), inb_n (by omega) (by omega), chk_tt, nI_clamp (by omega), hD (by omega) i q, e2 i q]
        rfl
      · rw [if_neg q, if_pos (by rw [nI_leI (by omega) (by omega)]; omega)]
        rfl
  | succ c ih =>
    intro v mv n D M h hn hmv hs hR hD
    obtain ⟨n, rfl, -⟩ := suc hn
    obtain ⟨M1, e1, a1, w1⟩ := m_brt hk (show v < 2 ^ 30 by omega) (by omega) hR
    have hb := brV_bd (F := F) v hk
    have hR1 : rgO M1 F k := ⟨by rw [a1.2 _ _ (by omega)]; exact hR.1, fun t d ht hd => by rw [a1.2 _ _ (by omega)]; exact hR.2 t d ht hd⟩
    have e0 : f_X7_bestTradesOf_105 (n + 1) (nI w) (nI (k ^ k)) (nI mv - nI 1) (nI v) M = f_X7_bestTradesOf_122 (f_X7_bestTradesOf_105 n) FU (nI w) (nI (k ^ k)) (nI mv - nI 1) (nI v) (nI (brV (gF F) k v) - nI 1) (nI 0) M1 := by
      rw [f_X7_bestTradesOf_105, if_neg (by rw [nI_leI (by omega) (by omega)]; omega), e1, bn_s]
      rfl
    rw [e0]
    by_cases q : brV (gF F) k v ≤ mv
    · have hc := (bI_le2 (show brV (gF F) k v < 2 ^ 30 by omega) (show mv < 2 ^ 30 by omega)).mpr q
      obtain ⟨M2, e2, a2⟩ := ih (v + 1) mv n D M1 (by omega) (by omega) hmv (scn_s hs q) hR1 (fun h t ht => by rw [a1.2 _ _ (by omega)]; exact hD h t ht)
      refine ⟨M2, ?_, (a1.mono (fun c _ q => by unfold aV at q; omega)).tr a2⟩
      have e3 : f_X7_bestTradesOf_122 (f_X7_bestTradesOf_105 n) FU (nI w) (nI (k ^ k)) (nI mv - nI 1) (nI v) (nI (brV (gF F) k v) - nI 1) (nI 0) M1 = f_X7_bestTradesOf_155 (f_X7_bestTradesOf_105 n) (nI w) (nI (k ^ k)) (nI mv - nI 1) (nI v) (nI (brV (gF F) k v) - nI 1) M1 := by
        obtain ⟨z, hz⟩ : ∃ z, FU = z + 1 := ⟨99999, rfl⟩
        rw [hz, f_X7_bestTradesOf_122, if_neg (show ¬ (6 : Int32) ≤ nI 0 by decide), if_pos hc]
      rw [e3]
      unfold f_X7_bestTradesOf_155 f_X7_bestTradesOf_167
      rw [if_pos hc, show nI v + (1 : Int32) = nI (v + 1) from nI_add v 1, bnd_e]
      exact e2
    · obtain ⟨M2, e2, a2, r2⟩ := m_cp122 (f_X7_bestTradesOf_105 n) (w := nI w) (W := nI (k ^ k)) (v := nI v) (show mv < 2 ^ 30 by omega) (show brV (gF F) k v < 2 ^ 30 by omega) (by omega) 6 0 FU M1 rfl (by decide) (fun i hi => by omega)
      obtain ⟨M3, e3, a3⟩ := ih (v + 1) (brV (gF F) k v) n (dig k v) M2 (by omega) (by omega) (by omega) (scn_n hs (by omega) (fun _ _ => rfl)) ⟨by rw [a2.2 _ _ (by omega)]; exact hR1.1, fun t d ht hd => by rw [a2.2 _ _ (by omega)]; exact hR1.2 t d ht hd⟩ (fun h t ht => by rw [r2 t (by omega)]; exact w1 h t ht)
      refine ⟨M3, ?_, ((a1.mono (fun c _ q => by unfold aV at q; omega)).tr (a2.mono (fun c _ q => by unfold aV at q; omega))).tr a3⟩
      rw [e2, show nI v + (1 : Int32) = nI (v + 1) from nI_add v 1]
      exact e3
theorem kk {k : Nat} (hk : k ≤ 6) : k ^ k < 60000 ∧ ∀ t, t ≤ k → k ^ t < 60000 := by
  have h : ∀ k, k < 7 → ∀ t, t < 7 → k ^ t < 60000 := by decide
  exact ⟨h k (by omega) k (by omega), fun t ht => h k (by omega) t (by omega)⟩
theorem m_tr71 (hk : k ≤ 6) {w : Nat} (hw : w = 0 ∨ (10 ≤ w ∧ w < 16)) {M : Mem} (hR : rgO M F k) : ∀ (c t n : Nat), t + c = k → c < n → ∃ M', f_X7_bestTradesOf_71 n (nI w) (nI (k ^ t)) (nI t) M = some (tdV F k w, M') ∧ ag aV M M' := by
  obtain ⟨k1, k2⟩ := kk hk
  intro c
  induction c with
  | zero =>
    intro t n h hn
    obtain ⟨n, rfl, -⟩ := suc hn
    obtain rfl : t = k := by omega
    obtain ⟨M2, e2, a2⟩ := m_tr105 (F := F) hk hw k1 (t ^ t) 0 0 FU (fun _ => 0) M (Nat.zero_add _) (by show t ^ t < 100000; omega) (by omega) (Or.inl ⟨rfl, fun w hw => by omega⟩) hR (fun h => by omega)
    refine ⟨M2, ?_, a2⟩
    rw [f_X7_bestTradesOf_71, show inb (423 : Int32) 3424 = true from rfl, chk_tt, show (423 : Int32).toNatClampNeg = 423 from rfl, hR.1, if_pos (Int32.le_refl _)]
    exact e2
  | succ c ih =>
    intro t n h hn
    obtain ⟨n, rfl, -⟩ := suc hn
    obtain ⟨M2, e2, a2⟩ := ih (t + 1) n (by omega) (by omega)
    refine ⟨M2, ?_, a2⟩
    rw [f_X7_bestTradesOf_71, show inb (423 : Int32) 3424 = true from rfl, chk_tt, show (423 : Int32).toNatClampNeg = 423 from rfl, hR.1, if_neg (by rw [nI_leI (by omega) (by omega)]; omega), chk_tt, pk_mul, ← Nat.pow_succ, bnd_e, show nI t + (1 : Int32) = nI (t + 1) from nI_add t 1, bnd_e]
    exact e2
theorem m_tr4 (hS : SI F k) {w : Nat} (hw : w = 0 ∨ (10 ≤ w ∧ w < 16)) : ∀ (c e n : Nat) (M : Mem), e + c = 36 → c < n → Mo M F → (∀ i, i < e → i / 6 < k → i % 6 < k → M.1 31 i = nI (gF F (i / 6) (i % 6))) →
    ∃ M', f_X7_bestTradesOf_4 n (nI w) (nI 1) (nI e) M = some (tdV F k w, M') ∧ ag aV M M' := by
  have hk := hS.1
  intro c
  induction c with
  | zero =>
    intro e n M h hn hF h1
    obtain ⟨n, rfl, -⟩ := suc hn
    obtain rfl : e = 36 := by omega
    obtain ⟨M2, e2, a2⟩ := m_tr71 (F := F) hk hw (M := M) ⟨(hF 423 (by omega)).trans hS.2.1, fun t d ht hd => by
      have := h1 (6 * t + d) (by omega) (by omega) (by omega)
      rw [show (6 * t + d) / 6 = t by omega, show (6 * t + d) % 6 = d by omega] at this
      exact this⟩ k 0 FU (Nat.zero_add k) (by show k < 100000; omega)
    refine ⟨M2, ?_, a2⟩
    rw [f_X7_bestTradesOf_4, if_pos (show (36 : Int32) ≤ nI 36 from Int32.le_refl _)]
    exact e2
  | succ c ih =>
    intro e n M h hn hF h1
    obtain ⟨n, rfl, -⟩ := suc hn
    have hmm := (hF 423 (by omega)).trans hS.2.1
    have next : ∀ v : Int32, (e / 6 < k → e % 6 < k → v = nI (gF F (e / 6) (e % 6))) → ∃ M', f_X7_bestTradesOf_62 (f_X7_bestTradesOf_4 n) (nI w) (nI 1) (nI e) (nI e) v M = some (tdV F k w, M') ∧ ag aV M M' := by
      intro v hv
      obtain ⟨M2, e2, a2⟩ := ih (e + 1) n (mw M 31 e v) (by omega) (by omega) (fun i hi => by rw [mwn (by omega)]; exact hF i hi) (fun i hi a b => by
        by_cases y : i = e
        · subst y; rw [mw_eq]; exact hv a b
        · rw [mwn (by omega)]; exact h1 i (by omega) a b)
      refine ⟨M2, ?_, (ag.rf.w _ (by unfold aV; omega)).tr a2⟩
      unfold f_X7_bestTradesOf_62
      rw [inb_n (by omega) (by omega), chk_tt, nI_clamp (by omega), bnd_e, show nI e + (1 : Int32) = nI (e + 1) from nI_add e 1, bnd_e]
      exact e2
    rw [f_X7_bestTradesOf_4, if_neg (show ¬ (36 : Int32) ≤ nI e by rw [show (36 : Int32) = nI 36 from rfl, nI_leI (by omega) (by omega)]; omega), show inb (423 : Int32) 3424 = true from rfl, chk_tt, show (423 : Int32).toNatClampNeg = 423 from rfl, hmm, show (6 : Int32) = nI 6 from rfl, pk_rem (show e < 2 ^ 31 by omega) (by omega) (by omega), pk_div (show e < 2 ^ 31 by omega) (by omega) (by omega), chk_tt]
    unfold f_X7_bestTradesOf_61
    by_cases q : e / 6 < k
    · rw [if_neg (by rw [nI_leI (by omega) (by omega)]; omega)]
      by_cases q' : e % 6 < k
      · rw [if_neg (by rw [nI_leI (by omega) (by omega)]; omega), show f_X7_rightOf (nI (e % 6)) (nI (e / 6)) 0 M = some (rightF F (e % 6) (e / 6) 0, M) from m_right (b := 0) hF (by omega) (by omega) (by omega), bn_s]
        exact next _ (fun _ _ => (gF_is F _ _).1)
      · rw [if_pos (by rw [nI_leI (by omega) (by omega)]; omega)]
        exact next _ (fun _ b => absurd b q')
    · rw [if_pos (by rw [nI_leI (by omega) (by omega)]; omega)]
      exact next _ (fun a _ => absurd a q)
theorem m_trades (hS : SI F k) {w : Nat} (hw : w = 0 ∨ (10 ≤ w ∧ w < 16)) {M : Mem} (hF : Mo M F) : ∃ M', f_X7_bestTradesOf (nI w) M = some (tdV F k w, M') ∧ ag aV M M' :=
  m_tr4 hS hw 36 0 FU M rfl (by decide) hF (fun i hi => by omega)
end BM
