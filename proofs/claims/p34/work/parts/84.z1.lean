/-! ===== playing: what is counted fits together ===== -/
/-- the drum and what was heard, when all places before (s, k) are gone through -/
def PJ (T D0 : Nat → Int32) (s k : Nat) (P : PS) : Prop :=
  (∀ i, i < 24 → msk (P.1 i)) ∧ (∀ i, s < i → P.1 i = D0 i) ∧ (∀ j, k ≤ j → j < 12 → bitK (P.1 s) j = bitK (D0 s) j) ∧
  (∀ i, i < 24 → msk (P.2.2.2.1 i)) ∧ (∀ i j, i < 24 → j < 12 → bitK (D0 i) j = nI 0 → bitK (P.2.2.2.1 i) j = nI 0) ∧ (∀ i, s < i → P.2.2.2.1 i = nI 0) ∧ (∀ j, k ≤ j → j < 12 → bitK (P.2.2.2.1 s) j = nI 0) ∧
  pinS P.1 + P.2.2.2.2 3 = pinS D0 ∧ rigS P.1 T + P.2.2.2.2 4 = rigS D0 T ∧ pinS P.2.2.2.1 = P.2.2.2.2 0
theorem PJ_skip {T D0 : Nat → Int32} {s k : Nat} {P : PS} (h : PJ T D0 s k P) : PJ T D0 s (k + 1) P := by
  obtain ⟨a1, a2, a3, a4, a5, a6, a7, s1, s2, s3⟩ := h
  exact ⟨a1, a2, fun j h1 h2 => a3 j (by omega) h2, a4, a5, a6, fun j h1 h2 => a7 j (by omega) h2, s1, s2, s3⟩
theorem PJ_go {T D0 : Nat → Int32} {du re : Int32} {s k : Nat} {P : PS} (hs : s < 24) (hk : k < 12) (hT : msk (T s)) (hp : ¬ bitK (D0 s) k = nI 0) (h : PJ T D0 s k P) : PJ T D0 s (k + 1) (goP T du re s k P) := by
  obtain ⟨a1, a2, a3, a4, a5, a6, a7, s1, s2, s3⟩ := h
  have hb : ¬ bitK (P.1 s) k = nI 0 := by rw [a3 k (Nat.le_refl _) hk]; exact hp
  have hh := a7 k (Nat.le_refl _) hk
  unfold goP
  by_cases q : P.2.1 k < du
  · rw [if_pos q]
    by_cases z : P.2.2.1 k = 99 ∨ re ≤ nI s - nI (P.2.2.1 k)
    · rw [if_pos z]
      refine ⟨a1, a2, fun j h1 h2 => a3 j (by omega) h2, fun i hi => ?_, fun i j hi hj h0 => ?_, fun i hi => ?_, fun j h1 h2 => ?_, ?_, ?_, ?_⟩
      · show msk (va_up P.2.2.2.1 s (P.2.2.2.1 s ||| bit k) i)
        by_cases e : i = s
        · subst e; rw [va_up_self]; exact msk_or (a4 i hi) hk
        · rw [va_up_ne _ _ e]; exact a4 i hi
      · show bitK (va_up P.2.2.2.1 s (P.2.2.2.1 s ||| bit k) i) j = _
        by_cases e : i = s
        · subst e
          rw [va_up_self, B3 (a4 i hi) hk hj]
          by_cases e' : j = k
          · subst e'; exact absurd h0 hp
          · rw [if_neg e']; exact a5 i j hi hj h0
        · rw [va_up_ne _ _ e]; exact a5 i j hi hj h0
      · show va_up P.2.2.2.1 s (P.2.2.2.1 s ||| bit k) i = _
        rw [va_up_ne _ _ (by omega)]; exact a6 i hi
      · show bitK (va_up P.2.2.2.1 s (P.2.2.2.1 s ||| bit k) s) j = _
        rw [va_up_self, B3 (a4 s hs) hk h2, if_neg (by omega)]; exact a7 j (by omega) h2
      · show pinS P.1 + va_up (va_up P.2.2.2.2 0 (P.2.2.2.2 0 + nI 1)) 1 (P.2.2.2.2 1 + bitK (T s) k) 3 = _
        rw [va_up_ne _ _ (by omega), va_up_ne _ _ (by omega)]; exact s1
      · show rigS P.1 T + va_up (va_up P.2.2.2.2 0 (P.2.2.2.2 0 + nI 1)) 1 (P.2.2.2.2 1 + bitK (T s) k) 4 = _
        rw [va_up_ne _ _ (by omega), va_up_ne _ _ (by omega)]; exact s2
      · show pinS (va_up P.2.2.2.1 s (P.2.2.2.1 s ||| bit k)) = va_up (va_up P.2.2.2.2 0 (P.2.2.2.2 0 + nI 1)) 1 (P.2.2.2.2 1 + bitK (T s) k) 0
        rw [va_up_ne _ _ (by omega), va_up_self, pinS_in hs hk (a4 s hs) hh, s3]
    · rw [if_neg z]
      refine ⟨a1, a2, fun j h1 h2 => a3 j (by omega) h2, a4, a5, a6, fun j h1 h2 => a7 j (by omega) h2, ?_, ?_, ?_⟩
      · show pinS P.1 + va_up P.2.2.2.2 2 (P.2.2.2.2 2 + nI 1) 3 = _
        rw [va_up_ne _ _ (by omega)]; exact s1
      · show rigS P.1 T + va_up P.2.2.2.2 2 (P.2.2.2.2 2 + nI 1) 4 = _
        rw [va_up_ne _ _ (by omega)]; exact s2
      · show pinS P.2.2.2.1 = va_up P.2.2.2.2 2 (P.2.2.2.2 2 + nI 1) 0
        rw [va_up_ne _ _ (by omega)]; exact s3
  · rw [if_neg q]
    refine ⟨fun i hi => ?_, fun i hi => ?_, fun j h1 h2 => ?_, a4, a5, a6, fun j h1 h2 => a7 j (by omega) h2, ?_, ?_, ?_⟩
    · show msk (va_up P.1 s (P.1 s &&& nbit k) i)
      by_cases e : i = s
      · subst e; rw [va_up_self]; exact msk_and (a1 i hi)
      · rw [va_up_ne _ _ e]; exact a1 i hi
    · show va_up P.1 s (P.1 s &&& nbit k) i = _
      rw [va_up_ne _ _ (by omega)]; exact a2 i hi
    · show bitK (va_up P.1 s (P.1 s &&& nbit k) s) j = _
      rw [va_up_self, B2 (a1 s hs) hk h2, if_neg (by omega)]; exact a3 j (by omega) h2
    · show pinS (va_up P.1 s (P.1 s &&& nbit k)) + va_up (va_up P.2.2.2.2 3 (P.2.2.2.2 3 + nI 1)) 4 (P.2.2.2.2 4 + bitK (T s) k) 3 = _
      rw [va_up_ne _ _ (by omega), va_up_self, Int32.add_comm _ (nI 1), ← Int32.add_assoc, pinS_out hs hk (a1 s hs) hb]; exact s1
    · show rigS (va_up P.1 s (P.1 s &&& nbit k)) T + va_up (va_up P.2.2.2.2 3 (P.2.2.2.2 3 + nI 1)) 4 (P.2.2.2.2 4 + bitK (T s) k) 4 = _
      rw [va_up_self, Int32.add_comm _ (bitK (T s) k), ← Int32.add_assoc, rigS_out hs hk (a1 s hs) hT hb]; exact s2
    · show pinS P.2.2.2.1 = va_up (va_up P.2.2.2.2 3 (P.2.2.2.2 3 + nI 1)) 4 (P.2.2.2.2 4 + bitK (T s) k) 0
      rw [va_up_ne _ _ (by omega), va_up_ne _ _ (by omega)]; exact s3
/-- the counts: sounds, right sounds, stays, falls, right falls; how many places were met; the wear -/
def PK (W0 : Nat → Int32) (N : Int32) (m : Nat) (P : PS) : Prop :=
  (∃ a b c f g, P.2.2.2.2 0 = nI a ∧ P.2.2.2.2 1 = nI b ∧ P.2.2.2.2 2 = nI c ∧ P.2.2.2.2 3 = nI f ∧ P.2.2.2.2 4 = nI g ∧ b ≤ a ∧ g ≤ f ∧ a + c + f ≤ m ∧ nI (a + c + f) = N) ∧ ∀ j, j < 12 → ∃ w0 w, W0 j = nI w0 ∧ P.2.1 j = nI w ∧ w0 ≤ w ∧ w ≤ 100
theorem PK_go {T W0 : Nat → Int32} {N re : Int32} {d m s k : Nat} {P : PS} (hd : d ≤ 100) (h : PK W0 N m P) : PK W0 (N + nI 1) (m + 1) (goP T (nI d) re s k P) := by
  obtain ⟨⟨a, b, c, f, g, e0, e1, e2, e3, e4, h1, h2, h3, h4⟩, hw⟩ := h
  have hN : ∀ x, x = a + c + f + 1 → nI x = N + nI 1 := fun x hx => by rw [hx, ← h4, nI_add]
  unfold goP
  by_cases q : P.2.1 k < nI d
  · rw [if_pos q]
    by_cases z : P.2.2.1 k = 99 ∨ re ≤ nI s - nI (P.2.2.1 k)
    · rw [if_pos z]
      refine ⟨?_, fun j hj => ?_⟩
      · obtain ⟨x, hx, ex⟩ : ∃ x, x ≤ 1 ∧ bitK (T s) k = nI x := by
          rcases bitK01 (T s) k with e | e
          · exact ⟨0, by omega, e⟩
          · exact ⟨1, by omega, e⟩
        refine ⟨a + 1, b + x, c, f, g, ?_, ?_, ?_, ?_, ?_, by omega, h2, by omega, hN _ (by omega)⟩
        · show va_up (va_up P.2.2.2.2 0 (P.2.2.2.2 0 + nI 1)) 1 (P.2.2.2.2 1 + bitK (T s) k) 0 = _
          rw [va_up_ne _ _ (by omega), va_up_self, e0, nI_add]
        · show va_up (va_up P.2.2.2.2 0 (P.2.2.2.2 0 + nI 1)) 1 (P.2.2.2.2 1 + bitK (T s) k) 1 = _
          rw [va_up_self, e1, ex, nI_add]
        · show va_up (va_up P.2.2.2.2 0 (P.2.2.2.2 0 + nI 1)) 1 (P.2.2.2.2 1 + bitK (T s) k) 2 = _
          rw [va_up_ne _ _ (by omega), va_up_ne _ _ (by omega), e2]
        · show va_up (va_up P.2.2.2.2 0 (P.2.2.2.2 0 + nI 1)) 1 (P.2.2.2.2 1 + bitK (T s) k) 3 = _
          rw [va_up_ne _ _ (by omega), va_up_ne _ _ (by omega), e3]
        · show va_up (va_up P.2.2.2.2 0 (P.2.2.2.2 0 + nI 1)) 1 (P.2.2.2.2 1 + bitK (T s) k) 4 = _
          rw [va_up_ne _ _ (by omega), va_up_ne _ _ (by omega), e4]
      · obtain ⟨w0, w, g1, g2, g3, g4⟩ := hw j hj
        show ∃ w0 w, W0 j = nI w0 ∧ va_up P.2.1 k (P.2.1 k + nI 1) j = nI w ∧ _
        by_cases e : j = k
        · subst e
          rw [g2, nI_ltI (by omega) (by omega)] at q
          exact ⟨w0, w + 1, g1, by rw [va_up_self, g2, nI_add], by omega, by omega⟩
        · exact ⟨w0, w, g1, by rw [va_up_ne _ _ e]; exact g2, g3, g4⟩
    · rw [if_neg z]
      refine ⟨⟨a, b, c + 1, f, g, ?_, ?_, ?_, ?_, ?_, h1, h2, by omega, hN _ (by omega)⟩, hw⟩
      · show va_up P.2.2.2.2 2 (P.2.2.2.2 2 + nI 1) 0 = _
        rw [va_up_ne _ _ (by omega), e0]
      · show va_up P.2.2.2.2 2 (P.2.2.2.2 2 + nI 1) 1 = _
        rw [va_up_ne _ _ (by omega), e1]
      · show va_up P.2.2.2.2 2 (P.2.2.2.2 2 + nI 1) 2 = _
        rw [va_up_self, e2, nI_add]
      · show va_up P.2.2.2.2 2 (P.2.2.2.2 2 + nI 1) 3 = _
        rw [va_up_ne _ _ (by omega), e3]
      · show va_up P.2.2.2.2 2 (P.2.2.2.2 2 + nI 1) 4 = _
        rw [va_up_ne _ _ (by omega), e4]
  · rw [if_neg q]
    obtain ⟨x, hx, ex⟩ : ∃ x, x ≤ 1 ∧ bitK (T s) k = nI x := by
      rcases bitK01 (T s) k with e | e
      · exact ⟨0, by omega, e⟩
      · exact ⟨1, by omega, e⟩
    refine ⟨⟨a, b, c, f + 1, g + x, ?_, ?_, ?_, ?_, ?_, h1, by omega, by omega, hN _ (by omega)⟩, hw⟩
    · show va_up (va_up P.2.2.2.2 3 (P.2.2.2.2 3 + nI 1)) 4 (P.2.2.2.2 4 + bitK (T s) k) 0 = _
      rw [va_up_ne _ _ (by omega), va_up_ne _ _ (by omega), e0]
    · show va_up (va_up P.2.2.2.2 3 (P.2.2.2.2 3 + nI 1)) 4 (P.2.2.2.2 4 + bitK (T s) k) 1 = _
      rw [va_up_ne _ _ (by omega), va_up_ne _ _ (by omega), e1]
    · show va_up (va_up P.2.2.2.2 3 (P.2.2.2.2 3 + nI 1)) 4 (P.2.2.2.2 4 + bitK (T s) k) 2 = _
      rw [va_up_ne _ _ (by omega), va_up_ne _ _ (by omega), e2]
    · show va_up (va_up P.2.2.2.2 3 (P.2.2.2.2 3 + nI 1)) 4 (P.2.2.2.2 4 + bitK (T s) k) 3 = _
      rw [va_up_ne _ _ (by omega), va_up_self, e3, nI_add]
    · show va_up (va_up P.2.2.2.2 3 (P.2.2.2.2 3 + nI 1)) 4 (P.2.2.2.2 4 + bitK (T s) k) 4 = _
      rw [va_up_self, e4, ex, nI_add]
theorem PJK_teeth {T D0 W0 : Nat → Int32} {re p : Int32} {d s : Nat} (hd : d ≤ 100) (hs : s < 24) (hT : msk (T s)) (hp : p = D0 s) : ∀ (c k : Nat) (N : Int32) (m : Nat) (P : PS), k + c = 12 → PJ T D0 s k P → PK W0 N m P →
    PJ T D0 s 12 (teethP T (nI d) re p s c k P) ∧ PK W0 (acl (bitK p) c k N) (m + c) (teethP T (nI d) re p s c k P) := by
  intro c
  induction c with
  | zero =>
    intro k N m P h hJ hK
    obtain rfl : k = 12 := by omega
    exact ⟨hJ, hK⟩
  | succ c ih =>
    intro k N m P h hJ hK
    simp only [teethP]
    show _ ∧ PK W0 (acl (bitK p) c (k + 1) (N + bitK p k)) (m + (c + 1)) _
    by_cases q : bitK p k = nI 0
    · rw [if_pos q, q, show N + nI 0 = N from Int32.add_zero N]
      obtain ⟨i1, i2⟩ := ih (k + 1) N m P (by omega) (PJ_skip hJ) hK
      obtain ⟨⟨a, b, c', f, g, e0, e1, e2, e3, e4, h1, h2, h3, h4⟩, hw⟩ := i2
      exact ⟨i1, ⟨a, b, c', f, g, e0, e1, e2, e3, e4, h1, h2, by omega, h4⟩, hw⟩
    · rw [if_neg q, bit_z q]
      obtain ⟨i1, i2⟩ := ih (k + 1) (N + nI 1) (m + 1) _ (by omega) (PJ_go (re := re) hs (by omega) hT (by rw [← hp]; exact q) hJ) (PK_go (T := T) (re := re) (s := s) (k := k) hd hK)
      refine ⟨i1, ?_⟩
      rw [show m + (c + 1) = m + 1 + c by omega]
      exact i2
theorem PJK_steps {T D0 W0 : Nat → Int32} {re : Int32} {d : Nat} (hd : d ≤ 100) (hT : ∀ s, s < 24 → msk (T s)) : ∀ (c s : Nat) (N : Int32) (P : PS), s + c = 24 → (∀ i, s ≤ i → P.1 i = D0 i) → (∀ i, s ≤ i → P.2.2.2.1 i = nI 0) → PJ T D0 s 0 P → PK W0 N (12 * s) P →
    PJ T D0 24 0 (stepsP T (nI d) re c s P) ∧ PK W0 (acl (fun i => bitsI (D0 i)) c s N) 288 (stepsP T (nI d) re c s P) := by
  intro c
  induction c with
  | zero =>
    intro s N P h _ _ hJ hK
    obtain rfl : s = 24 := by omega
    exact ⟨hJ, hK⟩
  | succ c ih =>
    intro s N P h hD hH hJ hK
    simp only [stepsP]
    show _ ∧ PK W0 (acl (fun i => bitsI (D0 i)) c (s + 1) (N + bitsI (D0 s))) 288 _
    have hs : s < 24 := by omega
    obtain ⟨i1, i2⟩ := PJK_teeth (T := T) (D0 := D0) (W0 := W0) (re := re) (p := P.1 s) hd hs (hT s hs) (hD s (Nat.le_refl _)) 12 0 N (12 * s) P rfl hJ hK
    have e : acl (bitK (P.1 s)) 12 0 N = N + bitsI (D0 s) := by
      rw [hD s (Nat.le_refl _)]
      have := acl_in (f := bitK (D0 s)) 12 0 (nI 0) N
      rw [show nI 0 + N = N from Int32.zero_add N] at this
      rw [this, Int32.add_comm]
      rfl
    rw [e] at i2
    have d1 : ∀ i, s + 1 ≤ i → (teethP T (nI d) re (P.1 s) s 12 0 P).1 i = D0 i := fun i hi => i1.2.1 i (by omega)
    have d2 : ∀ i, s + 1 ≤ i → (teethP T (nI d) re (P.1 s) s 12 0 P).2.2.2.1 i = nI 0 := fun i hi => i1.2.2.2.2.2.1 i (by omega)
    refine ih (s + 1) _ _ (by omega) d1 d2 ?_ (by rw [show 12 * (s + 1) = 12 * s + 12 by omega]; exact i2)
    obtain ⟨a1, a2, a3, a4, a5, a6, a7, s1, s2, s3⟩ := i1
    exact ⟨a1, fun i hi => a2 i (by omega), fun j _ _ => by rw [d1 _ (Nat.le_refl _)], a4, a5, fun i hi => a6 i (by omega), fun j _ hj => by rw [d2 _ (Nat.le_refl _)]; exact bit00 j hj, s1, s2, s3⟩
theorem pin0 : pinS (fun _ => nI 0) = nI 0 := by decide +kernel
/-- playing a drum D, over a comb W: all at once -/
theorem play_all {T D W : Nat → Int32} {re : Int32} {d : Nat} (hd : d ≤ 100) (hT : ∀ s, s < 24 → msk (T s)) (hD : ∀ s, s < 24 → msk (D s)) (hW : ∀ j, j < 12 → ∃ w, W j = nI w ∧ w ≤ 100) :
    PJ T D 24 0 (playP T (nI d) re D W) ∧ PK W (pinS D) 288 (playP T (nI d) re D W) := by
  refine PJK_steps hd hT 24 0 (nI 0) (startP D W) rfl (fun _ _ => rfl) (fun _ _ => rfl) ⟨hD, fun _ _ => rfl, fun _ _ _ => rfl, fun _ _ => msk0, fun i j _ hj _ => bit00 j hj, fun _ _ => rfl, fun j _ hj => bit00 j hj, Int32.add_zero _, Int32.add_zero _, pin0⟩ ⟨⟨0, 0, 0, 0, 0, rfl, rfl, rfl, rfl, rfl, by omega, by omega, by omega, rfl⟩, fun j hj => ?_⟩
  obtain ⟨w, e, hw⟩ := hW j hj
  exact ⟨w, w, e, e, Nat.le_refl _, hw⟩
