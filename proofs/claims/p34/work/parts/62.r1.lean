/-! ===== rings: the class ===== -/
def aR : Nat → Nat → Prop := fun c _ => c ≠ 11
def mkB (m : Nat) (r : Nat → Nat) (d : Nat) : Prop := m < 64 ∧ ∀ t, t < 6 → m.testBit t = !newB r d t
theorem mk_and {m t : Nat} {r : Nat → Nat} {d : Nat} (h : mkB m r d) (ht : t < 6) : (nI m &&& bit t = nI 0) = (newB r d t = true) := by
  rw [bit_n t (by omega), nI_and]
  have h2 : m &&& 2 ^ t < 2 ^ 31 := Nat.lt_of_le_of_lt Nat.and_le_left (by have := h.1; omega)
  rw [nI_eq h2 (by omega), and_pow, h.2 t ht]
  cases newB r d t <;> simp
theorem mk_or {m t : Nat} {r : Nat → Nat} {d : Nat} (h : mkB m r d) (ht : t < 6) : mkB (m ||| 2 ^ t) (va_up r d t) (d + 1) := by
  have p : 2 ^ t < 2 ^ 6 := Nat.pow_lt_pow_right (by decide) ht
  refine ⟨Nat.or_lt_two_pow (n := 6) h.1 p, fun u hu => ?_⟩
  rw [Nat.testBit_or, h.2 u hu, Nat.testBit_two_pow]
  have e1 : newB (va_up r d t) d u = newB r d u := by
    have : newB (va_up r d t) d u = true ↔ newB r d u = true := by
      rw [newB_t, newB_t]
      constructor <;> intro q i hi <;> have := q i hi <;> rw [va_up_ne _ _ (by omega)] at * <;> exact this
    cases q : newB r d u with
    | true => exact this.mpr q
    | false =>
      cases q' : newB (va_up r d t) d u with
      | true => rw [this.mp q'] at q; cases q
      | false => rfl
  simp only [newB]
  rw [e1, va_up_self]
  cases newB r d u <;> by_cases w : t = u <;> simp [w]
theorem gp_f {F : Nat → Int32} {u v : Nat} (h : F (366 + 6 * u + v) ≤ nI 0) : gp F u v = false := by
  unfold gp
  rw [decide_eq_true h]
  rfl
theorem gp_t {F : Nat → Int32} {u v : Nat} (h : ¬ F (366 + 6 * u + v) ≤ nI 0) : gp F u v = true := by
  unfold gp
  rw [decide_eq_false h]
  rfl
theorem gp_p {F : Nat → Int32} {u v : Nat} (h : gp F u v = true) : ¬ F (366 + 6 * u + v) ≤ nI 0 := fun e => by
  rw [gp_f e] at h
  cases h
section RX
variable {F : Nat → Int32} {k z : Nat}
def clO (F : Nat → Int32) (z d : Nat) (o : Option (Nat → Nat)) (f : Option (Int32 × Mem)) (M : Mem) : Prop := ∃ M', f = some (b01 o, M') ∧ ag aR M M' ∧ (∀ i, i < d → M'.1 11 i = M.1 11 i) ∧ ∀ x, o = some x → ∀ i, i < z → M'.1 11 i = nI (x i)
theorem x_cl57 (hS : SI F k) {d m : Nat} {r : Nat → Nat} {S : (Nat → Nat) → Option (Nat → Nat)} {kr : Nat → Nat → Int32 → Int32 → Int32 → Mem → Option (Int32 × Mem)} (hd : 1 ≤ d) (hdz : d < z) (hz : z ≤ 6) (hr : ∀ i, i < d → r i < k) (hm : mkB m r d)
    (hk : ∀ t M, t < k → r 0 < t → LR M 34 F → (∀ i, i < d + 1 → M.1 11 i = nI (va_up r d t i)) → mkB (m ||| 2 ^ t) (va_up r d t) (d + 1) → clO F z (d + 1) (S (va_up r d t)) (kr 34 11 (nI z) (nI (d + 1)) (nI (m ||| 2 ^ t)) M) M) :
    ∀ (c t n : Nat) (M : Mem), t + c = k → c < n → r 0 < t → LR M 34 F → (∀ i, i < d → M.1 11 i = nI (r i)) →
      clO F z d (lpK F S r d c t) (f_X2_isClosed_57 kr n 34 11 (nI z) (nI d) (nI m) (nI (r (d - 1))) (nI t) M) M := by
  have hk6 := hS.1
  have hr1 := hr (d - 1) (by omega)
  intro c
  induction c with
  | zero =>
    intro t n M h hn h0 hL hR
    obtain ⟨n, rfl, -⟩ := suc hn
    obtain rfl : t = k := by omega
    refine ⟨M, ?_, ag.rf, fun _ _ => rfl, fun x e => (by cases e)⟩
    rw [f_X2_isClosed_57, kbL isL34, chk_tt, x_many hL hS, if_pos (Int32.le_refl _)]
    rfl
  | succ c ih =>
    intro t n M h hn h0 hL hR
    obtain ⟨n, rfl, -⟩ := suc hn
    have ht : t < k := by omega
    have next : ∀ M1, ag aR M M1 → (∀ i, i < d → M1.1 11 i = M.1 11 i) → clO F z d (lpK F S r d c (t + 1)) (f_X2_isClosed_115 kr (f_X2_isClosed_57 kr n) 34 11 (nI z) (nI d) (nI m) (nI (r (d - 1))) (nI t) M1) M := by
      intro M1 a1 q1
      obtain ⟨M2, e2, a2, q2, w2⟩ := ih (t + 1) n M1 (by omega) (by omega) (by omega) (hL.ag a1 (fun c i _ _ => by unfold aR; omega)) (fun i hi => by rw [q1 i hi]; exact hR i hi)
      refine ⟨M2, ?_, a1.tr a2, fun i hi => by rw [q2 i hi, q1 i hi], w2⟩
      unfold f_X2_isClosed_115
      rw [show ((1 : Int32)) = nI 1 from rfl, nI_add, bnd_e]
      exact e2
    have e0 : f_X2_isClosed_57 kr (n + 1) 34 11 (nI z) (nI d) (nI m) (nI (r (d - 1))) (nI t) M = if newB r d t = true then (if F (366 + 6 * r (d - 1) + t) ≤ nI 0 then f_X2_isClosed_115 kr (f_X2_isClosed_57 kr n) 34 11 (nI z) (nI d) (nI m) (nI (r (d - 1))) (nI t) M else bn (kr 34 11 (nI z) (nI (d + 1)) (nI (m ||| 2 ^ t)) (mw M 11 d (nI t))) fun r107 M107 => if r107 = 0 then (f_X2_isClosed_115 kr (f_X2_isClosed_57 kr n) 34 11 (nI z) (nI d) (nI m) (nI (r (d - 1))) (nI t) M107) else (some ((1 : Int32), M107))) else f_X2_isClosed_115 kr (f_X2_isClosed_57 kr n) 34 11 (nI z) (nI d) (nI m) (nI (r (d - 1))) (nI t) M := by
      rw [f_X2_isClosed_57, kbL isL34, chk_tt, x_many hL hS, if_neg (by rw [nI_leI (by omega) (by omega)]; omega), show ((1 : Int32) <<< (nI t &&& 31)) = bit t from rfl, inb_n (by omega) (by omega), chk_tt, show rw' (34 + 3) (nI (r (d - 1))) = rc 34 (r (d - 1)) from rw_37 (by omega), bnd_e, inb_n (by omega) (by omega), chk_tt, nI_clamp (by omega), hL.debt (by omega) (by omega), show kb 11 8 = true from rfl, chk_tt, show al 11 = 6 from rfl, inb_n (by omega) (by omega), chk_tt, nI_clamp (by omega), bnd_e, show nI d + (1 : Int32) = nI (d + 1) from nI_add d 1, show nI m ||| bit t = nI (m ||| 2 ^ t) by rw [bit_n t (by omega), nI_or]]
      have := mk_and hm (show t < 6 by omega)
      by_cases q : newB r d t = true
      · rw [if_pos q]
        exact if_pos (this.mpr q)
      · rw [if_neg q]
        exact if_neg (fun e => q (this.mp e))
    rw [e0]
    cases ho : okT F r d t with
    | false =>
      rw [lpK_0 ho]
      unfold okT at ho
      rw [show decide (r 0 < t) = true from decide_eq_true h0, Bool.true_and] at ho
      by_cases q : newB r d t = true
      · rw [if_pos q]
        rw [q, Bool.and_true] at ho
        unfold gp at ho
        simp only [Bool.not_eq_false', decide_eq_true_eq] at ho
        rw [if_pos ho]
        exact next M ag.rf (fun _ _ => rfl)
      · rw [if_neg q]
        exact next M ag.rf (fun _ _ => rfl)
    | true =>
      have ho' := ho
      unfold okT at ho'
      simp only [Bool.and_eq_true, decide_eq_true_eq] at ho'
      obtain ⟨_, g1, g2⟩ := ho'
      unfold gp at g1
      simp only [Bool.not_eq_true', decide_eq_false_iff_not] at g1
      rw [if_pos g2, if_neg g1]
      have a1 : ag aR M (mw M 11 d (nI t)) := ag.rf.w _ (by unfold aR; omega)
      obtain ⟨M2, e2, a2, q2, w2⟩ := hk t (mw M 11 d (nI t)) ht h0 (hL.ag a1 (fun c i _ _ => by unfold aR; omega)) (fun i hi => by
        by_cases e : i = d
        · subst e; rw [mw_eq, va_up_self]
        · rw [mwn (by omega), va_up_ne _ _ e]; exact hR i (by omega)) (mk_or hm (by omega))
      rw [e2, bn_s]
      cases hs : S (va_up r d t) with
      | none =>
        rw [lpK_n ho hs]
        have : (if (b01 (none : Option (Nat → Nat))) = 0 then (f_X2_isClosed_115 kr (f_X2_isClosed_57 kr n) 34 11 (nI z) (nI d) (nI m) (nI (r (d - 1))) (nI t) M2) else (some ((1 : Int32), M2))) = f_X2_isClosed_115 kr (f_X2_isClosed_57 kr n) 34 11 (nI z) (nI d) (nI m) (nI (r (d - 1))) (nI t) M2 := if_pos rfl
        rw [this]
        exact next M2 (a1.tr a2) (fun i hi => by rw [q2 i (by omega), mwn (by omega)])
      | some x =>
        rw [lpK_s ho hs]
        refine ⟨M2, if_neg (show ¬ nI 1 = 0 by decide), a1.tr a2, fun i hi => by rw [q2 i (by omega), mwn (by omega)], fun y e => ?_⟩
        injection e with e
        subst e
        exact w2 x hs
theorem x_closed (hS : SI F k) (hz : z ≤ 6) : ∀ (e d : Nat) (r : Nat → Nat) (m n : Nat) (M : Mem), d + e = z → 1 ≤ d → e < n → (∀ i, i < d → r i < k) → mkB m r d → LR M 34 F → (∀ i, i < d → M.1 11 i = nI (r i)) →
    clO F z d (srch F k e d r) (f_X2_isClosed n 34 11 (nI z) (nI d) (nI m) M) M := by
  have hk6 := hS.1
  intro e
  induction e with
  | zero =>
    intro d r m n M h hd hn hr hm hL hR
    obtain ⟨n, rfl, -⟩ := suc hn
    obtain rfl : d = z := by omega
    have hr1 := hr (d - 1) (by omega)
    have hr0 := hr 0 (by omega)
    have e1 : nI d - nI 1 = nI (d - 1) := pk_sub (by omega)
    refine ⟨M, ?_, ag.rf, fun _ _ => rfl, fun x e => ?_⟩
    · rw [f_X2_isClosed, g_X2_isClosed, show ((1 : Int32)) = nI 1 from rfl, if_neg (by rw [nI_ltI (by omega) (by omega)]; omega), if_neg (by rw [nI_ltI (by omega) (by omega)]; omega), show ((6 : Int32)) = nI 6 from rfl, if_pos (by rw [nI_leI (by omega) (by omega)]; omega), show kb 11 8 = true from rfl, chk_tt, show al 11 = 6 from rfl, e1, inb_n (by omega) (by omega), chk_tt, nI_clamp (by omega), hR (d - 1) (by omega), bnd_e, if_pos rfl, kbL isL34, chk_tt, inb_n (by omega) (by omega), chk_tt, show rw' (34 + 3) (nI (r (d - 1))) = rc 34 (r (d - 1)) from rw_37 (by omega), bnd_e]
      have c0 : (0 : Int32).toNatClampNeg = 0 := rfl
      rw [show inb (0 : Int32) 6 = true from rfl, chk_tt, c0, hR 0 (by omega), inb_n (by omega) (by omega), chk_tt, nI_clamp (by omega), hL.debt (by omega) (by omega)]
      by_cases q : F (366 + 6 * r (d - 1) + r 0) ≤ nI 0
      · have o : srch F k 0 d r = none := by
          simp only [srch]
          rw [gp_f q]
          rfl
        rw [o]
        exact if_pos q
      · have o : srch F k 0 d r = some r := by
          simp only [srch]
          rw [gp_t q]
          rfl
        rw [o]
        exact if_neg q
    · simp only [srch] at e
      split at e
      · injection e with e
        subst e
        exact hR
      · cases e
  | succ e ih =>
    intro d r m n M h hd hn hr hm hL hR
    obtain ⟨n, rfl, -⟩ := suc hn
    have hr1 := hr (d - 1) (by omega)
    have hr0 := hr 0 (by omega)
    have e1 : nI d - nI 1 = nI (d - 1) := pk_sub (by omega)
    have e5 : f_X2_isClosed (n + 1) 34 11 (nI z) (nI d) (nI m) M = f_X2_isClosed_57 (f_X2_isClosed n) FU 34 11 (nI z) (nI d) (nI m) (nI (r (d - 1))) (nI (r 0 + 1)) M := by
      have c0 : (0 : Int32).toNatClampNeg = 0 := rfl
      rw [f_X2_isClosed, g_X2_isClosed, show ((1 : Int32)) = nI 1 from rfl, if_neg (by rw [nI_ltI (by omega) (by omega)]; omega), if_neg (by rw [nI_ltI (by omega) (by omega)]; omega), show ((6 : Int32)) = nI 6 from rfl, if_pos (by rw [nI_leI (by omega) (by omega)]; omega), show kb 11 8 = true from rfl, chk_tt, show al 11 = 6 from rfl, e1, inb_n (by omega) (by omega), chk_tt, nI_clamp (by omega), hR (d - 1) (by omega), bnd_e, if_neg (by rw [nI_eq (by omega) (by omega)]; omega), show inb (0 : Int32) 6 = true from rfl, chk_tt, c0, hR 0 (by omega), nI_add, bnd_e]
    rw [e5]
    simp only [srch]
    rw [lpK_skip hr0 k 0 (by omega) (by omega)]
    exact x_cl57 hS hd (by omega) hz hr hm (fun t M1 ht h0 hL1 hR1 hm1 => ih (d + 1) _ _ n M1 (by omega) (by omega) (by omega) (fun i hi => by
      by_cases e : i = d
      · subst e; rw [va_up_self]; exact ht
      · rw [va_up_ne _ _ e]; exact hr i (by omega)) hm1 hL1 hR1) (k - (r 0 + 1)) (r 0 + 1) FU M (by omega) (by show k - (r 0 + 1) < 100000; omega) (by omega) hL hR
end RX
