/-! ===== rings: the reference ===== -/
def aK : Nat → Nat → Prop := fun c _ => c ≠ 29
def b2 (b : Bool) : Int32 := if b = true then nI 1 else nI 0
def ncK (F : Nat → Int32) (r : Nat → Nat) (d : Nat) : Nat → Nat → Nat
  | 0, t => t
  | c + 1, t => if okT F r d t = true then t else ncK F r d c (t + 1)
theorem ncK_t {F : Nat → Int32} {r : Nat → Nat} {d c t : Nat} (h : okT F r d t = true) : ncK F r d (c + 1) t = t := by
  simp only [ncK]
  rw [if_pos h]
theorem ncK_f {F : Nat → Int32} {r : Nat → Nat} {d c t : Nat} (h : okT F r d t = false) : ncK F r d (c + 1) t = ncK F r d c (t + 1) := by
  simp only [ncK]
  rw [h]
  rfl
def nxI (k v : Nat) : Int32 := if v = k then -nI 1 else nI v
theorem ncK_is {F : Nat → Int32} {r : Nat → Nat} {d k : Nat} {S : (Nat → Nat) → Option (Nat → Nat)} : ∀ (c t : Nat), t + c = k → (ncK F r d c t = k ∧ lpK F S r d c t = none) ∨ (ncK F r d c t < k ∧ t ≤ ncK F r d c t ∧ okT F r d (ncK F r d c t) = true ∧ lpK F S r d c t = lpK F S r d (k - ncK F r d c t) (ncK F r d c t)) := by
  intro c
  induction c with
  | zero =>
    intro t h
    exact Or.inl ⟨by simp only [ncK]; omega, rfl⟩
  | succ c ih =>
    intro t h
    simp only [ncK]
    cases ho : okT F r d t with
    | true =>
      right
      rw [if_pos rfl]
      exact ⟨by omega, Nat.le_refl _, ho, by rw [show k - t = c + 1 by omega]⟩
    | false =>
      rw [if_neg (by decide), lpK_0 ho]
      rcases ih (t + 1) (by omega) with h1 | ⟨h1, h2, h3, h4⟩
      · exact Or.inl h1
      · exact Or.inr ⟨h1, by omega, h3, h4⟩
section MR
variable {M : Mem} {F : Nat → Int32} {k : Nat} {r : Nat → Nat}
theorem m_new19 {d t : Nat} (hd : d ≤ 6) (ht : t < 6) (hr : ∀ i, i < d → r i < 6) (hR : ∀ i, i < d → M.1 29 i = nI (r i)) : ∀ (c j n : Nat) (f : Bool), j + c = d → c < n → f_X7_isNew_19 n (nI t) (nI d) (b2 (f && newB r j t)) (nI j) M = some (b2 (f && newB r d t), M) := by
  intro c
  induction c with
  | zero =>
    intro j n f h hn
    obtain ⟨n, rfl, -⟩ := suc hn
    obtain rfl : j = d := by omega
    rw [f_X7_isNew_19, if_pos (Int32.le_refl _)]
    cases f && newB r j t <;> rfl
  | succ c ih =>
    intro j n f h hn
    obtain ⟨n, rfl, -⟩ := suc hn
    have hj := hr j (by omega)
    have nx := ih (j + 1) n f (by omega) (by omega)
    rw [f_X7_isNew_19, if_neg (by rw [nI_leI (by omega) (by omega)]; omega), inb_n (by omega) (by omega), chk_tt, nI_clamp (by omega), hR j (by omega)]
    simp only [newB] at nx
    unfold f_X7_isNew_44 f_X7_isNew_45
    rw [show nI j + (1 : Int32) = nI (j + 1) from nI_add j 1, bnd_e, bnd_e]
    cases q : (f && newB r j t) with
    | false =>
      rw [← Bool.and_assoc, q, Bool.false_and] at nx
      rw [if_pos (show b2 false = 0 from rfl)]
      exact nx
    | true =>
      rw [← Bool.and_assoc, q, Bool.true_and] at nx
      rw [if_neg (show ¬ b2 true = 0 by decide)]
      by_cases e : r j = t
      · rw [if_pos (by rw [e])]
        rw [decide_eq_true e] at nx
        exact nx
      · rw [if_neg (by rw [nI_eq (by omega) (by omega)]; exact e)]
        rw [decide_eq_false e] at nx
        exact nx
theorem m_isNew {d t : Nat} (hd1 : 1 ≤ d) (hd : d ≤ 6) (ht : t < 6) (hr : ∀ i, i < d → r i < 6) (hR : ∀ i, i < d → M.1 29 i = nI (r i)) : f_X7_isNew (nI t) (nI d) M = some (b2 (decide (r 0 < t) && newB r d t), M) := by
  have h0 := hr 0 (by omega)
  unfold f_X7_isNew f_X7_isNew_15
  rw [show inb (0 : Int32) 7 = true from rfl, chk_tt, show (0 : Int32).toNatClampNeg = 0 from rfl, hR 0 (by omega)]
  have h1 := m_new19 (M := M) hd ht hr hR d 0 FU (decide (r 0 < t)) (by omega) (by show d < 100000; omega)
  by_cases q : r 0 < t
  · rw [if_neg (by rw [nI_leI (by omega) (by omega)]; omega)]
    rw [decide_eq_true q] at h1 ⊢
    exact h1
  · rw [if_pos (by rw [nI_leI (by omega) (by omega)]; omega)]
    rw [decide_eq_false q] at h1 ⊢
    exact h1
theorem m_next9 (hF : Mo M F) (hS : SI F k) {d : Nat} (hd1 : 1 ≤ d) (hd : d ≤ 6) (hr : ∀ i, i < d → r i < k) (hR : ∀ i, i < d → M.1 29 i = nI (r i)) : ∀ (c t n : Nat), t + c = k → c < n → f_X7_nextAt_9 n (nI d) (nI t) M = some (nxI k (ncK F r d c t), M) := by
  have hk6 := hS.1
  have hr1 := hr (d - 1) (by omega)
  have hmm := (hF 423 (by omega)).trans hS.2.1
  intro c
  induction c with
  | zero =>
    intro t n h hn
    obtain ⟨n, rfl, -⟩ := suc hn
    obtain rfl : t = k := by omega
    rw [f_X7_nextAt_9, show inb (423 : Int32) 3424 = true from rfl, chk_tt, show (423 : Int32).toNatClampNeg = 423 from rfl, hmm, if_pos (Int32.le_refl _)]
    simp only [ncK, nxI]
    rfl
  | succ c ih =>
    intro t n h hn
    obtain ⟨n, rfl, -⟩ := suc hn
    have ht : t < 6 := by omega
    have nx := ih (t + 1) n (by omega) (by omega)
    have ix : (nI 366 + nI 6 * nI (r (d - 1))) + nI t = nI (366 + 6 * r (d - 1) + t) := by rw [pk_mul, nI_add, nI_add]
    rw [f_X7_nextAt_9, show inb (423 : Int32) 3424 = true from rfl, chk_tt, show (423 : Int32).toNatClampNeg = 423 from rfl, hmm, if_neg (by rw [nI_leI (by omega) (by omega)]; omega), show nI d - (1 : Int32) = nI (d - 1) from pk_sub (by omega), inb_n (by omega) (by omega), chk_tt, nI_clamp (by omega), hR _ (by omega), m_owes, bn_s, ix, inb_n (by omega) (by omega), chk_tt, nI_clamp (by omega), hF _ (by omega), m_isNew hd1 hd ht (fun i hi => by have := hr i hi; omega) hR, bn_s]
    unfold f_X7_nextAt_52
    rw [show nI t + (1 : Int32) = nI (t + 1) from nI_add t 1, bnd_e, nx]
    by_cases g : F (366 + 6 * r (d - 1) + t) ≤ nI 0
    · have ho : okT F r d t = false := by
        unfold okT
        rw [gp_f g, Bool.false_and, Bool.and_false]
      rw [ncK_f ho]
      exact if_pos g
    · cases q : (decide (r 0 < t) && newB r d t) with
      | false =>
        have ho : okT F r d t = false := by
          unfold okT
          rw [gp_t g, Bool.true_and, q]
        rw [ncK_f ho]
        refine (if_neg g).trans ?_
        exact if_pos rfl
      | true =>
        have ho : okT F r d t = true := by
          unfold okT
          rw [gp_t g, Bool.true_and, q]
        rw [ncK_t ho]
        refine (if_neg g).trans ?_
        refine (if_neg (show ¬ b2 true = 0 by decide)).trans ?_
        unfold nxI
        rw [if_neg (by omega)]
theorem m_nextAt (hF : Mo M F) (hS : SI F k) {d c t : Nat} (hd1 : 1 ≤ d) (hd : d ≤ 6) (hr : ∀ i, i < d → r i < k) (hR : ∀ i, i < d → M.1 29 i = nI (r i)) (hp : M.1 29 d = nI t - nI 1) (h : t + c = k) : f_X7_nextAt (nI d) M = some (nxI k (ncK F r d c t), M) := by
  have hk6 := hS.1
  unfold f_X7_nextAt
  rw [inb_n (by omega) (by omega), chk_tt, nI_clamp (by omega), hp, show nI t - nI 1 + (1 : Int32) = nI t from Int32.sub_add_cancel _ _, bnd_e]
  exact m_next9 hF hS hd1 hd hr hR c t FU h (by show c < 100000; omega)
end MR
theorem dec1 {d : Nat} (h : 1 ≤ d) : nI d + (-1 : Int32) = nI (d - 1) := by
  rw [← pk_sub h, Int32.sub_eq_add_neg]
  rfl
def cst : Nat → Nat → Nat
  | 0, c => c + 1
  | e + 1, c => c * (cst e 6 + 1) + 1
theorem cst_1 {e c : Nat} : 1 ≤ cst e c := by cases e <;> simp only [cst] <;> omega
theorem cst_m {e c c' : Nat} (h : c ≤ c') : cst e c ≤ cst e c' := by
  cases e with
  | zero => simp only [cst]; omega
  | succ e =>
    simp only [cst]
    have := Nat.mul_le_mul_right (cst e 6 + 1) h
    omega
theorem m_loop {F : Nat → Int32} {k all : Nat} (hS : SI F k) (hall : all ≤ 6) : ∀ (e d : Nat), d + 1 + e = all → 1 ≤ d → ∀ (b c t n : Nat) (r : Nat → Nat) (M : Mem), c ≤ b → t + c = k → cst e c ≤ n → Mo M F → (∀ i, i < d → r i < k) → (∀ i, i < d → M.1 29 i = nI (r i)) → M.1 29 d = nI t - nI 1 →
    (lpK F (srch F k e (d + 1)) r d c t = none → ∃ n' M', n ≤ n' + cst e c ∧ f_X7_closes_9 n (nI all) (nI d) M = f_X7_closes_9 n' (nI all) (nI (d - 1)) M' ∧ ag aK M M' ∧ ∀ i, i < d → M'.1 29 i = M.1 29 i) ∧
    ∀ x, lpK F (srch F k e (d + 1)) r d c t = some x → ∃ M', f_X7_closes_9 n (nI all) (nI d) M = some (nI 1, M') ∧ ag aK M M' ∧ ∀ i, i < all → M'.1 29 i = nI (x i) := by
  have hk6 := hS.1
  intro e
  induction e with
  | zero =>
    intro d hd hd1 b
    induction b with
    | zero =>
      intro c t n r M hc h hn hF hr hR hp
      obtain rfl : c = 0 := by omega
      obtain ⟨n, rfl⟩ : ∃ m, n = m + 1 := ⟨n - 1, by simp only [cst] at hn; omega⟩
      have hx := m_nextAt hF hS hd1 (by omega) hr hR hp h
      refine ⟨fun _ => ⟨n, mw M 29 d (-nI 1), by simp only [cst]; omega, ?_, ag.rf.w _ (by unfold aK; omega), fun i hi => mwn (by omega)⟩, fun x e => (by cases e)⟩
      rw [f_X7_closes_9, if_neg (show ¬ nI d ≤ 0 by rw [show (0 : Int32) = nI 0 from rfl, nI_leI (by omega) (by omega)]; omega), hx, bn_s]
      rw [show nxI k (ncK F r d 0 t) = -nI 1 from if_pos (show t = k by omega), inb_n (by omega) (by omega), chk_tt, nI_clamp (by omega), bnd_e, chk_tt, mw_eq, if_pos (show -nI 1 = -1 from rfl), dec1 hd1, bnd_e]
    | succ b ihb =>
      intro c t n r M hc h hn hF hr hR hp
      obtain ⟨n, rfl⟩ : ∃ m, n = m + 1 := ⟨n - 1, by simp only [cst] at hn; omega⟩
      have hx := m_nextAt hF hS hd1 (by omega) hr hR hp h
      have h0 := hr 0 (by omega)
      rcases ncK_is (F := F) (r := r) (d := d) (S := srch F k 0 (d + 1)) c t h with ⟨q1, q2⟩ | ⟨q1, q2, q3, q4⟩
      · rw [q2]
        unfold nxI at hx
        rw [if_pos q1] at hx
        refine ⟨fun _ => ⟨n, mw M 29 d (-nI 1), by simp only [cst]; omega, ?_, ag.rf.w _ (by unfold aK; omega), fun i hi => mwn (by omega)⟩, fun x e => (by cases e)⟩
        rw [f_X7_closes_9, if_neg (show ¬ nI d ≤ 0 by rw [show (0 : Int32) = nI 0 from rfl, nI_leI (by omega) (by omega)]; omega), hx, bn_s, inb_n (by omega) (by omega), chk_tt, nI_clamp (by omega), bnd_e, chk_tt, mw_eq, if_pos (show -nI 1 = -1 from rfl), dec1 hd1, bnd_e]
      · rw [q4]
        unfold nxI at hx
        rw [if_neg (by omega)] at hx
        generalize ncK F r d c t = t' at q1 q2 q3 q4 hx
        have hF1 : Mo (mw M 29 d (nI t')) F := fun i hi => by rw [mwn (by omega)]; exact hF i hi
        have ix : (nI 366 + nI 6 * nI t') + nI (r 0) = nI (366 + 6 * t' + r 0) := by rw [pk_mul, nI_add, nI_add]
        have e0 : f_X7_closes_9 (n + 1) (nI all) (nI d) M = if F (366 + 6 * t' + r 0) ≤ nI 0 then f_X7_closes_9 n (nI all) (nI d) (mw M 29 d (nI t')) else some (nI 1, mw M 29 d (nI t')) := by
          rw [f_X7_closes_9, if_neg (show ¬ nI d ≤ 0 by rw [show (0 : Int32) = nI 0 from rfl, nI_leI (by omega) (by omega)]; omega), hx, bn_s, inb_n (by omega) (by omega), chk_tt, nI_clamp (by omega), bnd_e, chk_tt, mw_eq, if_neg (show ¬ nI t' = -1 by rw [show ((-1 : Int32)) = -nI 1 from rfl, nI_m1 (by omega)]; exact id), show nI d + (1 : Int32) = nI (d + 1) from nI_add d 1, if_pos (by rw [nI_leI (by omega) (by omega)]; omega), chk_tt, show inb (0 : Int32) 7 = true from rfl, chk_tt, show (0 : Int32).toNatClampNeg = 0 from rfl, mwn (by omega), hR 0 (by omega), m_owes, bn_s, ix, inb_n (by omega) (by omega), chk_tt, nI_clamp (by omega), hF1 _ (by omega)]
          rfl
        have va : va_up r d t' (d + 1 - 1) = t' := va_up_self _ _ _
        have va0 : va_up r d t' 0 = r 0 := va_up_ne _ _ (by omega)
        have hRu : ∀ i, i < all → (mw M 29 d (nI t')).1 29 i = nI (va_up r d t' i) := fun i hi => by
          by_cases e : i = d
          · subst e; rw [mw_eq, va_up_self]
          · rw [mwn (by omega), va_up_ne _ _ e]; exact hR i (by omega)
        rw [e0, show k - t' = (k - t' - 1) + 1 by omega]
        by_cases g : F (366 + 6 * t' + r 0) ≤ nI 0
        · rw [if_pos g]
          have hs : srch F k 0 (d + 1) (va_up r d t') = none := by
            simp only [srch]
            rw [va, va0, gp_f g]
            rfl
          rw [lpK_n q3 hs]
          obtain ⟨j1, j2⟩ := ihb (k - t' - 1) (t' + 1) n r (mw M 29 d (nI t')) (by omega) (by omega) (by simp only [cst] at hn ⊢; omega) hF1 hr (fun i hi => by rw [mwn (by omega)]; exact hR i hi) (by rw [mw_eq, show nI (t' + 1) - nI 1 = nI t' from pk_sub (by omega)])
          have a0 : ag aK M (mw M 29 d (nI t')) := ag.rf.w _ (by unfold aK; omega)
          refine ⟨fun e => ?_, fun x e => ?_⟩
          · obtain ⟨n', M', w1, w2, w3, w4⟩ := j1 e
            exact ⟨n', M', by simp only [cst] at w1 ⊢; omega, w2, a0.tr w3, fun i hi => by rw [w4 i hi, mwn (by omega)]⟩
          · obtain ⟨M', w1, w2, w3⟩ := j2 x e
            exact ⟨M', w1, a0.tr w2, w3⟩
        · rw [if_neg g]
          have hs : srch F k 0 (d + 1) (va_up r d t') = some (va_up r d t') := by
            simp only [srch]
            rw [va, va0, gp_t g]
            rfl
          rw [lpK_s q3 hs]
          refine ⟨fun e => (by cases e), fun x e => ?_⟩
          injection e with e
          subst e
          exact ⟨_, rfl, ag.rf.w _ (by unfold aK; omega), hRu⟩
  | succ e ih =>
    intro d hd hd1 b
    induction b with
    | zero =>
      intro c t n r M hc h hn hF hr hR hp
      obtain rfl : c = 0 := by omega
      obtain ⟨n, rfl⟩ : ∃ m, n = m + 1 := ⟨n - 1, by simp only [cst] at hn; omega⟩
      have hx := m_nextAt hF hS hd1 (by omega) hr hR hp h
      refine ⟨fun _ => ⟨n, mw M 29 d (-nI 1), by simp only [cst]; omega, ?_, ag.rf.w _ (by unfold aK; omega), fun i hi => mwn (by omega)⟩, fun x e => (by cases e)⟩
      rw [f_X7_closes_9, if_neg (show ¬ nI d ≤ 0 by rw [show (0 : Int32) = nI 0 from rfl, nI_leI (by omega) (by omega)]; omega), hx, bn_s]
      rw [show nxI k (ncK F r d 0 t) = -nI 1 from if_pos (show t = k by omega), inb_n (by omega) (by omega), chk_tt, nI_clamp (by omega), bnd_e, chk_tt, mw_eq, if_pos (show -nI 1 = -1 from rfl), dec1 hd1, bnd_e]
    | succ b ihb =>
      intro c t n r M hc h hn hF hr hR hp
      obtain ⟨n, rfl⟩ : ∃ m, n = m + 1 := ⟨n - 1, by simp only [cst] at hn; omega⟩
      have hx := m_nextAt hF hS hd1 (by omega) hr hR hp h
      have h0 := hr 0 (by omega)
      rcases ncK_is (F := F) (r := r) (d := d) (S := srch F k (e + 1) (d + 1)) c t h with ⟨q1, q2⟩ | ⟨q1, q2, q3, q4⟩
      · rw [q2]
        unfold nxI at hx
        rw [if_pos q1] at hx
        refine ⟨fun _ => ⟨n, mw M 29 d (-nI 1), by simp only [cst]; omega, ?_, ag.rf.w _ (by unfold aK; omega), fun i hi => mwn (by omega)⟩, fun x e => (by cases e)⟩
        rw [f_X7_closes_9, if_neg (show ¬ nI d ≤ 0 by rw [show (0 : Int32) = nI 0 from rfl, nI_leI (by omega) (by omega)]; omega), hx, bn_s, inb_n (by omega) (by omega), chk_tt, nI_clamp (by omega), bnd_e, chk_tt, mw_eq, if_pos (show -nI 1 = -1 from rfl), dec1 hd1, bnd_e]
      · rw [q4]
        unfold nxI at hx
        rw [if_neg (by omega)] at hx
        generalize ncK F r d c t = t' at q1 q2 q3 q4 hx
        have e0 : f_X7_closes_9 (n + 1) (nI all) (nI d) M = f_X7_closes_9 n (nI all) (nI (d + 1)) (mw (mw M 29 d (nI t')) 29 (d + 1) (-nI 1)) := by
          rw [f_X7_closes_9, if_neg (show ¬ nI d ≤ 0 by rw [show (0 : Int32) = nI 0 from rfl, nI_leI (by omega) (by omega)]; omega), hx, bn_s, inb_n (by omega) (by omega), chk_tt, nI_clamp (by omega), bnd_e, chk_tt, mw_eq, if_neg (show ¬ nI t' = -1 by rw [show ((-1 : Int32)) = -nI 1 from rfl, nI_m1 (by omega)]; exact id), show nI d + (1 : Int32) = nI (d + 1) from nI_add d 1, if_neg (by rw [nI_leI (by omega) (by omega)]; omega), bnd_e, inb_n (by omega) (by omega), chk_tt, nI_clamp (by omega), bnd_e]
          rfl
        have a0 : ag aK M (mw (mw M 29 d (nI t')) 29 (d + 1) (-nI 1)) := (ag.rf.w _ (by unfold aK; omega)).w _ (by unfold aK; omega)
        have hRu : ∀ i, i < d + 1 → (mw (mw M 29 d (nI t')) 29 (d + 1) (-nI 1)).1 29 i = nI (va_up r d t' i) := fun i hi => by
          rw [mwn (by omega)]
          by_cases e : i = d
          · subst e; rw [mw_eq, va_up_self]
          · rw [mwn (by omega), va_up_ne _ _ e]; exact hR i (by omega)
        have hmono := cst_m (e := e) hk6
        have hprod := Nat.mul_le_mul_right (cst e 6 + 1) (show k - t' - 1 + 1 ≤ c by omega)
        rw [Nat.succ_mul] at hprod
        obtain ⟨j1, j2⟩ := ih (d + 1) (by omega) (by omega) k k 0 n (va_up r d t') _ (Nat.le_refl _) (by omega) (by
          simp only [cst] at hn
          have : 0 < c := by omega
          have h9 := Nat.mul_le_mul_right (cst e 6 + 1) (show 1 ≤ c by omega)
          omega) (fun i hi => by rw [a0.2 _ _ (by unfold aK; omega)]; exact hF i hi) (fun i hi => by
          by_cases e : i = d
          · subst e; rw [va_up_self]; exact q1
          · rw [va_up_ne _ _ e]; exact hr i (by omega)) hRu (by rw [mw_eq]; rfl)
        rw [e0, show k - t' = (k - t' - 1) + 1 by omega]
        cases hs : srch F k (e + 1) (d + 1) (va_up r d t') with
        | some y =>
          rw [lpK_s q3 hs]
          refine ⟨fun e => (by cases e), fun x e => ?_⟩
          injection e with e
          subst e
          obtain ⟨M', w1, w2, w3⟩ := j2 y hs
          exact ⟨M', w1, a0.tr w2, w3⟩
        | none =>
          rw [lpK_n q3 hs]
          obtain ⟨n1, M1, w1, w2, w3, w4⟩ := j1 hs
          have hp1 : M1.1 29 d = nI (t' + 1) - nI 1 := by
            rw [w4 d (by omega), hRu d (by omega), va_up_self, show nI (t' + 1) - nI 1 = nI t' from pk_sub (by omega)]
          have hR1 : ∀ i, i < d → M1.1 29 i = M.1 29 i := fun i hi => by rw [w4 i (by omega), mwn (by omega), mwn (by omega)]
          obtain ⟨g1, g2⟩ := ihb (k - t' - 1) (t' + 1) n1 r M1 (by omega) (by omega) (by
            simp only [cst] at hn ⊢
            omega) (fun i hi => by rw [w3.2 _ _ (by unfold aK; omega), a0.2 _ _ (by unfold aK; omega)]; exact hF i hi) hr (fun i hi => by rw [hR1 i hi]; exact hR i hi) hp1
          rw [w2, show d + 1 - 1 = d by omega]
          refine ⟨fun e9 => ?_, fun x e9 => ?_⟩
          · obtain ⟨n', M', v1, v2, v3, v4⟩ := g1 e9
            exact ⟨n', M', by simp only [cst] at v1 ⊢; omega, v2, (a0.tr w3).tr v3, fun i hi => by rw [v4 i hi, hR1 i hi]⟩
          · obtain ⟨M', v1, v2, v3⟩ := g2 x e9
            exact ⟨M', v1, (a0.tr w3).tr v2, v3⟩
