/-! ===== the best trades, as numbers ===== -/
def fbL (f : Nat → Nat) (U : Nat) : Nat → Nat → Nat → Nat → Nat × Nat
  | 0, _, b, v => (b, v)
  | c + 1, d, b, v => if U.testBit d = true then fbL f U c (d + 1) b v else if f d + 1 ≤ v then fbL f U c (d + 1) b v else fbL f U c (d + 1) d (f d + 1)
def opt (g : Nat → Nat → Nat) (k : Nat) : Nat → Nat → Nat → Nat
  | 0, _, _ => 0
  | c + 1, t, U => (fbL (fun d => g t d + opt g k c (t + 1) (U ||| 2 ^ d)) U k 0 0 0).2 - 1
def fbf (g : Nat → Nat → Nat) (k t U : Nat) : Nat → Nat := fun d => g t d + opt g k (k - (t + 1)) (t + 1) (U ||| 2 ^ d)
def fbB (g : Nat → Nat → Nat) (k t U : Nat) : Nat := (fbL (fbf g k t U) U k 0 0 0).1
theorem fbL_is {f : Nat → Nat} {U k : Nat} : ∀ (c d b v : Nat), d + c = k → (v = 0 ∧ (∀ e, e < d → U.testBit e = true) ∨ (v = f b + 1 ∧ b < d ∧ U.testBit b = false ∧ (∀ e, e < d → U.testBit e = false → f e + 1 ≤ v) ∧ ∀ e, e < b → U.testBit e = false → f e + 1 < v)) →
    ((fbL f U c d b v).2 = 0 ∧ (∀ e, e < k → U.testBit e = true)) ∨ ((fbL f U c d b v).2 = f (fbL f U c d b v).1 + 1 ∧ (fbL f U c d b v).1 < k ∧ U.testBit (fbL f U c d b v).1 = false ∧ (∀ e, e < k → U.testBit e = false → f e + 1 ≤ (fbL f U c d b v).2) ∧ ∀ e, e < (fbL f U c d b v).1 → U.testBit e = false → f e + 1 < (fbL f U c d b v).2) := by
  intro c
  induction c with
  | zero =>
    intro d b v h hv
    obtain rfl : d = k := by omega
    exact hv
  | succ c ih =>
    intro d b v h hv
    simp only [fbL]
    by_cases q : U.testBit d = true
    · rw [if_pos q]
      refine ih (d + 1) b v (by omega) ?_
      rcases hv with ⟨h1, h2⟩ | ⟨h1, h2, h3, h4, h5⟩
      · left
        refine ⟨h1, fun e he => ?_⟩
        by_cases y : e = d
        · subst y; exact q
        · exact h2 e (by omega)
      · right
        refine ⟨h1, by omega, h3, fun e he hf => ?_, h5⟩
        by_cases y : e = d
        · subst y; rw [q] at hf; cases hf
        · exact h4 e (by omega) hf
    · have q' : U.testBit d = false := by
        cases e : U.testBit d with
        | true => exact absurd e q
        | false => rfl
      rw [if_neg q]
      by_cases z : f d + 1 ≤ v
      · rw [if_pos z]
        refine ih (d + 1) b v (by omega) ?_
        rcases hv with ⟨h1, h2⟩ | ⟨h1, h2, h3, h4, h5⟩
        · omega
        · right
          refine ⟨h1, by omega, h3, fun e he hf => ?_, h5⟩
          by_cases y : e = d
          · subst y; exact z
          · exact h4 e (by omega) hf
      · rw [if_neg z]
        refine ih (d + 1) d (f d + 1) (by omega) (Or.inr ⟨rfl, by omega, q', fun e he hf => ?_, fun e he hf => ?_⟩)
        · by_cases y : e = d
          · subst y; exact Nat.le_refl _
          · rcases hv with ⟨h1, h2⟩ | ⟨h1, h2, h3, h4, h5⟩
            · have := h2 e (by omega); rw [hf] at this; cases this
            · have := h4 e (by omega) hf; omega
        · rcases hv with ⟨h1, h2⟩ | ⟨h1, h2, h3, h4, h5⟩
          · have := h2 e (by omega); rw [hf] at this; cases this
          · have := h4 e (by omega) hf; omega
theorem fb_is {g : Nat → Nat → Nat} {k t U : Nat} (ht : t < k) (hU : ∃ e, e < k ∧ U.testBit e = false) :
    opt g k (k - t) t U = fbf g k t U (fbB g k t U) ∧ (fbL (fbf g k t U) U k 0 0 0).2 = opt g k (k - t) t U + 1 ∧ fbB g k t U < k ∧ U.testBit (fbB g k t U) = false ∧ (∀ e, e < k → U.testBit e = false → fbf g k t U e ≤ opt g k (k - t) t U) ∧ ∀ e, e < fbB g k t U → U.testBit e = false → fbf g k t U e < opt g k (k - t) t U := by
  have eo : opt g k (k - t) t U = (fbL (fbf g k t U) U k 0 0 0).2 - 1 := by
    rw [show k - t = (k - (t + 1)) + 1 by omega]
    rfl
  rcases fbL_is (f := fbf g k t U) (U := U) (k := k) k 0 0 0 (Nat.zero_add k) (Or.inl ⟨rfl, fun e he => by omega⟩) with ⟨_, h⟩ | ⟨h1, h2, h3, h4, h5⟩
  · obtain ⟨e, he, hf⟩ := hU
    rw [h e he] at hf
    cases hf
  · unfold fbB
    rw [eo]
    refine ⟨by omega, by omega, h2, h3, fun e he hf => ?_, fun e he hf => ?_⟩
    · have := h4 e he hf; omega
    · have := h5 e he hf; omega
def um (y : Nat → Nat) : Nat → Nat
  | 0 => 0
  | t + 1 => um y t ||| 2 ^ y t
def tot (g : Nat → Nat → Nat) (y : Nat → Nat) : Nat → Nat
  | 0 => 0
  | t + 1 => tot g y t + g t (y t)
theorem um_t {y : Nat → Nat} {d : Nat} : ∀ t, (um y t).testBit d = true ↔ ∃ i, i < t ∧ y i = d := by
  intro t
  induction t with
  | zero =>
    simp only [um, Nat.zero_testBit]
    exact ⟨fun h => (by cases h), fun ⟨i, hi, _⟩ => (by omega)⟩
  | succ t ih =>
    simp only [um]
    rw [Nat.testBit_or, Bool.or_eq_true, ih, Nat.testBit_two_pow, decide_eq_true_eq]
    constructor
    · rintro (⟨i, hi, e⟩ | e)
      · exact ⟨i, by omega, e⟩
      · exact ⟨t, by omega, e⟩
    · rintro ⟨i, hi, e⟩
      by_cases q : i = t
      · subst q; exact Or.inr e
      · exact Or.inl ⟨i, by omega, e⟩
def cb (U : Nat) : Nat → Nat
  | 0 => 0
  | c + 1 => cb U c + (if U.testBit c = true then 1 else 0)
theorem cb_or {U d : Nat} (h : U.testBit d = false) : ∀ c, cb (U ||| 2 ^ d) c = cb U c + (if d < c then 1 else 0) := by
  intro c
  induction c with
  | zero => rfl
  | succ c ih =>
    simp only [cb]
    rw [ih, Nat.testBit_or, Nat.testBit_two_pow]
    by_cases q : d = c
    · subst q
      rw [h, if_neg (show ¬ d < d by omega), if_pos (show d < d + 1 by omega)]
      simp
    · rw [show decide (d = c) = false from decide_eq_false q, Bool.or_false]
      by_cases w : d < c
      · rw [if_pos w, if_pos (show d < c + 1 by omega)]; omega
      · rw [if_neg w, if_neg (show ¬ d < c + 1 by omega)]; omega
theorem cb_all {U : Nat} : ∀ c, (∀ e, e < c → U.testBit e = true) → cb U c = c := by
  intro c
  induction c with
  | zero => intro _; rfl
  | succ c ih =>
    intro h
    simp only [cb]
    rw [ih (fun e he => h e (by omega)), if_pos (h c (by omega))]
theorem cb_free {U k : Nat} (h : cb U k < k) : ∃ e, e < k ∧ U.testBit e = false := by
  apply Classical.byContradiction
  intro q
  have := cb_all (U := U) k (fun e he => by
    cases w : U.testBit e with
    | true => rfl
    | false => exact absurd ⟨e, he, w⟩ q)
  omega
theorem cb_le {U : Nat} {d : Nat} : ∀ c, cb (U ||| 2 ^ d) c ≤ cb U c + 1 := by
  intro c
  cases h : U.testBit d with
  | false =>
    rw [cb_or h]
    split <;> omega
  | true =>
    have : U ||| 2 ^ d = U := by
      apply Nat.eq_of_testBit_eq
      intro i
      rw [Nat.testBit_or, Nat.testBit_two_pow]
      by_cases q : d = i
      · subst q; rw [h]; rfl
      · rw [show decide (d = i) = false from decide_eq_false q, Bool.or_false]
    rw [this]; omega
theorem cb_um {y : Nat → Nat} {k : Nat} : ∀ t, cb (um y t) k ≤ t := by
  intro t
  induction t with
  | zero =>
    have : ∀ c, cb 0 c = 0 := by
      intro c
      induction c with
      | zero => rfl
      | succ c ih => simp only [cb]; rw [ih, Nat.zero_testBit]; rfl
    show cb 0 k ≤ 0
    rw [this k]
    exact Nat.le_refl _
  | succ t ih =>
    simp only [um]
    have := cb_le (U := um y t) (d := y t) k
    omega
/-- no assignment brings more than opt -/
theorem tot_le {g : Nat → Nat → Nat} {k : Nat} {y : Nat → Nat} (hy : ∀ t, t < k → y t < k) (hd : ∀ i j, i < k → j < k → y i = y j → i = j) : ∀ c t, t + c = k → tot g y k ≤ tot g y t + opt g k (k - t) t (um y t) := by
  intro c
  induction c with
  | zero =>
    intro t h
    obtain rfl : t = k := by omega
    omega
  | succ c ih =>
    intro t h
    have hf : (um y t).testBit (y t) = false := by
      cases e : (um y t).testBit (y t) with
      | false => rfl
      | true =>
        obtain ⟨i, hi, e⟩ := (um_t t).mp e
        have := hd i t (by omega) (by omega) e
        omega
    have h1 := ih (t + 1) (by omega)
    obtain ⟨_, _, _, _, h2, _⟩ := fb_is (g := g) (U := um y t) (show t < k by omega) ⟨y t, hy t (by omega), hf⟩
    have h3 := h2 (y t) (hy t (by omega)) hf
    unfold fbf at h3
    simp only [tot, um] at h1
    omega
/-- the chosen one -/
def chM (g : Nat → Nat → Nat) (k : Nat) : Nat → Nat
  | 0 => 0
  | t + 1 => chM g k t ||| 2 ^ fbB g k t (chM g k t)
def ch (g : Nat → Nat → Nat) (k t : Nat) : Nat := fbB g k t (chM g k t)
theorem ch_um {g : Nat → Nat → Nat} {k : Nat} : ∀ t, chM g k t = um (ch g k) t := by
  intro t
  induction t with
  | zero => rfl
  | succ t ih =>
    simp only [chM, um]
    rw [← ih]
    rfl
theorem ch_is {g : Nat → Nat → Nat} {k t : Nat} (ht : t < k) : opt g k (k - t) t (um (ch g k) t) = fbf g k t (um (ch g k) t) (ch g k t) ∧ ch g k t < k ∧ (um (ch g k) t).testBit (ch g k t) = false ∧ ∀ e, e < ch g k t → (um (ch g k) t).testBit e = false → fbf g k t (um (ch g k) t) e < opt g k (k - t) t (um (ch g k) t) := by
  have hb := cb_um (y := ch g k) (k := k) t
  obtain ⟨h1, h2, h3, h4, h5, h6⟩ := fb_is (g := g) (U := um (ch g k) t) ht (cb_free (by omega))
  unfold ch
  rw [ch_um]
  exact ⟨h1, h3, h4, h6⟩
theorem ch_tot {g : Nat → Nat → Nat} {k : Nat} : ∀ t, t ≤ k → tot g (ch g k) t + opt g k (k - t) t (um (ch g k) t) = opt g k k 0 0 := by
  intro t
  induction t with
  | zero => intro _; simp only [tot, um]; rw [Nat.sub_zero, Nat.zero_add]
  | succ t ih =>
    intro h
    have h1 := ih (by omega)
    have h2 := (ch_is (g := g) (show t < k by omega)).1
    unfold fbf at h2
    simp only [tot, um]
    omega
theorem ch_full {g : Nat → Nat → Nat} {k : Nat} : tot g (ch g k) k = opt g k k 0 0 := by
  have := ch_tot (g := g) k (Nat.le_refl k)
  rw [Nat.sub_self] at this
  simp only [opt] at this
  omega
theorem ch_inj {g : Nat → Nat → Nat} {k : Nat} : ∀ i j, i < k → j < k → ch g k i = ch g k j → i = j := by
  have key : ∀ i j, i < j → j < k → ch g k i ≠ ch g k j := by
    intro i j hij hj e
    have := (ch_is (g := g) hj).2.2.1
    rw [(um_t j).mpr ⟨i, hij, e⟩] at this
    cases this
  intro i j hi hj e
  rcases Nat.lt_trichotomy i j with q | q | q
  · exact absurd e (key i j q hj)
  · exact q
  · exact absurd e.symm (key j i q hi)
theorem um_cg {y x : Nat → Nat} : ∀ t, (∀ i, i < t → y i = x i) → um y t = um x t := by
  intro t
  induction t with
  | zero => intro _; rfl
  | succ t ih =>
    intro h
    simp only [um]
    rw [ih (fun i hi => h i (by omega)), h t (by omega)]
theorem tot_cg {g : Nat → Nat → Nat} {y x : Nat → Nat} : ∀ t, (∀ i, i < t → y i = x i) → tot g y t = tot g x t := by
  intro t
  induction t with
  | zero => intro _; rfl
  | succ t ih =>
    intro h
    simp only [tot]
    rw [ih (fun i hi => h i (by omega)), h t (by omega)]
/-- what comes before the chosen one brings less -/
theorem ch_lex {g : Nat → Nat → Nat} {k t : Nat} {y : Nat → Nat} (ht : t < k) (hy : ∀ t, t < k → y t < k) (hd : ∀ i j, i < k → j < k → y i = y j → i = j) (he : ∀ i, i < t → y i = ch g k i) (hl : y t < ch g k t) : tot g y k < opt g k k 0 0 := by
  have hu := um_cg t he
  have hf : (um (ch g k) t).testBit (y t) = false := by
    cases e : (um (ch g k) t).testBit (y t) with
    | false => rfl
    | true =>
      rw [← hu] at e
      obtain ⟨i, hi, e⟩ := (um_t t).mp e
      have := hd i t (by omega) (by omega) e
      omega
  have h1 := tot_le (g := g) hy hd (k - (t + 1)) (t + 1) (by omega)
  have h2 := (ch_is (g := g) ht).2.2.2 (y t) hl hf
  have h3 := ch_tot (g := g) (k := k) t (by omega)
  have h4 := tot_cg (g := g) t he
  unfold fbf at h2
  simp only [tot, um] at h1
  rw [hu] at h1
  omega
