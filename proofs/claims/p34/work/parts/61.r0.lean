/-! ===== rings, as numbers ===== -/
def gp (F : Nat → Int32) (u v : Nat) : Bool := !decide (F (366 + 6 * u + v) ≤ nI 0)
def newB (r : Nat → Nat) : Nat → Nat → Bool
  | 0, _ => true
  | d + 1, t => newB r d t && !decide (r d = t)
def okT (F : Nat → Int32) (r : Nat → Nat) (d t : Nat) : Bool := decide (r 0 < t) && (gp F (r (d - 1)) t && newB r d t)
def lpK (F : Nat → Int32) (S : (Nat → Nat) → Option (Nat → Nat)) (r : Nat → Nat) (d : Nat) : Nat → Nat → Option (Nat → Nat)
  | 0, _ => none
  | c + 1, t => if okT F r d t = true then (match S (va_up r d t) with | some x => some x | none => lpK F S r d c (t + 1)) else lpK F S r d c (t + 1)
def srch (F : Nat → Int32) (k : Nat) : Nat → Nat → (Nat → Nat) → Option (Nat → Nat)
  | 0, d, r => if gp F (r (d - 1)) (r 0) = true then some r else none
  | e + 1, d, r => lpK F (srch F k e (d + 1)) r d k 0
def fnd (F : Nat → Int32) (k z : Nat) : Nat → Nat → Option (Nat → Nat)
  | 0, _ => none
  | c + 1, t => match srch F k (z - 1) 1 (fun _ => t) with | some x => some x | none => fnd F k z c (t + 1)
def fndS (F : Nat → Int32) (k : Nat) : Nat → Nat → Option (Nat × (Nat → Nat))
  | 0, _ => none
  | c + 1, z => if k < z then none else match fnd F k z k 0 with | some x => some (z, x) | none => fndS F k c (z + 1)
def rngF (F : Nat → Int32) (k : Nat) : Option (Nat × (Nat → Nat)) := fndS F k 6 2
def b01 {α : Type} (o : Option α) : Int32 := match o with | some _ => nI 1 | none => nI 0
theorem newB_t {r : Nat → Nat} : ∀ {d t : Nat}, newB r d t = true ↔ ∀ i, i < d → r i ≠ t := by
  intro d
  induction d with
  | zero => intro t; exact ⟨fun _ i hi => by omega, fun _ => rfl⟩
  | succ d ih =>
    intro t
    simp only [newB, Bool.and_eq_true, ih, Bool.not_eq_true', decide_eq_false_iff_not]
    constructor
    · rintro ⟨h1, h2⟩ i hi
      by_cases e : i = d
      · subst e; exact h2
      · exact h1 i (by omega)
    · intro h
      exact ⟨fun i hi => h i (by omega), h d (by omega)⟩
theorem lpK_0 {F : Nat → Int32} {S : (Nat → Nat) → Option (Nat → Nat)} {r : Nat → Nat} {d c t : Nat} (h : okT F r d t = false) : lpK F S r d (c + 1) t = lpK F S r d c (t + 1) := by
  simp only [lpK]
  rw [if_neg (by rw [h]; decide)]
theorem lpK_n {F : Nat → Int32} {S : (Nat → Nat) → Option (Nat → Nat)} {r : Nat → Nat} {d c t : Nat} (h : okT F r d t = true) (e : S (va_up r d t) = none) : lpK F S r d (c + 1) t = lpK F S r d c (t + 1) := by
  simp only [lpK, e]
  rw [if_pos h]
theorem lpK_s {F : Nat → Int32} {S : (Nat → Nat) → Option (Nat → Nat)} {r x : Nat → Nat} {d c t : Nat} (h : okT F r d t = true) (e : S (va_up r d t) = some x) : lpK F S r d (c + 1) t = some x := by
  simp only [lpK, e]
  rw [if_pos h]
theorem okT_lo {F : Nat → Int32} {r : Nat → Nat} {d t : Nat} (h : t ≤ r 0) : okT F r d t = false := by
  unfold okT
  rw [show decide (r 0 < t) = false from decide_eq_false (by omega), Bool.false_and]
theorem lpK_skip {F : Nat → Int32} {S : (Nat → Nat) → Option (Nat → Nat)} {r : Nat → Nat} {d k : Nat} (hr : r 0 < k) : ∀ c t, t ≤ r 0 + 1 → t + c = k → lpK F S r d c t = lpK F S r d (k - (r 0 + 1)) (r 0 + 1) := by
  intro c
  induction c with
  | zero =>
    intro t h1 h2
    rw [show k - (r 0 + 1) = 0 by omega]
    rfl
  | succ c ih =>
    intro t h1 h2
    by_cases e : t = r 0 + 1
    · rw [e, show c + 1 = k - (r 0 + 1) by omega]
    · rw [lpK_0 (okT_lo (by omega))]
      exact ih (t + 1) (by omega) (by omega)
/-- what a found row is -/
def rok (F : Nat → Int32) (k d : Nat) (r : Nat → Nat) : Prop := (∀ i, i < d → r i < k) ∧ (∀ i j, i < d → j < d → r i = r j → i = j) ∧ ∀ i, i + 1 < d → gp F (r i) (r (i + 1)) = true
theorem rok_up {F : Nat → Int32} {k d t : Nat} {r : Nat → Nat} (hd : 1 ≤ d) (h : rok F k d r) (ht : t < k) (ho : okT F r d t = true) : rok F k (d + 1) (va_up r d t) := by
  unfold okT at ho
  simp only [Bool.and_eq_true, decide_eq_true_eq, newB_t] at ho
  obtain ⟨h1, h2, h3⟩ := ho
  obtain ⟨g1, g2, g3⟩ := h
  have va : ∀ i, i < d → va_up r d t i = r i := fun i hi => va_up_ne _ _ (by omega)
  have vb : va_up r d t d = t := va_up_self _ _ _
  refine ⟨fun i hi => ?_, fun i j hi hj e => ?_, fun i hi => ?_⟩
  · by_cases q : i = d
    · subst q; rw [vb]; exact ht
    · rw [va i (by omega)]; exact g1 i (by omega)
  · by_cases q : i = d
    · by_cases q' : j = d
      · omega
      · rw [q, vb, va j (by omega)] at e
        exact absurd e.symm (h3 j (by omega))
    · by_cases q' : j = d
      · rw [q', vb, va i (by omega)] at e
        exact absurd e (h3 i (by omega))
      · rw [va i (by omega), va j (by omega)] at e
        exact g2 i j (by omega) (by omega) e
  · by_cases q : i + 1 = d
    · rw [q, vb, va i (by omega), show i = d - 1 by omega]; exact h2
    · rw [va i (by omega), va (i + 1) (by omega)]; exact g3 i (by omega)
theorem lpK_ok {F : Nat → Int32} {S : (Nat → Nat) → Option (Nat → Nat)} {r x : Nat → Nat} {d k : Nat} {Q : Prop} (hS : ∀ t, t < k → okT F r d t = true → S (va_up r d t) = some x → Q) : ∀ c t, t + c = k → lpK F S r d c t = some x → Q := by
  intro c
  induction c with
  | zero => intro t h e; cases e
  | succ c ih =>
    intro t h e
    cases ho : okT F r d t with
    | false =>
      rw [lpK_0 ho] at e
      exact ih (t + 1) (by omega) e
    | true =>
      cases hs : S (va_up r d t) with
      | none =>
        rw [lpK_n ho hs] at e
        exact ih (t + 1) (by omega) e
      | some y =>
        rw [lpK_s ho hs] at e
        injection e with e
        subst e
        exact hS t (by omega) ho hs
theorem srch_ok {F : Nat → Int32} {k : Nat} : ∀ (e d : Nat) (r x : Nat → Nat), 1 ≤ d → rok F k d r → srch F k e d r = some x → rok F k (d + e) x ∧ gp F (x (d + e - 1)) (x 0) = true := by
  intro e
  induction e with
  | zero =>
    intro d r x hd h he
    simp only [srch] at he
    split at he
    · rename_i q
      injection he with he
      subst he
      exact ⟨h, q⟩
    · cases he
  | succ e ih =>
    intro d r x hd h he
    simp only [srch] at he
    refine lpK_ok (k := k) (fun t ht ho hs => ?_) k 0 (by omega) he
    have := ih (d + 1) _ x (by omega) (rok_up hd h ht ho) hs
    rw [show d + 1 + e = d + (e + 1) by omega] at this
    exact this
theorem fnd_ok {F : Nat → Int32} {k z : Nat} (hz : 2 ≤ z) : ∀ (c t : Nat) (x : Nat → Nat), t + c = k → fnd F k z c t = some x → rok F k z x ∧ gp F (x (z - 1)) (x 0) = true := by
  intro c
  induction c with
  | zero => intro t x h e; cases e
  | succ c ih =>
    intro t x h e
    simp only [fnd] at e
    split at e
    · rename_i y hy
      injection e with e
      subst e
      have := srch_ok (z - 1) 1 _ _ (Nat.le_refl _) ⟨fun i _ => by show t < k; omega, fun i j hi hj _ => by omega, fun i hi => by omega⟩ hy
      rw [show 1 + (z - 1) = z by omega] at this
      exact this
    · exact ih (t + 1) x (by omega) e
theorem fndS_ok {F : Nat → Int32} {k : Nat} : ∀ (c z : Nat) (y : Nat × (Nat → Nat)), 2 ≤ z → fndS F k c z = some y → 2 ≤ y.1 ∧ y.1 ≤ k ∧ rok F k y.1 y.2 ∧ gp F (y.2 (y.1 - 1)) (y.2 0) = true := by
  intro c
  induction c with
  | zero => intro z y h e; cases e
  | succ c ih =>
    intro z y h e
    simp only [fndS] at e
    split at e
    · cases e
    · rename_i q
      split at e
      · rename_i x hx
        injection e with e
        subst e
        obtain ⟨h1, h2⟩ := fnd_ok h k 0 x (by omega) hx
        exact ⟨h, by dsimp only; omega, h1, h2⟩
      · exact ih (z + 1) y (by omega) e
/-- the town behind place i of a ring of z -/
def fol (x : Nat → Nat) (z i : Nat) : Nat := if i + 1 < z then x (i + 1) else x 0
theorem rng_e {F : Nat → Int32} {k z : Nat} {x : Nat → Nat} (h : rok F k z x) (h' : gp F (x (z - 1)) (x 0) = true) (hz : 2 ≤ z) {i : Nat} (hi : i < z) : gp F (x i) (fol x z i) = true ∧ x i < k ∧ fol x z i < k ∧ x i ≠ fol x z i := by
  obtain ⟨g1, g2, g3⟩ := h
  unfold fol
  by_cases q : i + 1 < z
  · rw [if_pos q]
    exact ⟨g3 i q, g1 i hi, g1 _ q, fun e => by have := g2 i (i + 1) hi q e; omega⟩
  · rw [if_neg q, show i = z - 1 by omega]
    exact ⟨h', g1 _ (by omega), g1 0 (by omega), fun e => by have := g2 (z - 1) 0 (by omega) (by omega) e; omega⟩
def lsL (F : Nat → Int32) (x : Nat → Nat) (z : Nat) : Nat → Nat → Int32 → Int32
  | 0, _, a => a
  | c + 1, i, a => lsL F x z c (i + 1) (if F (366 + 6 * x i + fol x z i) < a then F (366 + 6 * x i + fol x z i) else a)
def lsF (F : Nat → Int32) (x : Nat → Nat) (z : Nat) : Int32 := lsL F x z (z - 1) 1 (F (366 + 6 * x 0 + fol x z 0))
theorem lsL_is {F : Nat → Int32} {x : Nat → Nat} {z : Nat} : ∀ (c i : Nat) (a : Int32), i + c = z → (lsL F x z c i a = a ∨ ∃ j, i ≤ j ∧ j < z ∧ lsL F x z c i a = F (366 + 6 * x j + fol x z j)) ∧ lsL F x z c i a ≤ a ∧ ∀ j, i ≤ j → j < z → lsL F x z c i a ≤ F (366 + 6 * x j + fol x z j) := by
  intro c
  induction c with
  | zero =>
    intro i a h
    exact ⟨Or.inl rfl, Int32.le_refl _, fun j h1 h2 => by omega⟩
  | succ c ih =>
    intro i a h
    simp only [lsL]
    obtain ⟨h1, h2, h3⟩ := ih (i + 1) (if F (366 + 6 * x i + fol x z i) < a then F (366 + 6 * x i + fol x z i) else a) (by omega)
    have hle : (if F (366 + 6 * x i + fol x z i) < a then F (366 + 6 * x i + fol x z i) else a) ≤ a ∧ (if F (366 + 6 * x i + fol x z i) < a then F (366 + 6 * x i + fol x z i) else a) ≤ F (366 + 6 * x i + fol x z i) := by
      by_cases q : F (366 + 6 * x i + fol x z i) < a
      · rw [if_pos q]; exact ⟨Int32.le_of_lt q, Int32.le_refl _⟩
      · rw [if_neg q]; exact ⟨Int32.le_refl _, Int32.not_lt.mp q⟩
    refine ⟨?_, Int32.le_trans h2 hle.1, fun j q1 q2 => ?_⟩
    · rcases h1 with h1 | ⟨j, j1, j2, j3⟩
      · rw [h1]
        by_cases q : F (366 + 6 * x i + fol x z i) < a
        · exact Or.inr ⟨i, Nat.le_refl _, by omega, if_pos q⟩
        · exact Or.inl (if_neg q)
      · exact Or.inr ⟨j, by omega, j2, j3⟩
    · by_cases e : j = i
      · subst e; exact Int32.le_trans h2 hle.2
      · exact h3 j (by omega) q2
theorem lsF_is {F : Nat → Int32} {x : Nat → Nat} {z : Nat} (hz : 2 ≤ z) : (∃ j, j < z ∧ lsF F x z = F (366 + 6 * x j + fol x z j)) ∧ ∀ j, j < z → lsF F x z ≤ F (366 + 6 * x j + fol x z j) := by
  obtain ⟨h1, h2, h3⟩ := lsL_is (F := F) (x := x) (z := z) (z - 1) 1 (F (366 + 6 * x 0 + fol x z 0)) (by omega)
  refine ⟨?_, fun j hj => ?_⟩
  · rcases h1 with h1 | ⟨j, _, j2, j3⟩
    · exact ⟨0, by omega, h1⟩
    · exact ⟨j, j2, j3⟩
  · by_cases e : j = 0
    · subst e; exact h2
    · exact h3 j (by omega) hj
def tkL (x : Nat → Nat) (z : Nat) (ls : Int32) : Nat → Nat → (Nat → Int32) → Nat → Int32
  | 0, _, F => F
  | c + 1, i, F => tkL x z ls c (i + 1) (va_up F (366 + 6 * x i + fol x z i) (F (366 + 6 * x i + fol x z i) - ls))
def tkF (F : Nat → Int32) (x : Nat → Nat) (z : Nat) : Nat → Int32 := va_up (va_up (tkL x z (lsF F x z) z 0 F) 426 (F 426 + nI 1)) 427 (F 427 + lsF F x z * nI z)
theorem tkL_o {x : Nat → Nat} {z : Nat} {ls : Int32} (hx : ∀ i, i < z → x i < 6 ∧ fol x z i < 6) : ∀ (c i : Nat) (F : Nat → Int32) (e : Nat), i + c = z → (e < 366 ∨ 402 ≤ e) → tkL x z ls c i F e = F e := by
  intro c
  induction c with
  | zero => intros; rfl
  | succ c ih =>
    intro i F e h he
    simp only [tkL]
    have := hx i (by omega)
    rw [ih (i + 1) _ e (by omega) he, va_up_ne _ _ (by omega)]
/-- each edge once -/
theorem tkL_v {x : Nat → Nat} {z : Nat} {ls : Int32} (hx : ∀ i, i < z → x i < 6 ∧ fol x z i < 6) (hd : ∀ i j, i < z → j < z → x i = x j → i = j) : ∀ (c i : Nat) (F : Nat → Int32) (e : Nat), i + c = z → ((∃ j, i ≤ j ∧ j < z ∧ e = 366 + 6 * x j + fol x z j) → tkL x z ls c i F e = F e - ls) ∧ ((∀ j, i ≤ j → j < z → e ≠ 366 + 6 * x j + fol x z j) → tkL x z ls c i F e = F e) := by
  intro c
  induction c with
  | zero =>
    intro i F e h
    exact ⟨fun ⟨j, j1, j2, _⟩ => by omega, fun _ => rfl⟩
  | succ c ih =>
    intro i F e h
    simp only [tkL]
    obtain ⟨h1, h2⟩ := ih (i + 1) (va_up F (366 + 6 * x i + fol x z i) (F (366 + 6 * x i + fol x z i) - ls)) e (by omega)
    have hne : ∀ j, i + 1 ≤ j → j < z → 366 + 6 * x i + fol x z i ≠ 366 + 6 * x j + fol x z j := by
      intro j j1 j2 q
      have a := hx i (by omega)
      have b := hx j j2
      have := hd i j (by omega) j2 (by omega)
      omega
    constructor
    · rintro ⟨j, j1, j2, rfl⟩
      by_cases q : j = i
      · subst q
        rw [h2 (fun j' a b => hne j' a b), va_up_self]
      · rw [h1 ⟨j, by omega, j2, rfl⟩, va_up_ne _ _ (fun e => hne j (by omega) j2 e.symm)]
    · intro hj
      rw [h2 (fun j a b => hj j (by omega) b), va_up_ne _ _ (hj i (Nat.le_refl _) (by omega))]
