/-! ===== the best trades: the reference's numbers ===== -/
def dig (k v t : Nat) : Nat := v / k ^ (k - (t + 1)) % k
def brL (g : Nat → Nat → Nat) (y : Nat → Nat) : Nat → Nat → Nat → Nat
  | 0, _, s => s + 1
  | c + 1, U, s => if U.testBit (y c) = true then 0 else brL g y c (U ||| 2 ^ y c) (s + g c (y c))
def brV (g : Nat → Nat → Nat) (k v : Nat) : Nat := brL g (dig k v) k 0 0
theorem brL_is {g : Nat → Nat → Nat} {y : Nat → Nat} : ∀ c U s, (brL g y c U s = s + tot g y c + 1 ∧ (∀ i, i < c → U.testBit (y i) = false) ∧ ∀ i j, i < c → j < c → y i = y j → i = j) ∨ (brL g y c U s = 0 ∧ ¬ ((∀ i, i < c → U.testBit (y i) = false) ∧ ∀ i j, i < c → j < c → y i = y j → i = j)) := by
  intro c
  induction c with
  | zero =>
    intro U s
    exact Or.inl ⟨rfl, fun i hi => by omega, fun i j hi => by omega⟩
  | succ c ih =>
    intro U s
    simp only [brL, tot]
    by_cases q : U.testBit (y c) = true
    · right
      rw [if_pos q]
      refine ⟨rfl, fun h => ?_⟩
      rw [h.1 c (by omega)] at q
      cases q
    · have q' : U.testBit (y c) = false := by
        cases e : U.testBit (y c) with
        | true => exact absurd e q
        | false => rfl
      rw [if_neg q]
      rcases ih (U ||| 2 ^ y c) (s + g c (y c)) with ⟨h1, h2, h3⟩ | ⟨h1, h2⟩
      · left
        have h4 : ∀ i, i < c → U.testBit (y i) = false ∧ y c ≠ y i := by
          intro i hi
          have := h2 i hi
          rw [Nat.testBit_or, Bool.or_eq_false_iff, Nat.testBit_two_pow, decide_eq_false_iff_not] at this
          exact this
        refine ⟨by omega, fun i hi => ?_, fun i j hi hj e => ?_⟩
        · by_cases w : i = c
          · subst w; exact q'
          · exact (h4 i (by omega)).1
        · by_cases w : i = c
          · by_cases w' : j = c
            · omega
            · subst w; exact absurd e (h4 j (by omega)).2
          · by_cases w' : j = c
            · subst w'; exact absurd e.symm (h4 i (by omega)).2
            · exact h3 i j (by omega) (by omega) e
      · right
        refine ⟨h1, fun h => h2 ⟨fun i hi => ?_, fun i j hi hj e => h.2 i j (by omega) (by omega) e⟩⟩
        rw [Nat.testBit_or, h.1 i (by omega), Nat.testBit_two_pow, decide_eq_false, Bool.or_false]
        intro e
        have := h.2 c i (by omega) (by omega) e
        omega
theorem brV_is {g : Nat → Nat → Nat} {k v : Nat} : (brV g k v = tot g (dig k v) k + 1 ∧ ∀ i j, i < k → j < k → dig k v i = dig k v j → i = j) ∨ brV g k v = 0 := by
  unfold brV
  rcases brL_is (g := g) (y := dig k v) k 0 0 with ⟨h1, _, h3⟩ | ⟨h1, _⟩
  · exact Or.inl ⟨by omega, h3⟩
  · exact Or.inr h1
theorem dig_lt {k v t : Nat} (h : t < k) : dig k v t < k := Nat.mod_lt _ (by omega)
theorem brV_le {g : Nat → Nat → Nat} {k v : Nat} : brV g k v ≤ opt g k k 0 0 + 1 := by
  rcases brV_is (g := g) (k := k) (v := v) with ⟨h1, h2⟩ | h
  · have := tot_le (g := g) (y := dig k v) (fun t ht => dig_lt ht) h2 k 0 (by omega)
    simp only [tot, um, Nat.sub_zero] at this
    omega
  · omega
theorem pre_s {k v t : Nat} (h : t < k) : v / k ^ (k - t) = v / k ^ (k - (t + 1)) / k := by
  rw [Nat.div_div_eq_div_mul, show k - t = (k - (t + 1)) + 1 by omega, Nat.pow_succ]
theorem pre_d {k v t : Nat} (h : t < k) : v / k ^ (k - (t + 1)) = k * (v / k ^ (k - t)) + dig k v t := by
  rw [pre_s h]
  exact (Nat.div_add_mod _ _).symm
theorem lex {k v w : Nat} (hv : v < k ^ k) (hw : w < k ^ k) (h : v < w) : ∀ t, t ≤ k → (v / k ^ (k - t) = w / k ^ (k - t) ∧ ∀ i, i < t → dig k v i = dig k w i) ∨ ∃ s, s < k ∧ (∀ i, i < s → dig k v i = dig k w i) ∧ dig k v s < dig k w s := by
  intro t
  induction t with
  | zero =>
    intro _
    left
    refine ⟨?_, fun i hi => by omega⟩
    rw [Nat.sub_zero, Nat.div_eq_of_lt hv, Nat.div_eq_of_lt hw]
  | succ t ih =>
    intro ht
    rcases ih (by omega) with ⟨h1, h2⟩ | h2
    · have e1 := pre_d (v := v) (show t < k by omega)
      have e2 := pre_d (v := w) (show t < k by omega)
      have hm : v / k ^ (k - (t + 1)) ≤ w / k ^ (k - (t + 1)) := Nat.div_le_div_right (by omega)
      rcases Nat.lt_trichotomy (dig k v t) (dig k w t) with q | q | q
      · exact Or.inr ⟨t, by omega, h2, q⟩
      · left
        refine ⟨by rw [e1, e2, h1, q], fun i hi => ?_⟩
        by_cases y : i = t
        · subst y; exact q
        · exact h2 i (by omega)
      · rw [h1] at e1
        omega
    · exact Or.inr h2
theorem lex_k {k v w : Nat} (hv : v < k ^ k) (hw : w < k ^ k) (h : v < w) : ∃ s, s < k ∧ (∀ i, i < s → dig k v i = dig k w i) ∧ dig k v s < dig k w s := by
  rcases lex hv hw h k (Nat.le_refl k) with ⟨h1, _⟩ | h2
  · rw [Nat.sub_self, Nat.pow_zero, Nat.div_one, Nat.div_one] at h1
    omega
  · exact h2
def num (k : Nat) (x : Nat → Nat) : Nat → Nat
  | 0 => 0
  | t + 1 => k * num k x t + x t
theorem num_lt {k : Nat} {x : Nat → Nat} (hx : ∀ t, t < k → x t < k) : ∀ t, t ≤ k → num k x t < k ^ t := by
  intro t
  induction t with
  | zero => intro _; simp only [num, Nat.pow_zero]; omega
  | succ t ih =>
    intro h
    have h1 := ih (by omega)
    have h2 := hx t (by omega)
    simp only [num]
    have h3 := Nat.mul_le_mul_left k (show num k x t + 1 ≤ k ^ t by omega)
    rw [Nat.pow_succ, Nat.mul_comm (k ^ t) k]
    rw [Nat.mul_add] at h3
    omega
theorem num_pre {k : Nat} {x : Nat → Nat} (hx : ∀ t, t < k → x t < k) : ∀ j t, t + j = k → num k x k / k ^ (k - t) = num k x t := by
  intro j
  induction j with
  | zero =>
    intro t h
    obtain rfl : t = k := by omega
    rw [Nat.sub_self, Nat.pow_zero, Nat.div_one]
  | succ j ih =>
    intro t h
    have h2 := hx t (by omega)
    rw [pre_s (by omega), ih (t + 1) (by omega)]
    simp only [num]
    rw [Nat.mul_add_div (by omega), Nat.div_eq_of_lt h2, Nat.add_zero]
theorem num_dig {k : Nat} {x : Nat → Nat} (hx : ∀ t, t < k → x t < k) {t : Nat} (h : t < k) : dig k (num k x k) t = x t := by
  unfold dig
  rw [num_pre hx (k - (t + 1)) (t + 1) (by omega)]
  simp only [num]
  rw [Nat.mul_add_mod]
  exact Nat.mod_eq_of_lt (hx t h)
/-- the reference's scan so far -/
def scn (g : Nat → Nat → Nat) (k v mv : Nat) (D : Nat → Nat) : Prop := (mv = 0 ∧ ∀ w, w < v → brV g k w = 0) ∨ ∃ v0, v0 < v ∧ mv = brV g k v0 ∧ 0 < mv ∧ (∀ t, t < k → D t = dig k v0 t) ∧ (∀ w, w < v → brV g k w ≤ mv) ∧ ∀ w, w < v0 → brV g k w < mv
theorem scn_end {g : Nat → Nat → Nat} {k mv : Nat} {D : Nat → Nat} (h : scn g k (k ^ k) mv D) : mv = opt g k k 0 0 + 1 ∧ ∀ t, t < k → D t = ch g k t := by
  have hx : ∀ t, t < k → ch g k t < k := fun t ht => (ch_is (g := g) ht).2.1
  have hn := num_lt hx k (Nat.le_refl k)
  have hd : ∀ t, t < k → dig k (num k (ch g k) k) t = ch g k t := fun t ht => num_dig hx ht
  have hb : brV g k (num k (ch g k) k) = opt g k k 0 0 + 1 := by
    have e1 : tot g (dig k (num k (ch g k) k)) k = opt g k k 0 0 := by rw [tot_cg k hd, ch_full]
    unfold brV
    rcases brL_is (g := g) (y := dig k (num k (ch g k) k)) k 0 0 with ⟨h1, _⟩ | ⟨_, h2⟩
    · rw [h1, e1]; omega
    · exfalso
      refine h2 ⟨fun i _ => Nat.zero_testBit _, fun i j hi hj e => ?_⟩
      rw [hd i hi, hd j hj] at e
      exact ch_inj i j hi hj e
  rcases h with ⟨_, h2⟩ | ⟨v0, h1, h2, h3, h4, h5, h6⟩
  · have := h2 _ hn
    omega
  · have h7 := h5 _ hn
    have h8 := brV_le (g := g) (k := k) (v := v0)
    have e : v0 = num k (ch g k) k := by
      rcases Nat.lt_trichotomy v0 (num k (ch g k) k) with q | q | q
      · exfalso
        obtain ⟨s, s1, s2, s3⟩ := lex_k h1 hn q
        rcases brV_is (g := g) (k := k) (v := v0) with ⟨b1, b2⟩ | b
        · have := ch_lex (g := g) (y := dig k v0) s1 (fun t ht => dig_lt ht) b2 (fun i hi => by rw [s2 i hi]; exact hd i (by omega)) (by rw [← hd s s1]; exact s3)
          omega
        · omega
      · exact q
      · exfalso
        have := h6 _ q
        omega
    refine ⟨by omega, fun t ht => ?_⟩
    rw [h4 t ht, e]
    exact hd t ht
theorem scn_s {g : Nat → Nat → Nat} {k v mv : Nat} {D : Nat → Nat} (h : scn g k v mv D) (q : brV g k v ≤ mv) : scn g k (v + 1) mv D := by
  rcases h with ⟨h1, h2⟩ | ⟨v0, h1, h2, h3, h4, h5, h6⟩
  · refine Or.inl ⟨h1, fun w hw => ?_⟩
    by_cases e : w = v
    · subst e; omega
    · exact h2 w (by omega)
  · refine Or.inr ⟨v0, by omega, h2, h3, h4, fun w hw => ?_, h6⟩
    by_cases e : w = v
    · subst e; exact q
    · exact h5 w (by omega)
theorem scn_n {g : Nat → Nat → Nat} {k v mv : Nat} {D D' : Nat → Nat} (h : scn g k v mv D) (q : mv < brV g k v) (hD : ∀ t, t < k → D' t = dig k v t) : scn g k (v + 1) (brV g k v) D' := by
  refine Or.inr ⟨v, by omega, rfl, by omega, hD, fun w hw => ?_, fun w hw => ?_⟩
  · by_cases e : w = v
    · subst e; exact Nat.le_refl _
    · rcases h with ⟨h1, h2⟩ | ⟨v0, h1, h2, h3, h4, h5, h6⟩
      · rw [h2 w (by omega)]; omega
      · have := h5 w (by omega); omega
  · rcases h with ⟨h1, h2⟩ | ⟨v0, h1, h2, h3, h4, h5, h6⟩
    · rw [h2 w (by omega)]; omega
    · have := h5 w (by omega); omega
