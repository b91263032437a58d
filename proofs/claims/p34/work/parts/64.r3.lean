/-! ===== rings: the reference ===== -/
def aK : Nat → Nat → Prop := fun c _ => c ≠ 29
def b2 (b : Bool) : Int32 := if b = true then nI 1 else nI 0
def ncK (F : Nat → Int32) (r : Nat → Nat) (d : Nat) : Nat → Nat → Nat
  | 0, t => t
  | c + 1, t => if okT F r d t = true then t else ncK F r d c (t + 1)
theorem ncK_t {F : Nat → Int32} {r : Nat → Nat} {d c t : Nat} (h : okT F r d t = true) : ncK F r d (c + 1) t = t := by
  simp only [ncK]
  rw [if_pos h]
theorem ncK_f {F : Nat → Int32} {r : Nat → Nat} {d c t : Nat} (h : okT F r d t = false) : ncK F r d (c + 1) t = ncK F r d c (t + 1) := by
  simp only [ncK]
  rw [h]
  rfl
def nxI (k v : Nat) : Int32 := if v = k then -nI 1 else nI v
theorem ncK_is {F : Nat → Int32} {r : Nat → Nat} {d k : Nat} {S : (Nat → Nat) → Option (Nat → Nat)} : ∀ (c t : Nat), t + c = k → (ncK F r d c t = k ∧ lpK F S r d c t = none) ∨ (ncK F r d c t < k ∧ t ≤ ncK F r d c t ∧ okT F r d (ncK F r d c t) = true ∧ lpK F S r d c t = lpK F S r d (k - ncK F r d c t) (ncK F r d c t)) := by
  intro c
  induction c with
  | zero =>
    intro t h
    exact Or.inl ⟨by simp only [ncK]; omega, rfl⟩
  | succ c ih =>
    intro t h
    simp only [ncK]
    cases ho : okT F r d t with
    | true =>
      right
      rw [if_pos rfl]
      exact ⟨by omega, Nat.le_refl _, ho, by rw [show k - t = c + 1 by omega]⟩
    | false =>
      rw [if_neg (by decide), lpK_0 ho]
      rcases ih (t + 1) (by omega) with h1 | ⟨h1, h2, h3, h4⟩
      · exact Or.inl h1
      · exact Or.inr ⟨h1, by omega, h3, h4⟩
section MR
variable {M : Mem} {F : Nat → Int32} {k : Nat} {r : Nat → Nat}
end MR
theorem dec1 {d : Nat} (h : 1 ≤ d) : nI d + (-1 : Int32) = nI (d - 1) := by
  rw [← pk_sub h, Int32.sub_eq_add_neg]
  rfl
def cst : Nat → Nat → Nat
  | 0, c => c + 1
  | e + 1, c => c * (cst e 6 + 1) + 1
theorem cst_1 {e c : Nat} : 1 ≤ cst e c := by cases e <;> simp only [cst] <;> omega
theorem cst_m {e c c' : Nat} (h : c ≤ c') : cst e c ≤ cst e c' := by
  cases e with
  | zero => simp only [cst]; omega
  | succ e =>
    simp only [cst]
    have := Nat.mul_le_mul_right (cst e 6 + 1) h
    omega
