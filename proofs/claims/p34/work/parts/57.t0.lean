/-! ===== texts ===== -/
def ltr (x : Int32) : Nat := if x < nI 97 then 12 else if nI 109 ≤ x then 12 else x.toNatClampNeg - 97
theorem ltr_n {j : Nat} (h : j < 12) : ltr (nI (97 + j)) = j := by
  unfold ltr
  rw [if_neg (by rw [nI_ltI (by omega) (by omega)]; omega), if_neg (by rw [nI_leI (by omega) (by omega)]; omega), nI_clamp (by omega)]
  omega
theorem ltr_cs (x : Int32) : (ltr x = 12 ∧ (x < nI 97 ∨ nI 109 ≤ x)) ∨ ∃ j, j < 12 ∧ x = nI (97 + j) := by
  rcases pk_ix x (show 109 < 2 ^ 31 by omega) with q | q | ⟨j, hj, rfl⟩
  · have w : x < nI 97 := Int32.lt_of_lt_of_le q (by decide)
    exact Or.inl ⟨if_pos w, Or.inl w⟩
  · left
    refine ⟨?_, Or.inr q⟩
    unfold ltr
    by_cases w : x < nI 97
    · rw [if_pos w]
    · rw [if_neg w, if_pos q]
  · by_cases w : j < 97
    · have w' : nI j < nI 97 := (nI_ltI (by omega) (by omega)).mpr w
      exact Or.inl ⟨if_pos w', Or.inl w'⟩
    · exact Or.inr ⟨j - 97, by omega, by rw [show 97 + (j - 97) = j by omega]⟩
/-- reading: steps; open; next letter, letters, teeth; what was read -/
abbrev RS : Type := Nat × Bool × Nat × Nat × Nat × (Nat → Int32)
def stT (σ : RS) (x : Int32) : Option RS :=
  if σ.2.1 = false then
    (if σ.1 = 24 then none else if x = nI 40 then some (σ.1, true, 0, 0, 0, σ.2.2.2.2.2) else if x = nI 45 then some (σ.1 + 1, false, 0, 0, 0, va_up σ.2.2.2.2.2 σ.1 (nI 0)) else if ltr x < 12 then some (σ.1 + 1, false, 0, 0, 0, va_up σ.2.2.2.2.2 σ.1 (nI (2 ^ ltr x))) else none)
  else (if x = nI 41 then (if 2 ≤ σ.2.2.2.1 then some (σ.1 + 1, false, 0, 0, 0, va_up σ.2.2.2.2.2 σ.1 (nI σ.2.2.2.2.1)) else none)
    else if ltr x < 12 ∧ σ.2.2.1 ≤ ltr x ∧ ¬ (σ.2.2.2.1 = 0 ∧ ltr x = 11) then some (σ.1, true, ltr x + 1, σ.2.2.2.1 + 1, σ.2.2.2.2.1 ||| 2 ^ ltr x, σ.2.2.2.2.2) else none)
def rnT (B : Nat → Int32) : Nat → Nat → RS → Option RS × Nat
  | 0, i, σ => (some σ, i)
  | c + 1, i, σ => match stT σ (B i) with
    | none => (none, i)
    | some σ' => rnT B c (i + 1) σ'
def TI (σ : RS) : Prop := σ.1 ≤ 24 ∧ (σ.2.1 = true → σ.1 < 24 ∧ σ.2.2.2.2.1 < 2 ^ σ.2.2.1 ∧ σ.2.2.1 ≤ 12 ∧ σ.2.2.2.1 ≤ 12 ∧ bitsI (nI σ.2.2.2.2.1) = nI σ.2.2.2.1 ∧ (σ.2.2.2.1 = 0 ↔ σ.2.2.1 = 0) ∧ (σ.2.2.1 = 0 → σ.2.2.2.2.1 = 0) ∧ (0 < σ.2.2.1 → 2 ^ (σ.2.2.1 - 1) ≤ σ.2.2.2.2.1) ∧ σ.2.2.2.1 ≤ σ.2.2.1) ∧ ∀ i, i < σ.1 → msk (σ.2.2.2.2.2 i)
def Tx (M : Mem) (σ : RS) : Prop := M.1 2 3 = nI σ.1 ∧ M.1 2 4 = (if σ.2.1 = true then nI 1 else nI 0) ∧ (σ.2.1 = true → M.1 2 5 = nI σ.2.2.2.2.1) ∧ ∀ i, i < 24 → M.1 4 i = if i < σ.1 then σ.2.2.2.2.2 i else nI 0
def Tm (M : Mem) (σ : RS) : Prop := M.1 24 15 = nI σ.1 ∧ M.1 24 16 = (if σ.2.1 = true then nI 1 else nI 0) ∧ (σ.2.1 = true → M.1 24 17 = nI σ.2.2.1 - nI 1 ∧ M.1 24 18 = nI σ.2.2.2.1 ∧ M.1 30 σ.1 = nI σ.2.2.2.2.1) ∧ ∀ i, i < σ.1 → M.1 30 i = σ.2.2.2.2.2 i
theorem acl_in {f : Nat → Int32} : ∀ (c j : Nat) (a b : Int32), acl f c j (a + b) = acl f c j a + b := by
  intro c
  induction c with
  | zero => intros; rfl
  | succ c ih =>
    intro j a b
    show acl f c (j + 1) (a + b + f j) = acl f c (j + 1) (a + f j) + b
    rw [← ih (j + 1) (a + f j) b, Int32.add_assoc a b, Int32.add_comm b, ← Int32.add_assoc]
theorem acl_one {f g : Nat → Int32} {k : Nat} (h : ∀ i, i ≠ k → g i = f i) (h0 : f k = nI 0) (h1 : g k = nI 1) : ∀ (c j : Nat) (a : Int32), j ≤ k → k < j + c → acl g c j a = acl f c j a + nI 1 := by
  intro c
  induction c with
  | zero => intro j a q1 q2; omega
  | succ c ih =>
    intro j a q1 q2
    show acl g c (j + 1) (a + g j) = acl f c (j + 1) (a + f j) + nI 1
    by_cases e : j = k
    · subst e
      rw [h1, h0, ← acl_in, add0]
      exact acl_congr c (j + 1) _ (fun i a b => h i (by omega))
    · rw [h j e]
      exact ih (j + 1) _ (by omega) (by omega)
theorem bits_or {m j : Nat} (hm : m < 2 ^ j) (hj : j < 12) : bitsI (nI (m ||| 2 ^ j)) = bitsI (nI m) + nI 1 := by
  have h2 : 2 ^ j < 2 ^ 12 := Nat.pow_lt_pow_right (by decide) hj
  have h3 : m ||| 2 ^ j < 2 ^ 12 := Nat.or_lt_two_pow (by omega) h2
  have hf : ∀ i, 12 ≤ i → bitK (nI (m ||| 2 ^ j)) i = bitK (nI (m ||| 2 ^ j)) i := fun _ _ => rfl
  have key : ∀ i, i < 12 → bitK (nI (m ||| 2 ^ j)) i = if i = j then nI 1 else bitK (nI m) i := by
    intro i hi
    rw [bitK_t (by omega) hi, bitK_t (by omega) hi, Nat.testBit_or, Nat.testBit_two_pow]
    by_cases e : i = j
    · subst e; rw [if_pos rfl]; simp
    · rw [if_neg e, show decide (j = i) = false from decide_eq_false (fun q => e q.symm), Bool.or_false]
  have z : bitK (nI m) j = nI 0 := by
    rw [bitK_t (by omega) hj, Nat.testBit_lt_two_pow hm]; rfl
  have e1 : bitsI (nI (m ||| 2 ^ j)) = sumI (fun i => if i = j then nI 1 else bitK (nI m) i) 12 := sumI_congr key
  rw [e1]
  exact acl_one (f := bitK (nI m)) (fun i hi => if_neg hi) z (if_pos rfl) 12 0 (nI 0) (by omega) (by omega)
theorem or_in {m j : Nat} (hm : m < 2 ^ j) : m ||| 2 ^ j < 2 ^ (j + 1) ∧ 2 ^ j ≤ m ||| 2 ^ j := by
  have h1 : 2 ^ j < 2 ^ (j + 1) := Nat.pow_lt_pow_right (by decide) (by omega)
  exact ⟨Nat.or_lt_two_pow (by omega) h1, Nat.right_le_or⟩
theorem p12 {j : Nat} (h : j ≤ 12) : 2 ^ j ≤ 4096 := by
  rw [show 4096 = 2 ^ 12 from rfl]
  exact Nat.pow_le_pow_right (by decide) h
theorem stT_in {σ σ' : RS} {x : Int32} (h : TI σ) (e : stT σ x = some σ') : TI σ' := by
  obtain ⟨s, o, L, c, m, R⟩ := σ
  obtain ⟨h1, h2, h3⟩ := h
  have up : ∀ v, msk v → s < 24 → ∀ i, i < s + 1 → msk (va_up R s v i) := by
    intro v hv _ i hi
    by_cases e : i = s
    · subst e; rw [va_up_self]; exact hv
    · rw [va_up_ne _ _ e]; exact h3 i (by omega)
  unfold stT at e
  dsimp only at e h1 h2 h3
  cases o with
  | false =>
    rw [if_pos rfl] at e
    split at e
    · cases e
    split at e
    · injection e with e; subst e
      exact ⟨h1, fun _ => ⟨by dsimp only; omega, by dsimp only; decide, by dsimp only; omega, by dsimp only; omega, by dsimp only; decide +kernel, Iff.rfl, fun _ => rfl, fun q => by dsimp only at q; omega, Nat.le_refl _⟩, h3⟩
    split at e
    · injection e with e; subst e
      exact ⟨by dsimp only; omega, fun q => (by cases q), up _ msk0 (by omega)⟩
    split at e
    · rename_i q
      injection e with e; subst e
      exact ⟨by dsimp only; omega, fun q => (by cases q), up _ ⟨_, by have := Nat.pow_lt_pow_right (a := 2) (by decide) q; omega, rfl⟩ (by omega)⟩
    · cases e
  | true =>
    obtain ⟨g1, g2, g3, g4, g5, g6, g7, g8, g9⟩ := h2 rfl
    have hm : m < 4096 := Nat.lt_of_lt_of_le g2 (p12 g3)
    rw [if_neg (by decide)] at e
    split at e
    · split at e
      · injection e with e; subst e
        exact ⟨by dsimp only; omega, fun q => (by cases q), up _ ⟨m, hm, rfl⟩ g1⟩
      · cases e
    split at e
    · rename_i q
      obtain ⟨q1, q2, q3⟩ := q
      injection e with e; subst e
      have hmj : m < 2 ^ ltr x := Nat.lt_of_lt_of_le g2 (Nat.pow_le_pow_right (by decide) q2)
      refine ⟨h1, fun _ => ⟨g1, (or_in hmj).1, by dsimp only; omega, ?_, ?_, ?_, fun q => by dsimp only at q; omega, fun _ => (or_in hmj).2, by dsimp only; omega⟩, h3⟩
      · dsimp only
        omega
      · dsimp only
        rw [bits_or hmj q1, g5, nI_add]
      · dsimp only
        constructor <;> intro q <;> omega
    · cases e
