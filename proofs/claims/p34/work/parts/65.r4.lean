/-! ===== rings: the reference finds ===== -/
theorem cst_max : cst 0 6 < 100000 ∧ cst 1 6 < 100000 ∧ cst 2 6 < 100000 ∧ cst 3 6 < 100000 ∧ cst 4 6 < 100000 := by decide
theorem cst_ok {all k : Nat} (h2 : 2 ≤ all) (h : all ≤ 6) (hk : k ≤ 6) : cst (all - 2) k < FU := by
  refine Nat.lt_of_le_of_lt (cst_m hk) ?_
  show cst (all - 2) 6 < 100000
  obtain ⟨c0, c1, c2, c3, c4⟩ := cst_max
  rcases (show all = 2 ∨ all = 3 ∨ all = 4 ∨ all = 5 ∨ all = 6 by omega) with rfl | rfl | rfl | rfl | rfl
  · exact c0
  · exact c1
  · exact c2
  · exact c3
  · exact c4
def aG : Nat → Nat → Prop := fun c i => c ≠ 29 ∧ ¬ (c = 24 ∧ i = 13)
def Mg (M : Mem) (o : Option (Nat × (Nat → Nat))) : Prop := (o = none ∧ M.1 24 13 = nI 0) ∨ ∃ z x, o = some (z, x) ∧ M.1 24 13 = nI z ∧ ∀ i, i < z → M.1 29 i = nI (x i)
section MG
variable {F : Nat → Int32} {k z : Nat}
variable {x : Nat → Nat}
theorem m_fol {M : Mem} (hz : z ≤ 6) (hR : ∀ i, i < z → M.1 29 i = nI (x i)) {i : Nat} (hi : i < z) : M.1 29 ((i + 1) % z) = nI (fol x z i) := by
  unfold fol
  by_cases q : i + 1 < z
  · rw [if_pos q, Nat.mod_eq_of_lt q]; exact hR _ q
  · rw [if_neg q, show i + 1 = z by omega, Nat.mod_self]; exact hR 0 (by omega)
end MG
