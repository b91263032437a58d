/-! ===== the best trades: the reference ===== -/
theorem bI_le2 {a v : Nat} (ha : a < 2 ^ 30) (hv : v < 2 ^ 30) : (nI a - nI 1 ≤ nI v - nI 1) ↔ a ≤ v := by
  by_cases z : a = 0
  · subst z
    by_cases w : v = 0
    · subst w
      exact ⟨fun _ => Nat.le_refl _, fun _ => Int32.le_refl _⟩
    · refine ⟨fun _ => Nat.zero_le _, fun _ => ?_⟩
      rw [pk_sub (show 1 ≤ v by omega)]
      exact Int32.le_of_lt (Int32.lt_of_lt_of_le (show nI 0 - nI 1 < nI 0 by decide) (by rw [nI_leI (by omega) (by omega)]; omega))
  · rw [pk_sub (show 1 ≤ a by omega)]
    rw [bI_le (by omega) hv]
    omega
def aV : Nat → Nat → Prop := fun c _ => c < 31 ∨ 34 ≤ c
section BM
variable {F : Nat → Int32} {k : Nat}
def rgO (M : Mem) (F : Nat → Int32) (k : Nat) : Prop := M.1 25 423 = nI k ∧ ∀ t d, t < k → d < k → M.1 31 (6 * t + d) = nI (gF F t d)
theorem brV_bd (v : Nat) (hk : k ≤ 6) : brV (gF F) k v ≤ 1729 := by
  have := brV_le (g := gF F) (k := k) (v := v)
  have := opt_bd (k := k) (fun t d => (gF_is F t d).2) k 0 0
  omega
def tdV (F : Nat → Int32) (k w : Nat) : Int32 := if w = 0 then nI (opt (gF F) k k 0 0) else if w - 10 < k then nI (ch (gF F) k (w - 10)) else -nI 1
theorem kk {k : Nat} (hk : k ≤ 6) : k ^ k < 60000 ∧ ∀ t, t ≤ k → k ^ t < 60000 := by
  have h : ∀ k, k < 7 → ∀ t, t < 7 → k ^ t < 60000 := by decide
  exact ⟨h k (by omega) k (by omega), fun t ht => h k (by omega) t (by omega)⟩
end BM
