/-! ===== set, move, lend, repay ===== -/
theorem x_cd0 {M : Mem} {t : Nat} : f_X6_checkDifferent (nI t) (nI t) M = some (.inr exA, M) := if_pos rfl
theorem x_cd1 {M : Mem} {t u : Nat} (h : t ≠ u) (ht : t < 6) (hu : u < 6) : f_X6_checkDifferent (nI t) (nI u) M = some (.inl (), M) := if_neg (fun e => h ((nI_eq (by omega) (by omega)).mp e))
def lvN (t : Nat) : Nat := if t = 0 then 0 else 1
def gvN (t : Nat) : Nat := if t = 0 then 24 else if t = 1 then 100 else 999
theorem lv_e : ∀ t, t < 3 → lvT t = nI (lvN t) ∧ gvT t = nI (gvN t) ∧ lvN t < 2 ∧ gvN t < 1000 := by decide
theorem lc_set {t : Nat} (ht : t < 3) : 34 + lc (420 + t) = 36 ∧ lsl (420 + t) = t := by
  rcases (show t = 0 ∨ t = 1 ∨ t = 2 by omega) with rfl | rfl | rfl <;> exact ⟨rfl, rfl⟩
