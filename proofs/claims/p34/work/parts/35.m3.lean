/-! ===== the reference: copies, saved states ===== -/
def nx (n : Nat) : Nat := if n < 6 then n + 1 else 6
def pushS (F : Nat → Int32) (n : Nat) (Sv : Nat → Nat → Int32) : Nat → Nat → Int32 := fun j i => if n < 6 then (if j = n then F i else Sv j i) else (if j = 5 then F i else Sv (j + 1) i)
/-- the reference's memory holds the land F and n saved ones -/
def Ms (M : Mem) (F : Nat → Int32) (n : Nat) (Sv : Nat → Nat → Int32) : Prop := Mo M F ∧ M.1 24 1 = nI n ∧ n ≤ 6 ∧ ∀ j i, j < n → i < 428 → M.1 25 (428 + 428 * j + i) = Sv j i
