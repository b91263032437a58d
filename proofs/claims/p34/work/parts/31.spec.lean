/-! ===== the state, as numbers: F is a land laid flat (the reference's row 0 to 427) ===== -/
def pinsF (F : Nat → Int32) (r t : Nat) : Int32 := sumI (fun s => bitsI (F (r + 24 * t + s))) 24
def rightF (F : Nat → Int32) (d t b : Nat) : Int32 := sumI (fun s => bitsI (F (6 + 24 * d + s) &&& F (150 + 24 * t + (s + b) % 24))) 24
def dullF (F : Nat → Int32) (t : Nat) : Int32 := sumI (fun k => if F (294 + 12 * t + k) < F 421 then nI 0 else nI 1) 12
def owesF (F : Nat → Int32) (t : Nat) : Int32 := sumI (fun u => F (366 + 6 * t + u)) 6
def owedF (F : Nat → Int32) (t : Nat) : Int32 := sumI (fun u => F (366 + 6 * u + t)) 6
def owingF (F : Nat → Int32) : Int32 := sumI (fun k => if F (366 + k) ≤ nI 0 then nI 0 else nI 1) 36
def townF (F : Nat → Int32) (t : Nat) (w : Nat) : Int32 := match w with
  | 0 => F t
  | 1 => pinsF F 6 t
  | 2 => pinsF F 150 t
  | 3 => rightF F t t 0
  | 4 => pinsF F 6 t - rightF F t t 0
  | 5 => pinsF F 150 t - rightF F t t 0
  | 6 => owesF F t
  | 7 => owedF F t
  | 8 => F (402 + t)
  | 9 => F (408 + t)
  | 10 => F (414 + t)
  | _ => dullF F t
def sumTF (F : Nat → Int32) (k w : Nat) : Int32 := sumI (fun t => townF F t w) k
def countF (F : Nat → Int32) (k n : Nat) (w : Nat) : Int32 := match w with
  | 0 => nI k
  | 1 => sumTF F k 0 + sumTF F k 1
  | 2 => sumTF F k 0
  | 3 => sumTF F k 6
  | 4 => owingF F
  | 5 => F 424
  | 6 => F 425
  | 7 => F 426
  | 8 => F 427
  | 9 => sumTF F k 3
  | _ => nI n
def SI (F : Nat → Int32) (k : Nat) : Prop := k ≤ 6 ∧ F 423 = nI k ∧ (∀ i, 6 ≤ i → i < 294 → msk (F i)) ∧ (∃ r, r ≤ 24 ∧ F 420 = nI r) ∧ ∀ f t, f < 6 → t < 6 → (f = t ∨ k ≤ f ∨ k ≤ t) → F (366 + 6 * f + t) = nI 0
/-- the reference's memory holds the land F -/
def Mo (M : Mem) (F : Nat → Int32) : Prop := ∀ i, i < 428 → M.1 25 i = F i
