/-! ===== pure: sums, bits ===== -/
-- sums as the loops make them
def acl (f : Nat → Int32) : Nat → Nat → Int32 → Int32
  | 0, _, a => a
  | c + 1, j, a => acl f c (j + 1) (a + f j)
def sumI (f : Nat → Int32) (n : Nat) : Int32 := acl f n 0 (nI 0)
theorem acl_congr {f g : Nat → Int32} : ∀ (c j : Nat) (a : Int32), (∀ i, j ≤ i → i < j + c → f i = g i) → acl f c j a = acl g c j a := by
  intro c
  induction c with
  | zero => intros; rfl
  | succ c ih =>
    intro j a h
    show acl f c (j + 1) (a + f j) = acl g c (j + 1) (a + g j)
    rw [h j (Nat.le_refl _) (by omega)]
    exact ih (j + 1) _ (fun i h1 h2 => h i (by omega) (by omega))
theorem sumI_congr {f g : Nat → Int32} {n : Nat} (h : ∀ i, i < n → f i = g i) : sumI f n = sumI g n := acl_congr n 0 _ (fun i _ h2 => h i (by omega))
/-- bit k of v -/
def bitK (v : Int32) (k : Nat) : Int32 := (v >>> (nI k &&& 31)) &&& 1
/-- the bits 0 to 11, counted -/
def bitsI (v : Int32) : Int32 := sumI (bitK v) 12
/-- a mask of twelve teeth -/
def msk (v : Int32) : Prop := ∃ n, n < 4096 ∧ v = nI n
def popJ (v : Int32) : Int32 := match f_J6_bitCount_0f7a4 v (fun _ _ => 0, fun _ => 0) with
  | some (w, _) => w
  | none => 0
theorem j_bit (v : Int32) (M : Mem) : f_J6_bitCount_0f7a4 v M = some (popJ v, M) := rfl
theorem popJ_a : ∀ a, a < 64 → ∀ b, b < 64 → popJ (nI (64 * a + b)) = bitsI (nI (64 * a + b)) := by decide +kernel
theorem popJ_m {v : Int32} (h : msk v) : popJ v = bitsI v := by
  obtain ⟨n, hn, rfl⟩ := h
  have := popJ_a (n / 64) (by omega) (n % 64) (by omega)
  rwa [show 64 * (n / 64) + n % 64 = n by omega] at this
