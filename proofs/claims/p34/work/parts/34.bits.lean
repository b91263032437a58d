/-! ===== bits of masks ===== -/
def bit (k : Nat) : Int32 := (1 : Int32) <<< (nI k &&& 31)
def nbit (k : Nat) : Int32 := bit k ^^^ (-1)
theorem nI_and (a b : Nat) : nI a &&& nI b = nI (a &&& b) := by
  apply Int32.toBitVec_inj.mp
  show BitVec.ofNat 32 a &&& BitVec.ofNat 32 b = BitVec.ofNat 32 (a &&& b)
  apply BitVec.eq_of_toNat_eq
  simp [Nat.and_mod_two_pow]
theorem nI_or (a b : Nat) : nI a ||| nI b = nI (a ||| b) := by
  apply Int32.toBitVec_inj.mp
  show BitVec.ofNat 32 a ||| BitVec.ofNat 32 b = BitVec.ofNat 32 (a ||| b)
  apply BitVec.eq_of_toNat_eq
  simp [Nat.or_mod_two_pow]
theorem nI_xor (a b : Nat) : nI a ^^^ nI b = nI (a ^^^ b) := by
  apply Int32.toBitVec_inj.mp
  show BitVec.ofNat 32 a ^^^ BitVec.ofNat 32 b = BitVec.ofNat 32 (a ^^^ b)
  apply BitVec.eq_of_toNat_eq
  simp [Nat.xor_mod_two_pow]
theorem bit_n : ∀ k, k < 12 → bit k = nI (2 ^ k) := by decide +kernel
theorem nbit_n : ∀ k, k < 12 → nbit k = nI (4294967295 ^^^ 2 ^ k) := by decide +kernel
theorem smod_k : ∀ k, k < 12 → ((nI k &&& 31).toBitVec.smod 32).toNat = k := by decide +kernel
theorem bitK_n {n k : Nat} (hn : n < 2 ^ 31) (hk : k < 12) : bitK (nI n) k = nI (n / 2 ^ k % 2) := by
  unfold bitK
  rw [pk_shrN hn _ k (smod_k k hk), pk_andN (by have := Nat.div_le_self n (2 ^ k); omega) 1 (by decide)]
theorem bitK_t {n k : Nat} (hn : n < 2 ^ 31) (hk : k < 12) : bitK (nI n) k = if n.testBit k = true then nI 1 else nI 0 := by
  rw [bitK_n hn hk, Nat.testBit_eq_decide_div_mod_eq]
  rcases Nat.mod_two_eq_zero_or_one (n / 2 ^ k) with h | h <;> rw [h] <;> rfl
theorem and_pow {n k : Nat} : (n &&& 2 ^ k = 0) ↔ n.testBit k = false := by
  constructor
  · intro h
    have := congrArg (fun m => Nat.testBit m k) h
    simpa [Nat.testBit_and, Nat.testBit_two_pow_self] using this
  · intro h
    apply Nat.eq_of_testBit_eq
    intro i
    rw [Nat.testBit_and, Nat.testBit_two_pow, Nat.zero_testBit]
    by_cases q : k = i
    · subst q; simp [h]
    · simp [q]
theorem lt_of_bits {n m : Nat} (h : ∀ i, 12 ≤ i → n.testBit i = false) (hm : m = 12) : n < 2 ^ m := by
  subst hm
  exact Nat.lt_pow_two_of_testBit n h
theorem tb_hi {n i : Nat} (hn : n < 4096) (hi : 12 ≤ i) : n.testBit i = false := Nat.testBit_lt_two_pow (Nat.lt_of_lt_of_le hn (by rw [show 4096 = 2 ^ 12 from rfl]; exact Nat.pow_le_pow_right (by decide) hi))
theorem B1 {v : Int32} (hv : msk v) {k : Nat} (hk : k < 12) : (v &&& bit k = nI 0) ↔ bitK v k = nI 0 := by
  obtain ⟨n, hn, rfl⟩ := hv
  have h2 : 2 ^ k < 4096 := by
    have := Nat.pow_lt_pow_right (a := 2) (by decide) hk
    omega
  have h3 : n &&& 2 ^ k < 2 ^ 31 := Nat.lt_of_le_of_lt Nat.and_le_left (by omega)
  rw [bit_n k hk, nI_and, bitK_t (by omega) hk, nI_eq h3 (by omega), and_pow]
  cases n.testBit k
  · simp
  · simp [n10]
theorem tb_nb {k i : Nat} (hk : k < 12) (hi : i < 12) : (4294967295 ^^^ 2 ^ k).testBit i = !decide (k = i) := by
  rw [Nat.testBit_xor, Nat.testBit_two_pow, show 4294967295 = 2 ^ 32 - 1 from rfl, Nat.testBit_two_pow_sub_one]
  simp [show i < 32 by omega]
theorem B2 {v : Int32} (hv : msk v) {k j : Nat} (hk : k < 12) (hj : j < 12) : bitK (v &&& nbit k) j = if j = k then nI 0 else bitK v j := by
  obtain ⟨n, hn, rfl⟩ := hv
  have h3 : n &&& (4294967295 ^^^ 2 ^ k) < 2 ^ 31 := Nat.lt_of_le_of_lt Nat.and_le_left (by omega)
  rw [nbit_n k hk, nI_and, bitK_t h3 hj, bitK_t (by omega) hj, Nat.testBit_and, tb_nb hk hj]
  by_cases q : j = k
  · subst q; simp
  · simp [q, Ne.symm q]
theorem msk_and {v w : Int32} (hv : msk v) : msk (v &&& w) := by
  obtain ⟨n, hn, rfl⟩ := hv
  refine ⟨n &&& w.toBitVec.toNat, Nat.lt_of_le_of_lt Nat.and_le_left hn, ?_⟩
  rw [← nI_and]
  congr 1
  apply Int32.toBitVec_inj.mp
  show w.toBitVec = BitVec.ofNat 32 w.toBitVec.toNat
  simp
theorem msk_or {v : Int32} (hv : msk v) {k : Nat} (hk : k < 12) : msk (v ||| bit k) := by
  obtain ⟨n, hn, rfl⟩ := hv
  refine ⟨n ||| 2 ^ k, ?_, by rw [bit_n k hk, nI_or]⟩
  exact Nat.or_lt_two_pow (n := 12) hn (Nat.pow_lt_pow_right (by decide) hk)
theorem msk0 : msk (nI 0) := ⟨0, by decide, rfl⟩
theorem msk_bit {k : Nat} (hk : k < 12) : msk (bit k) := ⟨2 ^ k, by have := Nat.pow_lt_pow_right (a := 2) (by decide) hk; omega, bit_n k hk⟩
/-- a bit is changed: put in where it wasn't, taken out where it was -/
theorem B4i {v : Int32} (hv : msk v) {k : Nat} (hk : k < 12) (h : bitK v k = nI 0) : v ^^^ bit k = v ||| bit k := by
  obtain ⟨n, hn, rfl⟩ := hv
  rw [bitK_t (by omega) hk] at h
  have ht : n.testBit k = false := by
    cases q : n.testBit k
    · rfl
    · rw [q, if_pos rfl, n10] at h; exact h.elim
  rw [bit_n k hk, nI_or, nI_xor]
  congr 1
  apply Nat.eq_of_testBit_eq
  intro i
  rw [Nat.testBit_xor, Nat.testBit_or, Nat.testBit_two_pow]
  by_cases q : k = i
  · subst q; simp [ht]
  · simp [q]
theorem B4o {v : Int32} (hv : msk v) {k : Nat} (hk : k < 12) (h : ¬ bitK v k = nI 0) : v ^^^ bit k = v &&& nbit k := by
  obtain ⟨n, hn, rfl⟩ := hv
  rw [bitK_t (by omega) hk] at h
  have ht : n.testBit k = true := by
    cases q : n.testBit k
    · rw [q] at h; exact absurd rfl h
    · rfl
  rw [bit_n k hk, nbit_n k hk, nI_and, nI_xor]
  congr 1
  apply Nat.eq_of_testBit_eq
  intro i
  rw [Nat.testBit_xor, Nat.testBit_and, Nat.testBit_two_pow]
  by_cases hi : i < 12
  · rw [tb_nb hk hi]
    by_cases q : k = i
    · subst q; simp [ht]
    · simp [q]
  · rw [tb_hi hn (by omega)]
    simp [show ¬ k = i by omega]
