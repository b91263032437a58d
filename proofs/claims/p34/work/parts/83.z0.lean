/-! ===== sums and bits, further ===== -/
theorem up_map {α β : Type} {g : Nat → α → β} {f : Nat → α} {i0 : Nat} {v : α} : (fun i => g i (va_up f i0 v i)) = va_up (fun i => g i (f i)) i0 (g i0 v) := by
  funext i
  by_cases e : i = i0
  · subst e; rw [va_up_self, va_up_self]
  · rw [va_up_ne _ _ e, va_up_ne _ _ e]
theorem i_ac (a b c : Int32) : a + b + c = a + c + b := by rw [Int32.add_assoc, Int32.add_comm b, ← Int32.add_assoc]
theorem i_sc (a b : Int32) : a + (b - a) = b := by rw [Int32.add_comm, Int32.sub_add_cancel]
theorem acl_up {f : Nat → Int32} {i : Nat} {v : Int32} : ∀ (c j : Nat) (a : Int32), j ≤ i → i < j + c → acl (va_up f i v) c j a = acl f c j a + (v - f i) := by
  intro c
  induction c with
  | zero => intro j a h1 h2; omega
  | succ c ih =>
    intro j a h1 h2
    show acl (va_up f i v) c (j + 1) (a + va_up f i v j) = acl f c (j + 1) (a + f j) + (v - f i)
    by_cases e : j = i
    · subst e
      rw [va_up_self, ← acl_in, Int32.add_assoc a (f j), i_sc]
      exact acl_congr c (j + 1) _ (fun x a b => va_up_ne _ _ (by omega))
    · rw [va_up_ne _ _ e]
      exact ih (j + 1) _ (by omega) (by omega)
theorem sumI_up {f : Nat → Int32} {i N : Nat} {v : Int32} (h : i < N) : sumI (va_up f i v) N = sumI f N + (v - f i) := acl_up N 0 _ (Nat.zero_le _) (by omega)
theorem acl_plus {f g : Nat → Int32} : ∀ (c j : Nat) (a b : Int32), acl (fun i => f i + g i) c j (a + b) = acl f c j a + acl g c j b := by
  intro c
  induction c with
  | zero => intros; rfl
  | succ c ih =>
    intro j a b
    show acl (fun i => f i + g i) c (j + 1) (a + b + (f j + g j)) = acl f c (j + 1) (a + f j) + acl g c (j + 1) (b + g j)
    rw [← ih (j + 1) (a + f j) (b + g j)]
    congr 1
    rw [Int32.add_assoc, Int32.add_assoc, ← Int32.add_assoc b, Int32.add_comm b, Int32.add_assoc (f j)]
theorem sumI_plus {f g : Nat → Int32} {n : Nat} : sumI (fun i => f i + g i) n = sumI f n + sumI g n := by
  have := acl_plus (f := f) (g := g) n 0 (nI 0) (nI 0)
  rw [nI_add] at this
  exact this
theorem sumI_s {f : Nat → Int32} {n : Nat} : sumI f (n + 1) = sumI f n + f n := by
  show acl f (n + 1) 0 (nI 0) = acl f n 0 (nI 0) + f n
  rw [acl_add n 1 0, Nat.zero_add]
  rfl
theorem sumI_0 {f : Nat → Int32} : sumI f 0 = nI 0 := rfl
theorem B3 {v : Int32} (hv : msk v) {k j : Nat} (hk : k < 12) (hj : j < 12) : bitK (v ||| bit k) j = if j = k then nI 1 else bitK v j := by
  obtain ⟨n, hn, rfl⟩ := hv
  have h2 : 2 ^ k < 2 ^ 12 := Nat.pow_lt_pow_right (by decide) hk
  have h3 : n ||| 2 ^ k < 2 ^ 12 := Nat.or_lt_two_pow hn h2
  rw [bit_n k hk, nI_or, bitK_t (by omega) hj, bitK_t (by omega) hj, Nat.testBit_or, Nat.testBit_two_pow]
  by_cases q : j = k
  · subst q; simp
  · simp [q, Ne.symm q]
theorem bits_in {v : Int32} (hv : msk v) {k : Nat} (hk : k < 12) (h : bitK v k = nI 0) : bitsI (v ||| bit k) = bitsI v + nI 1 := by
  have e : bitsI (v ||| bit k) = sumI (va_up (bitK v) k (nI 1)) 12 := sumI_congr (fun j hj => by
    rw [B3 hv hk hj]
    by_cases q : j = k
    · subst q; rw [if_pos rfl, va_up_self]
    · rw [if_neg q, va_up_ne _ _ q])
  rw [e, sumI_up hk, h]
  rfl
theorem bits_out {v : Int32} (hv : msk v) {k : Nat} (hk : k < 12) : bitsI (v &&& nbit k) = bitsI v - bitK v k := by
  have e : bitsI (v &&& nbit k) = sumI (va_up (bitK v) k (nI 0)) 12 := sumI_congr (fun j hj => by
    rw [B2 hv hk hj]
    by_cases q : j = k
    · subst q; rw [if_pos rfl, va_up_self]
    · rw [if_neg q, va_up_ne _ _ q])
  rw [e, sumI_up hk, show nI 0 - bitK v k = -bitK v k from Int32.zero_sub _, ← Int32.sub_eq_add_neg]
  rfl
theorem and_sw (v u w : Int32) : (v &&& w) &&& u = (v &&& u) &&& w := by rw [Int32.and_assoc, Int32.and_comm w, ← Int32.and_assoc]
theorem bitK_and {v u : Int32} (hv : msk v) (hu : msk u) {k : Nat} (hk : k < 12) : bitK (v &&& u) k = if bitK v k = nI 0 then nI 0 else bitK u k := by
  obtain ⟨a, ha, rfl⟩ := hv
  obtain ⟨b, hb, rfl⟩ := hu
  have hab : a &&& b < 2 ^ 31 := Nat.lt_of_le_of_lt Nat.and_le_left (by omega)
  rw [nI_and, bitK_t hab hk, bitK_t (by omega) hk, bitK_t (by omega) hk, Nat.testBit_and]
  cases a.testBit k <;> cases b.testBit k <;> rfl
theorem bit_z {v : Int32} {k : Nat} (h : ¬ bitK v k = nI 0) : bitK v k = nI 1 := (bitK01 v k).resolve_left h
theorem msk_ex {v u : Int32} (hv : msk v) (hu : msk u) (h : ∀ k, k < 12 → bitK v k = bitK u k) : v = u := by
  obtain ⟨a, ha, rfl⟩ := hv
  obtain ⟨b, hb, rfl⟩ := hu
  congr 1
  apply Nat.eq_of_testBit_eq
  intro i
  by_cases q : i < 12
  · have := h i q
    rw [bitK_t (by omega) q, bitK_t (by omega) q] at this
    cases ea : a.testBit i <;> cases eb : b.testBit i
    · rfl
    · rw [ea, eb] at this; exact absurd this (by decide)
    · rw [ea, eb] at this; exact absurd this (by decide)
    · rfl
  · rw [tb_hi ha (by omega), tb_hi hb (by omega)]
theorem i_ac3 (a b : Int32) : a - b - a + b = 0 := by
  rw [Int32.sub_eq_add_neg (a - b), i_ac, Int32.sub_add_cancel, ← Int32.sub_eq_add_neg, Int32.sub_self]
/-- pins of a drum; its right pins -/
def pinS (D : Nat → Int32) : Int32 := sumI (fun i => bitsI (D i)) 24
def rigS (D T : Nat → Int32) : Int32 := sumI (fun i => bitsI (D i &&& T i)) 24
theorem pinS_up {D : Nat → Int32} {s : Nat} {v : Int32} (hs : s < 24) : pinS (va_up D s v) = pinS D + (bitsI v - bitsI (D s)) := by
  unfold pinS
  rw [up_map (g := fun _ x => bitsI x)]
  exact sumI_up hs
theorem rigS_up {D T : Nat → Int32} {s : Nat} {v : Int32} (hs : s < 24) : rigS (va_up D s v) T = rigS D T + (bitsI (v &&& T s) - bitsI (D s &&& T s)) := by
  unfold rigS
  rw [up_map (g := fun i x => bitsI (x &&& T i))]
  exact sumI_up hs
theorem pinS_in {D : Nat → Int32} {s k : Nat} (hs : s < 24) (hk : k < 12) (hm : msk (D s)) (h : bitK (D s) k = nI 0) : pinS (va_up D s (D s ||| bit k)) = pinS D + nI 1 := by
  rw [pinS_up hs, bits_in hm hk h, Int32.add_comm (bitsI (D s)), Int32.add_sub_cancel]
theorem pinS_out {D : Nat → Int32} {s k : Nat} (hs : s < 24) (hk : k < 12) (hm : msk (D s)) (h : ¬ bitK (D s) k = nI 0) : pinS (va_up D s (D s &&& nbit k)) + nI 1 = pinS D := by
  rw [pinS_up hs, bits_out hm hk, bit_z h, Int32.add_assoc, i_ac3]
  exact Int32.add_zero _
theorem rigS_out {D T : Nat → Int32} {s k : Nat} (hs : s < 24) (hk : k < 12) (hm : msk (D s)) (hT : msk (T s)) (h : ¬ bitK (D s) k = nI 0) : rigS (va_up D s (D s &&& nbit k)) T + bitK (T s) k = rigS D T := by
  rw [rigS_up hs, and_sw, bits_out (msk_and hm) hk, bitK_and hm hT hk, if_neg h, Int32.add_assoc, i_ac3]
  exact Int32.add_zero _
