/-! ===== doubles ===== -/
def encN (E t : Nat) : UInt64 := UInt64.ofNat (2 ^ 52 * E + t)
theorem encN_n {E t : Nat} (hE : E ≤ 2046) (ht : t < 2 ^ 52) : (encN E t).toNat = 2 ^ 52 * E + t := by
  unfold encN
  rw [UInt64.toNat_ofNat', Nat.mod_eq_of_lt (by omega)]
theorem dec_e {E t : Nat} (h1 : 1 ≤ E) (hE : E ≤ 2046) (ht : t < 2 ^ 52) : FP.Core.decode FP.Core.b64 (encN E t).toNat = .fin false (2 ^ 52 + t) (-1074 + ((E : Int) - 1)) := by
  rw [encN_n hE ht]
  have a1 : FP.Core.fieldT FP.Core.b64 (2 ^ 52 * E + t) = t := by
    show (2 ^ 52 * E + t) % 2 ^ 52 = t
    omega
  have a2 : FP.Core.fieldE FP.Core.b64 (2 ^ 52 * E + t) = E := by
    show (2 ^ 52 * E + t) / 2 ^ 52 % 2 ^ 11 = E
    omega
  have a3 : FP.Core.fieldS FP.Core.b64 (2 ^ 52 * E + t) = false := by
    show ((2 ^ 52 * E + t) / 2 ^ 52 / 2 ^ 11 % 2 == 1) = false
    have : (2 ^ 52 * E + t) / 2 ^ 52 / 2 ^ 11 = 0 := by omega
    rw [this]
    rfl
  unfold FP.Core.decode
  rw [a1, a2, a3, if_neg (show ¬ E = FP.Core.Fmt.exps FP.Core.b64 - 1 from (show ¬ E = 2 ^ 11 - 1 by omega)), if_neg (by omega)]
  rfl
theorem enc_f {c : Nat} {q : Int} (h1 : 2 ^ 52 ≤ c) (h2 : c < 2 ^ 53) (hq : -1074 ≤ q) : FP.Core.encode FP.Core.b64 (.fin false c q) = 2 ^ 52 * ((q + 1074).toNat + 1) + (c - 2 ^ 52) := by
  show (if c < 2 ^ 52 then _ else ((false.toNat * 2 ^ 11 + ((q - (-1074)).toNat + 1)) * 2 ^ 52 + (c - 2 ^ 52))) = _
  rw [if_neg (by omega), show q - (-1074) = q + 1074 by omega]
  rw [show false.toNat = 0 from rfl, Nat.zero_mul, Nat.zero_add, Nat.mul_comm]
theorem log2_is {x k : Nat} (h1 : 2 ^ k ≤ x) (h2 : x < 2 ^ (k + 1)) : x.log2 = k := by
  have hx : x ≠ 0 := by have := Nat.two_pow_pos k; omega
  exact (Nat.log2_eq_iff hx).mpr ⟨h1, h2⟩
/-- a magnitude that has 53 digits, exactly -/
theorem settle_e {c : Nat} {q : Int} (h2 : c < 2 ^ 53) (hq : q ≤ 971) : FP.Core.settle FP.Core.b64 false c q = .fin false c q := by
  show (if c < 2 ^ 53 then (if q ≤ 971 then _ else _) else _) = _
  rw [if_pos h2, if_pos hq]
theorem rr_e {num : Nat} {e q : Int} {k : Nat} (h1 : 2 ^ k ≤ num) (h2 : num < 2 ^ (k + 1)) (hq : q = (k : Int) + e - 52) (hlo : -1074 ≤ q) (hhi : q ≤ 971) {c : Nat} (hc : FP.Core.nearest (FP.Core.unitsNum num e q) (FP.Core.unitsDen 1 e q) = c) (hc2 : c < 2 ^ 53) : FP.Core.roundRatio FP.Core.b64 false num 1 e = .fin false c q := by
  have hn : num ≠ 0 := by have := Nat.two_pow_pos k; omega
  have hl : FP.Core.leading num 1 = (k : Int) := by
    unfold FP.Core.leading
    rw [log2_is h1 h2, show Nat.log2 1 = 0 from rfl]
    have e1 : ((k : Int) - ((0 : Nat) : Int)).toNat = k := by omega
    have e2 : (-((k : Int) - ((0 : Nat) : Int))).toNat = 0 := by omega
    simp only [e1, e2]
    rw [if_pos (by omega)]
    omega
  have hqq : FP.Core.quantum FP.Core.b64 num 1 e = q := by
    show max (-1074 : Int) (FP.Core.leading num 1 + e - ((53 : Int) - 1)) = q
    rw [hl]
    omega
  unfold FP.Core.roundRatio
  rw [if_neg hn, hqq]
  unfold FP.Core.roundAt
  rw [hc]
  exact settle_e hc2 hhi
theorem near_1 {c d : Nat} (hd : 0 < d) : FP.Core.nearest (c * d) d = c := by
  unfold FP.Core.nearest
  rw [Nat.mul_mod_left, if_pos (by omega), Nat.mul_div_cancel _ hd]
/-- zeros behind -/
theorem rr_z {c i : Nat} {q : Int} (h1 : 2 ^ 52 ≤ c) (h2 : c < 2 ^ 53) (hlo : -1074 ≤ q) (hhi : q ≤ 971) : FP.Core.roundRatio FP.Core.b64 false (c * 2 ^ i) 1 (q - (i : Int)) = .fin false c q := by
  have p := Nat.two_pow_pos i
  refine rr_e (k := 52 + i) (q := q) ?_ ?_ (by omega) hlo hhi ?_ h2
  · rw [Nat.pow_add]; exact Nat.mul_le_mul_right _ h1
  · rw [show 52 + i + 1 = 53 + i by omega, Nat.pow_add]; exact Nat.mul_lt_mul_of_pos_right h2 p
  · unfold FP.Core.unitsNum FP.Core.unitsDen
    rw [show (q - (i : Int) - q).toNat = 0 by omega, show (q - (q - (i : Int))).toNat = i by omega, Nat.pow_zero, Nat.mul_one, Nat.one_mul]
    exact near_1 p
/-- digits too few -/
theorem rr_s {t k : Nat} {e : Int} (h1 : 2 ^ k ≤ t) (h2 : t < 2 ^ (k + 1)) (hk : k ≤ 52) (hlo : -1074 ≤ (k : Int) + e - 52) (hhi : e ≤ 0) : FP.Core.roundRatio FP.Core.b64 false t 1 e = .fin false (t * 2 ^ (52 - k)) ((k : Int) + e - 52) := by
  refine rr_e (k := k) h1 h2 rfl hlo (by omega) ?_ ?_
  · unfold FP.Core.unitsNum FP.Core.unitsDen
    rw [show (e - ((k : Int) + e - 52)).toNat = 52 - k by omega, show ((k : Int) + e - 52 - e).toNat = 0 by omega, Nat.pow_zero, Nat.mul_one]
    have := near_1 (c := t * 2 ^ (52 - k)) (d := 1) (by omega)
    rw [Nat.mul_one] at this
    exact this
  · have h3 : t * 2 ^ (52 - k) < 2 ^ (k + 1) * 2 ^ (52 - k) := Nat.mul_lt_mul_of_pos_right h2 (Nat.two_pow_pos _)
    rw [← Nat.pow_add, show k + 1 + (52 - k) = 53 by omega] at h3
    exact h3
