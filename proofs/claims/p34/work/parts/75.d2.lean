/-! ===== doubles: the bits of the share ===== -/
theorem nn_N {N : Nat} (h : N ≤ 9218868437227405312) : nn64 (UInt64.ofNat N) = true := by
  unfold nn64
  refine decide_eq_true ?_
  rw [UInt64.le_iff_toNat_le, UInt64.toNat_and]
  refine Nat.le_trans Nat.and_le_left ?_
  rw [UInt64.toNat_ofNat', Nat.mod_eq_of_lt (by omega)]
  exact h
theorem nn_e {E t : Nat} (hE : E ≤ 2046) (ht : t < 2 ^ 52) : nn64 (encN E t) = true := nn_N (by omega)
theorem dbl_e {E t : Nat} (h1 : 1 ≤ E) (h2 : E ≤ 1022) (ht : t < 2 ^ 52) : FP.dmul (encN E t) (4611686018427387904 : UInt64) = encN (E + 1) t := by
  show UInt64.ofNat (FP.Core.encode FP.Core.b64 (FP.Core.round FP.Core.b64 (FP.Core.exactProduct (FP.Core.decode FP.Core.b64 (encN E t).toNat) (FP.Core.decode FP.Core.b64 (4611686018427387904 : UInt64).toNat)))) = _
  rw [dec_e h1 (by omega) ht, show FP.Core.decode FP.Core.b64 (4611686018427387904 : UInt64).toNat = .fin false (2 ^ 52) (-51) by decide +kernel]
  show UInt64.ofNat (FP.Core.encode FP.Core.b64 (FP.Core.roundRatio FP.Core.b64 false ((2 ^ 52 + t) * 2 ^ 52) 1 (-1074 + ((E : Int) - 1) + -51))) = _
  rw [show (-1074 + ((E : Int) - 1) + -51) = (-1074 + (E : Int)) - ((52 : Nat) : Int) by omega, rr_z (by omega) (by omega) (by omega) (by omega), enc_f (by omega) (by omega) (by omega)]
  unfold encN
  rw [show (-1074 + (E : Int) + 1074).toNat + 1 = E + 1 by omega, show 2 ^ 52 + t - 2 ^ 52 = t by omega]
theorem cmp_0 {E t : Nat} (h1 : 1 ≤ E) (h2 : E ≤ 1023) (ht : t < 2 ^ 52) : FP.dcmp (encN E t) FP.dconst0 = some .gt := by
  show FP.Core.order (FP.Core.decode FP.Core.b64 (encN E t).toNat) (FP.Core.decode FP.Core.b64 (0 : UInt64).toNat) = _
  rw [dec_e h1 (by omega) ht, show FP.Core.decode FP.Core.b64 (0 : UInt64).toNat = .fin false 0 (-1074) by decide +kernel]
  unfold FP.Core.order FP.Core.signed FP.Core.inUnits
  dsimp only
  rw [if_neg (by decide), if_neg (by decide)]
  have p := Nat.two_pow_pos (-1074 + ((E : Int) - 1) - min (-1074 + ((E : Int) - 1)) (-1074)).toNat
  have hp : 0 < (2 ^ 52 + t) * 2 ^ (-1074 + ((E : Int) - 1) - min (-1074 + ((E : Int) - 1)) (-1074)).toNat := Nat.mul_pos (by omega) p
  rw [Nat.zero_mul]
  congr 1
  exact Int.compare_eq_gt.mpr (by omega)
theorem cmp_1 {E t : Nat} (h1 : 1 ≤ E) (h2 : E ≤ 1022) (ht : t < 2 ^ 52) : FP.dcmp (encN E t) FP.dconst1 = some .lt := by
  show FP.Core.order (FP.Core.decode FP.Core.b64 (encN E t).toNat) (FP.Core.decode FP.Core.b64 (0x3ff0000000000000 : UInt64).toNat) = _
  rw [dec_e h1 (by omega) ht, show FP.Core.decode FP.Core.b64 (0x3ff0000000000000 : UInt64).toNat = .fin false (2 ^ 52) (-52) by decide +kernel]
  unfold FP.Core.order FP.Core.signed FP.Core.inUnits
  dsimp only
  rw [if_neg (by decide), if_neg (by decide)]
  rw [show min (-1074 + ((E : Int) - 1)) (-52) = -1074 + ((E : Int) - 1) by omega, Int.sub_self, show (0 : Int).toNat = 0 from rfl, Nat.pow_zero, Nat.mul_one]
  obtain ⟨i, hi⟩ : ∃ i, (-52 - (-1074 + ((E : Int) - 1))).toNat = i + 1 := ⟨(-52 - (-1074 + ((E : Int) - 1))).toNat - 1, by omega⟩
  rw [hi, Nat.pow_succ]
  have p := Nat.two_pow_pos i
  have e1 := Nat.mul_le_mul_left (2 ^ 52) (show 2 ≤ 2 ^ i * 2 by omega)
  congr 1
  exact Int.compare_eq_lt.mpr (by omega)
theorem cmp_2 {t : Nat} (ht : t < 2 ^ 52) : 0 ≤ Op.cmpValue (FP.dcmp (encN 1023 t) FP.dconst1) .g := by
  have : FP.dcmp (encN 1023 t) FP.dconst1 = some (compare ((2 ^ 52 + t : Nat) : Int) ((2 ^ 52 : Nat) : Int)) := by
    show FP.Core.order (FP.Core.decode FP.Core.b64 (encN 1023 t).toNat) (FP.Core.decode FP.Core.b64 (0x3ff0000000000000 : UInt64).toNat) = _
    rw [dec_e (by omega) (by omega) ht, show FP.Core.decode FP.Core.b64 (0x3ff0000000000000 : UInt64).toNat = .fin false (2 ^ 52) (-52) by decide +kernel]
    unfold FP.Core.order FP.Core.signed FP.Core.inUnits
    dsimp only
    rw [if_neg (by decide), if_neg (by decide)]
    rw [show min (-1074 + (((1023 : Nat) : Int) - 1)) (-52) = -52 by omega, show (-1074 + (((1023 : Nat) : Int) - 1) - -52).toNat = 0 by omega, show (-52 - -52 : Int).toNat = 0 by omega, Nat.pow_zero, Nat.mul_one, Nat.mul_one]
  rw [this]
  by_cases z : t = 0
  · subst z
    rw [show compare ((2 ^ 52 + 0 : Nat) : Int) ((2 ^ 52 : Nat) : Int) = .eq from Int.compare_eq_eq.mpr rfl]
    decide
  · rw [show compare ((2 ^ 52 + t : Nat) : Int) ((2 ^ 52 : Nat) : Int) = .gt from Int.compare_eq_gt.mpr (by omega)]
    decide
