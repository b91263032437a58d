/-! ===== doubles: the share ===== -/
def cX (n : Nat) : Nat := n * 2 ^ (52 - n.log2)
theorem lg_is {n : Nat} (h1 : 1 ≤ n) (h2 : n ≤ 1728) : 2 ^ n.log2 ≤ n ∧ n < 2 ^ (n.log2 + 1) ∧ n.log2 ≤ 10 := by
  have h0 : n ≠ 0 := by omega
  refine ⟨Nat.log2_self_le h0, Nat.lt_log2_self, ?_⟩
  have : n.log2 < 11 := (Nat.log2_lt h0).mpr (by omega)
  omega
theorem cX_b {n : Nat} (h1 : 1 ≤ n) (h2 : n ≤ 1728) : 2 ^ 52 ≤ cX n ∧ cX n < 2 ^ 53 := by
  obtain ⟨a, b, c⟩ := lg_is h1 h2
  unfold cX
  have p := Nat.two_pow_pos (52 - n.log2)
  have e1 := Nat.mul_le_mul_right (2 ^ (52 - n.log2)) a
  have e2 := Nat.mul_lt_mul_of_pos_right b p
  rw [← Nat.pow_add, show n.log2 + (52 - n.log2) = 52 by omega] at e1
  rw [← Nat.pow_add, show n.log2 + 1 + (52 - n.log2) = 53 by omega] at e2
  exact ⟨e1, e2⟩
theorem nI_int {n : Nat} (h : n < 2 ^ 30) : (nI n).toInt = (n : Int) := by
  have := pk_sub_toInt (a := n) (b := 0) h (by omega)
  rw [pk_sub (Nat.zero_le n), Nat.sub_zero] at this
  rw [this]
  omega
theorem i2d_n {n : Nat} (h1 : 1 ≤ n) (h2 : n ≤ 1728) : FP.i2d (nI n) = encN (1023 + n.log2) (cX n - 2 ^ 52) := by
  obtain ⟨a, b, c⟩ := lg_is h1 h2
  obtain ⟨c1, c2⟩ := cX_b h1 h2
  show UInt64.ofNat (FP.Core.encode FP.Core.b64 (FP.Core.roundRatio FP.Core.b64 (decide ((nI n).toInt < 0)) (nI n).toInt.natAbs 1 0)) = _
  rw [nI_int (by omega), show decide ((n : Int) < 0) = false from decide_eq_false (by omega), show ((n : Int)).natAbs = n from rfl, rr_s a b (by omega) (by omega) (by omega)]
  rw [show n * 2 ^ (52 - n.log2) = cX n from rfl, enc_f c1 c2 (by omega)]
  unfold encN
  rw [show ((n.log2 : Int) + 0 - 52 + 1074).toNat + 1 = 1023 + n.log2 by omega]
theorem dec_X {n : Nat} (h1 : 1 ≤ n) (h2 : n ≤ 1728) : FP.Core.decode FP.Core.b64 (FP.i2d (nI n)).toNat = .fin false (cX n) ((n.log2 : Int) - 52) := by
  obtain ⟨a, b, c⟩ := lg_is h1 h2
  obtain ⟨c1, c2⟩ := cX_b h1 h2
  rw [i2d_n h1 h2, dec_e (by omega) (by omega) (by omega), show 2 ^ 52 + (cX n - 2 ^ 52) = cX n by omega, show (-1074 + (((1023 + n.log2 : Nat) : Int) - 1)) = (n.log2 : Int) - 52 by omega]
theorem near_b (n d : Nat) : n / d ≤ FP.Core.nearest n d ∧ FP.Core.nearest n d ≤ n / d + 1 := by
  unfold FP.Core.nearest
  split
  · omega
  · split <;> omega
theorem rr_d {c d : Nat} {e : Int} (hc1 : 2 ^ 52 ≤ c) (hc2 : c < 2 ^ 53) (hd1 : 2 ^ 52 ≤ d) (hd2 : d < 2 ^ 53) (he : -10 ≤ e) (he0 : e ≤ 0) (hcd : e = 0 → c ≤ d) : ∃ c' q', FP.Core.roundRatio FP.Core.b64 false c d e = .fin false c' q' ∧ 2 ^ 52 ≤ c' ∧ c' < 2 ^ 53 ∧ -80 ≤ q' ∧ q' ≤ -52 := by
  have hk : (-((52 : Nat) : Int) + ((52 : Nat) : Int)) = 0 := by omega
  have lead : FP.Core.leading c d = if d ≤ c then 0 else -1 := by
    unfold FP.Core.leading
    rw [log2_is (k := 52) hc1 hc2, log2_is (k := 52) hd1 hd2]
    simp only [show (((52 : Nat) : Int) - ((52 : Nat) : Int)) = 0 by omega, show (-(0 : Int)) = 0 by omega, show (0 : Int).toNat = 0 from rfl, Nat.pow_zero, Nat.mul_one]
    by_cases q : d ≤ c
    · rw [if_pos q, if_pos q]
    · rw [if_neg q, if_neg q]; omega
  have body : ∀ (q : Int) (i : Nat), FP.Core.leading c d + e - 52 = q → q = e - (i : Int) → -100 ≤ q → 2 ^ 52 * d ≤ c * 2 ^ i → c * 2 ^ i < 2 ^ 53 * d → (q ≤ -53 ∨ (q = -52 ∧ FP.Core.nearest (c * 2 ^ i) d < 2 ^ 53)) → -80 ≤ q → ∃ c' q', FP.Core.roundRatio FP.Core.b64 false c d e = .fin false c' q' ∧ 2 ^ 52 ≤ c' ∧ c' < 2 ^ 53 ∧ -80 ≤ q' ∧ q' ≤ -52 := by
    intro q i h1 h2 h3 h4 h5 h6 h7
    have hqq : FP.Core.quantum FP.Core.b64 c d e = q := by
      show max (-1074 : Int) (FP.Core.leading c d + e - ((53 : Int) - 1)) = q
      omega
    have hun : FP.Core.unitsNum c e q = c * 2 ^ i := by
      unfold FP.Core.unitsNum
      rw [show (e - q).toNat = i by omega]
    have hud : FP.Core.unitsDen d e q = d := by
      unfold FP.Core.unitsDen
      rw [show (q - e).toNat = 0 by omega, Nat.pow_zero, Nat.mul_one]
    have hr : FP.Core.roundRatio FP.Core.b64 false c d e = FP.Core.settle FP.Core.b64 false (FP.Core.nearest (c * 2 ^ i) d) q := by
      unfold FP.Core.roundRatio
      rw [if_neg (by omega), hqq]
      unfold FP.Core.roundAt
      rw [hun, hud]
    obtain ⟨n1, n2⟩ := near_b (c * 2 ^ i) d
    have f1 : 2 ^ 52 ≤ c * 2 ^ i / d := (Nat.le_div_iff_mul_le (by omega)).mpr h4
    have f2 : c * 2 ^ i / d < 2 ^ 53 := (Nat.div_lt_iff_lt_mul (by omega)).mpr h5
    rw [hr]
    by_cases z : FP.Core.nearest (c * 2 ^ i) d < 2 ^ 53
    · exact ⟨_, q, settle_e z (by omega), by omega, z, by omega, by omega⟩
    · refine ⟨2 ^ 52, q + 1, ?_, Nat.le_refl _, by omega, by omega, by omega⟩
      show (if FP.Core.nearest (c * 2 ^ i) d < 2 ^ 53 then _ else (if q + 1 ≤ 971 then FP.Core.Datum.fin false (2 ^ 52) (q + 1) else _)) = _
      rw [if_neg z, if_pos (by omega)]
  by_cases q : d ≤ c
  · rw [if_pos q] at lead
    refine body (e - 52) 52 (by omega) (by omega) (by omega) (by rw [Nat.mul_comm]; exact Nat.mul_le_mul_right _ q) (by omega) ?_ (by omega)
    by_cases z : e = 0
    · right
      have : c = d := Nat.le_antisymm (hcd z) q
      subst this
      refine ⟨by omega, ?_⟩
      rw [Nat.mul_comm, near_1 (by omega)]
      omega
    · left; omega
  · rw [if_neg q] at lead
    exact body (e - 53) 53 (by omega) (by omega) (by omega) (by omega) (by omega) (Or.inl (by omega)) (by omega)
theorem share_is {r n : Nat} (h1 : 1 ≤ r) (h2 : r ≤ n) (h3 : n ≤ 1728) : ∃ E t, 1 ≤ E ∧ E ≤ 1023 ∧ t < 2 ^ 52 ∧ FP.ddiv (FP.i2d (nI r)) (FP.i2d (nI n)) = encN E t := by
  obtain ⟨a1, b1, k1⟩ := lg_is h1 (by omega)
  obtain ⟨a2, b2, k2⟩ := lg_is (show 1 ≤ n by omega) h3
  obtain ⟨c1, c2⟩ := cX_b h1 (by omega)
  obtain ⟨d1, d2⟩ := cX_b (show 1 ≤ n by omega) h3
  have hm : r.log2 ≤ n.log2 := (Nat.le_log2 (by omega)).mpr (Nat.le_trans a1 h2)
  obtain ⟨c', q', e1, e2, e3, e4, e5⟩ := rr_d (c := cX r) (d := cX n) (e := (r.log2 : Int) - 52 - ((n.log2 : Int) - 52)) c1 c2 d1 d2 (by omega) (by omega) (fun h => by
    unfold cX
    rw [show r.log2 = n.log2 by omega]
    exact Nat.mul_le_mul_right _ h2)
  refine ⟨(q' + 1074).toNat + 1, c' - 2 ^ 52, by omega, by omega, by omega, ?_⟩
  show UInt64.ofNat (FP.Core.encode FP.Core.b64 (FP.Core.quotient FP.Core.b64 (FP.Core.decode FP.Core.b64 (FP.i2d (nI r)).toNat) (FP.Core.decode FP.Core.b64 (FP.i2d (nI n)).toNat))) = _
  rw [dec_X h1 (by omega), dec_X (by omega) h3]
  have hq : FP.Core.quotient FP.Core.b64 (.fin false (cX r) ((r.log2 : Int) - 52)) (.fin false (cX n) ((n.log2 : Int) - 52)) = .fin false c' q' := by
    unfold FP.Core.quotient
    dsimp only
    rw [if_neg (show ¬ cX n = 0 by omega)]
    exact e1
  rw [hq, enc_f e2 e3 (by omega)]
  rfl
theorem share_0 {n : Nat} (h1 : 1 ≤ n) (h3 : n ≤ 1728) : FP.ddiv (FP.i2d (nI 0)) (FP.i2d (nI n)) = FP.dconst0 := by
  obtain ⟨d1, d2⟩ := cX_b h1 h3
  show UInt64.ofNat (FP.Core.encode FP.Core.b64 (FP.Core.quotient FP.Core.b64 (FP.Core.decode FP.Core.b64 (FP.i2d (nI 0)).toNat) (FP.Core.decode FP.Core.b64 (FP.i2d (nI n)).toNat))) = _
  rw [dec_X h1 h3, show FP.Core.decode FP.Core.b64 (FP.i2d (nI 0)).toNat = .fin false 0 (-1074) by decide +kernel]
  have hq : FP.Core.quotient FP.Core.b64 (.fin false 0 (-1074)) (.fin false (cX n) ((n.log2 : Int) - 52)) = .fin false 0 (-1074) := by
    unfold FP.Core.quotient
    dsimp only
    rw [if_neg (show ¬ cX n = 0 by omega)]
    rfl
  rw [hq]
  decide +kernel
