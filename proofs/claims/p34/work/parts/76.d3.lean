/-! ===== doubles: bitsOf is doubleToLongBits on a share ===== -/
theorem sub_1 {t : Nat} (ht : t < 2 ^ 52) : (t = 0 → FP.dsub (encN 1023 t) FP.dconst1 = 0) ∧ (0 < t → FP.dsub (encN 1023 t) FP.dconst1 = encN (971 + t.log2) (t * 2 ^ (52 - t.log2) - 2 ^ 52)) := by
  refine ⟨fun h => ?_, fun h => ?_⟩
  · subst h
    decide +kernel
  · have h0 : t ≠ 0 := by omega
    have k1 := Nat.log2_self_le h0
    have k2 : t < 2 ^ (t.log2 + 1) := Nat.lt_log2_self
    have k3 : t.log2 < 52 := (Nat.log2_lt h0).mpr ht
    have p := Nat.two_pow_pos (52 - t.log2)
    have e1 := Nat.mul_le_mul_right (2 ^ (52 - t.log2)) k1
    have e2 := Nat.mul_lt_mul_of_pos_right k2 p
    rw [← Nat.pow_add, show t.log2 + (52 - t.log2) = 52 by omega] at e1
    rw [← Nat.pow_add, show t.log2 + 1 + (52 - t.log2) = 53 by omega] at e2
    show UInt64.ofNat (FP.Core.encode FP.Core.b64 (FP.Core.round FP.Core.b64 (FP.Core.exactSum (FP.Core.decode FP.Core.b64 (encN 1023 t).toNat) (FP.Core.negate (FP.Core.decode FP.Core.b64 (0x3ff0000000000000 : UInt64).toNat))))) = _
    rw [dec_e (by omega) (by omega) ht, show FP.Core.decode FP.Core.b64 (0x3ff0000000000000 : UInt64).toNat = .fin false (2 ^ 52) (-52) by decide +kernel, show (-1074 + (((1023 : Nat) : Int) - 1)) = -52 by omega]
    have hv : FP.Core.sumUnits false (2 ^ 52 + t) (-52) true (2 ^ 52) (-52) (min (-52) (-52)) = (t : Int) := by
      unfold FP.Core.sumUnits FP.Core.signed FP.Core.inUnits
      rw [if_neg (by decide), if_pos rfl, show min (-52 : Int) (-52) = -52 by omega, show (-52 - -52 : Int).toNat = 0 by omega, Nat.pow_zero, Nat.mul_one, Nat.mul_one]
      omega
    have he : FP.Core.exactSum (.fin false (2 ^ 52 + t) (-52)) (FP.Core.negate (.fin false (2 ^ 52) (-52))) = .fin false t (-52) := by
      show FP.Core.Datum.fin (FP.Core.sumSign false true (FP.Core.sumUnits false (2 ^ 52 + t) (-52) true (2 ^ 52) (-52) (min (-52) (-52)))) (FP.Core.sumUnits false (2 ^ 52 + t) (-52) true (2 ^ 52) (-52) (min (-52) (-52))).natAbs (min (-52) (-52)) = _
      rw [hv]
      unfold FP.Core.sumSign
      rw [if_neg (by omega), show decide ((t : Int) < 0) = false from decide_eq_false (by omega)]
      rfl
    rw [he]
    show UInt64.ofNat (FP.Core.encode FP.Core.b64 (FP.Core.roundRatio FP.Core.b64 false t 1 (-52))) = _
    rw [rr_s k1 k2 (by omega) (by omega) (by omega), enc_f e1 e2 (by omega)]
    unfold encN
    rw [show ((t.log2 : Int) + -52 - 52 + 1074).toNat + 1 = 971 + t.log2 by omega]
theorem mul_52 {t : Nat} (ht : t < 2 ^ 52) : nn64 (FP.dsub (encN 1023 t) FP.dconst1) = true ∧ nn64 (FP.dmul (FP.dsub (encN 1023 t) FP.dconst1) (4841369599423283200 : UInt64)) = true ∧ FP.d2l (FP.dmul (FP.dsub (encN 1023 t) FP.dconst1) (4841369599423283200 : UInt64)) = Int64.ofNat t := by
  obtain ⟨h1, h2⟩ := sub_1 ht
  rcases Nat.eq_zero_or_pos t with q | q
  · rw [h1 q, q]
    decide +kernel
  · rw [h2 q]
    have h0 : t ≠ 0 := by omega
    have k1 := Nat.log2_self_le h0
    have k2 : t < 2 ^ (t.log2 + 1) := Nat.lt_log2_self
    have k3 : t.log2 < 52 := (Nat.log2_lt h0).mpr ht
    have p := Nat.two_pow_pos (52 - t.log2)
    have e1 := Nat.mul_le_mul_right (2 ^ (52 - t.log2)) k1
    have e2 := Nat.mul_lt_mul_of_pos_right k2 p
    rw [← Nat.pow_add, show t.log2 + (52 - t.log2) = 52 by omega] at e1
    rw [← Nat.pow_add, show t.log2 + 1 + (52 - t.log2) = 53 by omega] at e2
    have hd : FP.Core.decode FP.Core.b64 (encN (971 + t.log2) (t * 2 ^ (52 - t.log2) - 2 ^ 52)).toNat = .fin false (t * 2 ^ (52 - t.log2)) ((t.log2 : Int) - 104) := by
      rw [dec_e (by omega) (by omega) (by omega), show 2 ^ 52 + (t * 2 ^ (52 - t.log2) - 2 ^ 52) = t * 2 ^ (52 - t.log2) by omega, show (-1074 + (((971 + t.log2 : Nat) : Int) - 1)) = (t.log2 : Int) - 104 by omega]
    have hm : FP.dmul (encN (971 + t.log2) (t * 2 ^ (52 - t.log2) - 2 ^ 52)) (4841369599423283200 : UInt64) = encN (1023 + t.log2) (t * 2 ^ (52 - t.log2) - 2 ^ 52) := by
      show UInt64.ofNat (FP.Core.encode FP.Core.b64 (FP.Core.round FP.Core.b64 (FP.Core.exactProduct (FP.Core.decode FP.Core.b64 (encN (971 + t.log2) (t * 2 ^ (52 - t.log2) - 2 ^ 52)).toNat) (FP.Core.decode FP.Core.b64 (4841369599423283200 : UInt64).toNat)))) = _
      rw [hd, show FP.Core.decode FP.Core.b64 (4841369599423283200 : UInt64).toNat = .fin false (2 ^ 52) 0 by decide +kernel]
      show UInt64.ofNat (FP.Core.encode FP.Core.b64 (FP.Core.roundRatio FP.Core.b64 false (t * 2 ^ (52 - t.log2) * 2 ^ 52) 1 ((t.log2 : Int) - 104 + 0))) = _
      rw [show ((t.log2 : Int) - 104 + 0) = ((t.log2 : Int) - 52) - ((52 : Nat) : Int) by omega, rr_z e1 e2 (by omega) (by omega), enc_f e1 e2 (by omega)]
      unfold encN
      rw [show ((t.log2 : Int) - 52 + 1074).toNat + 1 = 1023 + t.log2 by omega]
    rw [hm]
    refine ⟨nn_e (by omega) (by omega), nn_e (by omega) (by omega), ?_⟩
    show Int64.ofInt (FP.Core.toInt (-2 ^ 63) (2 ^ 63 - 1) (FP.Core.decode FP.Core.b64 (encN (1023 + t.log2) (t * 2 ^ (52 - t.log2) - 2 ^ 52)).toNat)) = _
    rw [dec_e (by omega) (by omega) (by omega), show 2 ^ 52 + (t * 2 ^ (52 - t.log2) - 2 ^ 52) = t * 2 ^ (52 - t.log2) by omega, show (-1074 + (((1023 + t.log2 : Nat) : Int) - 1)) = (t.log2 : Int) - 52 by omega]
    have ht2 : FP.Core.truncate false (t * 2 ^ (52 - t.log2)) ((t.log2 : Int) - 52) = (t : Int) := by
      unfold FP.Core.truncate FP.Core.signed
      rw [if_neg (by decide), show ((t.log2 : Int) - 52).toNat = 0 by omega, Nat.pow_zero, Nat.mul_one, show (-((t.log2 : Int) - 52)).toNat = 52 - t.log2 by omega, Nat.mul_div_cancel _ p]
    show Int64.ofInt (max (-2 ^ 63) (min (2 ^ 63 - 1) (FP.Core.truncate false (t * 2 ^ (52 - t.log2)) ((t.log2 : Int) - 52)))) = _
    rw [ht2, show max (-2 ^ 63 : Int) (min (2 ^ 63 - 1) (t : Int)) = (t : Int) by omega]
    rfl
theorem shl_52 : ∀ E, E < 1024 → Int64.ofNat E <<< (((52 : Int32)).toInt64 &&& 63) = Int64.ofNat (2 ^ 52 * E) := by decide +kernel
theorem dec_64 : ∀ m, m < 1024 → Int64.ofNat (m + 1) - 1 = Int64.ofNat m := by decide +kernel
theorem x_bits18 {t : Nat} (ht : t < 2 ^ 52) (M : Mem) : ∀ (c e j n : Nat), e + c = 1023 → 1 ≤ e → c < n → j + c ≤ 1022 → f_X6_bitsOf_18 n (encN e t) (Int64.ofNat (1023 - j)) (nI j) M = some (Int64.ofNat (2 ^ 52 * (1023 - j - c) + t), M) := by
  intro c
  induction c with
  | zero =>
    intro e j n h he hn hjc
    obtain ⟨n, rfl, -⟩ := suc hn
    obtain rfl : e = 1023 := by omega
    obtain ⟨m1, m2, m3⟩ := mul_52 ht
    rw [f_X6_bitsOf_18, if_neg (show ¬ (1023 : Int32) ≤ nI j by rw [show (1023 : Int32) = nI 1023 from rfl, nI_leI (by omega) (by omega)]; omega), if_pos (cmp_2 ht)]
    unfold f_X6_bitsOf_50
    rw [m1, m2, chk_tt, chk_tt, bnd_e, m3, shl_52 (1023 - j) (by omega), Nat.sub_zero, ← Int64.ofNat_add]
  | succ c ih =>
    intro e j n h he hn hjc
    obtain ⟨n, rfl, -⟩ := suc hn
    have e1 := dec_64 (1023 - (j + 1)) (by omega)
    rw [show 1023 - (j + 1) + 1 = 1023 - j by omega] at e1
    rw [f_X6_bitsOf_18, if_neg (show ¬ (1023 : Int32) ≤ nI j by rw [show (1023 : Int32) = nI 1023 from rfl, nI_leI (by omega) (by omega)]; omega), cmp_1 he (by omega) ht, if_neg (show ¬ (0 : Int32) ≤ Op.cmpValue (some .lt) .g by decide), dbl_e he (by omega) ht, nn_e (by omega) ht, chk_tt, bnd_e, e1, bnd_e, show nI j + (1 : Int32) = nI (j + 1) from nI_add j 1, bnd_e]
    have := ih (e + 1) (j + 1) n (by omega) (by omega) (by omega) (by omega)
    rw [this, show 1023 - (j + 1) - c = 1023 - j - (c + 1) by omega]
/-- a share's bits -/
def isSh (D : UInt64) : Prop := D = FP.dconst0 ∨ ∃ E t, 1 ≤ E ∧ E ≤ 1023 ∧ t < 2 ^ 52 ∧ D = encN E t
theorem x_bitsOf {D : UInt64} (h : isSh D) (M : Mem) : f_X6_bitsOf D M = some (D.toInt64, M) := by
  rcases h with rfl | ⟨E, t, h1, h2, h3, rfl⟩
  · unfold f_X6_bitsOf
    rw [if_neg (by decide +kernel)]
    rfl
  · unfold f_X6_bitsOf
    rw [cmp_0 h1 h2 h3, if_pos (show (0 : Int32) < Op.cmpValue (some .gt) .g by decide)]
    have := x_bits18 h3 M (1023 - E) E 0 FU (by omega) h1 (by show 1023 - E < 100000; omega) (by omega)
    rw [Nat.sub_zero, show 1023 - (1023 - E) = E by omega] at this
    exact this
theorem cmp_s {D : UInt64} (h : isSh D) : FP.dcmp D D = some .eq := by
  have key : ∀ c q, FP.Core.decode FP.Core.b64 D.toNat = .fin false c q → FP.dcmp D D = some .eq := by
    intro c q e
    show FP.Core.order (FP.Core.decode FP.Core.b64 D.toNat) (FP.Core.decode FP.Core.b64 D.toNat) = _
    rw [e]
    show some (compare _ _) = _
    congr 1
    exact Int.compare_eq_eq.mpr rfl
  rcases h with rfl | ⟨E, t, h1, h2, h3, rfl⟩
  · exact key 0 (-1074) (by decide +kernel)
  · exact key _ _ (dec_e h1 (by omega) h3)
theorem sh_nn {D : UInt64} (h : isSh D) : nn64 D = true := by
  rcases h with rfl | ⟨E, t, h1, h2, h3, rfl⟩
  · decide
  · exact nn_e (by omega) h3
theorem sh_div {r n : Nat} (h0 : 1 ≤ n) (h2 : r ≤ n) (h3 : n ≤ 1728) : isSh (FP.ddiv (FP.i2d (nI r)) (FP.i2d (nI n))) := by
  rcases Nat.eq_zero_or_pos r with q | q
  · subst q
    exact Or.inl (share_0 h0 h3)
  · exact Or.inr (share_is q h2 h3)
