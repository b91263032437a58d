/-! ===== tuneShare, side by side ===== -/
theorem sum_le {f g : Nat → Int32} {w : Nat} : ∀ (c j a b : Nat), a ≤ b → (∀ i, j ≤ i → i < j + c → ∃ x y, x ≤ y ∧ y ≤ w ∧ f i = nI x ∧ g i = nI y) → ∃ x y, x ≤ y ∧ y ≤ b + w * c ∧ acl f c j (nI a) = nI x ∧ acl g c j (nI b) = nI y := by
  intro c
  induction c with
  | zero => intro j a b h _; exact ⟨a, b, h, by omega, rfl, rfl⟩
  | succ c ih =>
    intro j a b h hf
    obtain ⟨x, y, h1, h2, h3, h4⟩ := hf j (Nat.le_refl _) (by omega)
    obtain ⟨x', y', g1, g2, g3, g4⟩ := ih (j + 1) (a + x) (b + y) (by omega) (fun i h1 h2 => hf i (by omega) (by omega))
    refine ⟨x', y', g1, by rw [Nat.mul_add]; omega, ?_, ?_⟩
    · show acl f c (j + 1) (nI a + f j) = _
      rw [h3, nI_add, g3]
    · show acl g c (j + 1) (nI b + g j) = _
      rw [h4, nI_add, g4]
theorem bits_le {v u : Int32} (hv : msk v) (hu : msk u) : ∃ x y, x ≤ y ∧ y ≤ 12 ∧ bitsI (v &&& u) = nI x ∧ bitsI u = nI y := by
  obtain ⟨a, ha, rfl⟩ := hv
  obtain ⟨b, hb, rfl⟩ := hu
  obtain ⟨x, y, h1, h2, h3, h4⟩ := sum_le (f := bitK (nI a &&& nI b)) (g := bitK (nI b)) (w := 1) 12 0 0 0 (Nat.le_refl _) (fun i _ hi => by
    have hab : a &&& b < 2 ^ 31 := Nat.lt_of_le_of_lt Nat.and_le_left (by omega)
    rw [nI_and, bitK_t hab (by omega), bitK_t (by omega) (by omega), Nat.testBit_and]
    cases ea : a.testBit i <;> cases eb : b.testBit i
    · exact ⟨0, 0, by omega, by omega, rfl, rfl⟩
    · exact ⟨0, 1, by omega, by omega, rfl, rfl⟩
    · exact ⟨0, 0, by omega, by omega, rfl, rfl⟩
    · exact ⟨1, 1, by omega, by omega, rfl, rfl⟩)
  exact ⟨x, y, h1, by omega, h3, h4⟩
theorem right_le {F : Nat → Int32} {k t : Nat} (hS : SI F k) (ht : t < 6) : ∃ x y, x ≤ y ∧ y ≤ 288 ∧ rightF F t t 0 = nI x ∧ pinsF F 150 t = nI y := by
  obtain ⟨x, y, h1, h2, h3, h4⟩ := sum_le (f := fun s => bitsI (F (6 + 24 * t + s) &&& F (150 + 24 * t + (s + 0) % 24))) (g := fun s => bitsI (F (150 + 24 * t + s))) (w := 12) 24 0 0 0 (Nat.le_refl _) (fun i _ hi => by
    rw [show (i + 0) % 24 = i by omega]
    exact bits_le (hS.2.2.1 _ (by omega) (by omega)) (hS.2.2.1 _ (by omega) (by omega)))
  exact ⟨x, y, h1, by omega, h3, h4⟩
theorem share_le {F : Nat → Int32} {k : Nat} (hS : SI F k) : ∃ x y, x ≤ y ∧ y ≤ 1728 ∧ sumTF F k 3 = nI x ∧ sumTF F k 2 = nI y := by
  have hk := hS.1
  obtain ⟨x, y, h1, h2, h3, h4⟩ := sum_le (f := fun t => townF F t 3) (g := fun t => townF F t 2) (w := 288) k 0 0 0 (Nat.le_refl _) (fun i _ hi => right_le hS (by omega))
  exact ⟨x, y, h1, by omega, h3, h4⟩
def shF (F : Nat → Int32) (k : Nat) : UInt64 := if sumTF F k 2 = nI 0 then FP.dconst0 else FP.ddiv (FP.i2d (sumTF F k 3)) (FP.i2d (sumTF F k 2))
theorem shF_is {F : Nat → Int32} {k : Nat} (hS : SI F k) : isSh (shF F k) ∧ (¬ sumTF F k 2 = nI 0 → shF F k = FP.ddiv (FP.i2d (sumTF F k 3)) (FP.i2d (sumTF F k 2))) ∧ (sumTF F k 2 = nI 0 → shF F k = FP.dconst0) := by
  refine ⟨?_, fun h => if_neg h, fun h => if_pos h⟩
  obtain ⟨x, y, h1, h2, h3, h4⟩ := share_le hS
  by_cases q : sumTF F k 2 = nI 0
  · unfold shF
    rw [if_pos q]
    exact Or.inl rfl
  · unfold shF
    rw [if_neg q, h3, h4]
    rw [h4] at q
    exact sh_div (by
      rcases Nat.eq_zero_or_pos y with z | z
      · rw [z] at q; exact absurd rfl q
      · exact z) h1 h2
section TS
variable {M : Mem} {F : Nat → Int32} {k : Nat}
theorem x_ts4 (h : LR M 34 F) (hS : SI F k) : ∀ (c j : Nat) (a : Int32) (n : Nat), j + c = k → c < n → acl (fun t => townF F t 2) c j a = sumTF F k 2 → f_X6_tuneShare_4 n a (nI j) M = some (shF F k, M) := by
  have hk := hS.1
  obtain ⟨s1, s2, s3⟩ := shF_is hS
  intro c
  induction c with
  | zero =>
    intro j a n h9 hn ha
    obtain ⟨n, rfl, -⟩ := suc hn
    obtain rfl : j = k := by omega
    have ha' : a = sumTF F j 2 := ha
    rw [f_X6_tuneShare_4, x_many h hS, if_pos (Int32.le_refl _), ha']
    by_cases q : sumTF F j 2 = nI 0
    · refine (if_pos q).trans ?_
      rw [s3 q]
    · refine (if_neg q).trans ?_
      rw [x_rights h isL34 hS, bn_s, ← s2 q, sh_nn s1, chk_tt]
  | succ c ih =>
    intro j a n h9 hn ha
    obtain ⟨n, rfl, -⟩ := suc hn
    rw [f_X6_tuneShare_4, x_many h hS, if_neg (by rw [nI_leI (by omega) (by omega)]; omega), inb_n (by omega) (by omega), chk_tt, tw_35 (by omega), bnd_e, x_tune h isL34 hS (by omega), bn_s, bnd_e, show nI j + (1 : Int32) = nI (j + 1) from nI_add j 1, bnd_e]
    exact ih (j + 1) _ n (by omega) (by omega) ha
theorem x_share (h : LR M 34 F) (hS : SI F k) : f_X6_tuneShare M = some (shF F k, M) :=
  x_ts4 h hS k 0 (nI 0) FU (by omega) (by have := hS.1; show k < 100000; omega) rfl
end TS
