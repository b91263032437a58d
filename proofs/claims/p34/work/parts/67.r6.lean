/-! ===== settle, side by side ===== -/
def pcn (F : Nat → Int32) : Nat → Nat → Nat
  | 0, _ => 0
  | c + 1, i => (if i / 6 = i % 6 ∨ F (366 + i) ≤ nI 0 then 0 else 1) + pcn F c (i + 1)
def pcd : Nat → Nat → Nat
  | 0, _ => 0
  | c + 1, i => (if i / 6 = i % 6 then 0 else 1) + pcd c (i + 1)
theorem pcn_d {F : Nat → Int32} : ∀ c i, pcn F c i ≤ pcd c i := by
  intro c
  induction c with
  | zero => intro i; exact Nat.le_refl _
  | succ c ih =>
    intro i
    simp only [pcn, pcd]
    have := ih (i + 1)
    by_cases q : i / 6 = i % 6
    · rw [if_pos (Or.inl q), if_pos q]; omega
    · rw [if_neg q]
      split <;> omega
theorem pcn_30 (F : Nat → Int32) : pcn F 36 0 ≤ 30 := Nat.le_trans (pcn_d 36 0) (by decide)
theorem pcn_le {F F' : Nat → Int32} (h : ∀ i, i < 36 → F (366 + i) ≤ nI 0 → F' (366 + i) ≤ nI 0) : ∀ c i, i + c = 36 → pcn F' c i ≤ pcn F c i := by
  intro c
  induction c with
  | zero => intro i _; exact Nat.le_refl _
  | succ c ih =>
    intro i hi
    simp only [pcn]
    have := ih (i + 1) (by omega)
    by_cases q : i / 6 = i % 6 ∨ F (366 + i) ≤ nI 0
    · rw [if_pos q, if_pos (q.imp id (h i (by omega)))]; omega
    · rw [if_neg q]
      split <;> omega
theorem pcn_lt {F F' : Nat → Int32} (h : ∀ i, i < 36 → F (366 + i) ≤ nI 0 → F' (366 + i) ≤ nI 0) {j : Nat} (hj : j / 6 ≠ j % 6) (h1 : ¬ F (366 + j) ≤ nI 0) (h2 : F' (366 + j) ≤ nI 0) : ∀ c i, i + c = 36 → i ≤ j → j < 36 → pcn F' c i < pcn F c i := by
  intro c
  induction c with
  | zero => intro i hi a b; omega
  | succ c ih =>
    intro i hi a b
    simp only [pcn]
    by_cases e : i = j
    · subst e
      have e1 : (if i / 6 = i % 6 ∨ F (366 + i) ≤ nI 0 then 0 else 1) = 1 := if_neg (fun q => q.elim hj h1)
      have e2 : (if i / 6 = i % 6 ∨ F' (366 + i) ≤ nI 0 then 0 else 1) = 0 := if_pos (Or.inr h2)
      rw [e1, e2]
      have := pcn_le h c (i + 1) (by omega)
      omega
    · have := ih (i + 1) (by omega) (by omega) b
      by_cases q : i / 6 = i % 6 ∨ F (366 + i) ≤ nI 0
      · rw [if_pos q, if_pos (q.imp id (h i (by omega)))]; omega
      · rw [if_neg q]
        split <;> omega
theorem sub_self0 (a : Int32) : a - a = nI 0 := Int32.sub_self a
theorem tkF_d {F : Nat → Int32} {x : Nat → Nat} {z e : Nat} (h : e < 426) : tkF F x z e = tkL x z (lsF F x z) z 0 F e := by
  unfold tkF
  rw [va_up_ne _ _ (by omega), va_up_ne _ _ (by omega)]
theorem rng_pc {F : Nat → Int32} {k z : Nat} {x : Nat → Nat} (hk : k ≤ 6) (e : rngF F k = some (z, x)) : pcn (tkF F x z) 36 0 < pcn F 36 0 := by
  obtain ⟨z2, zk, z6, z3, z4, hx⟩ := rng_ok hk e
  obtain ⟨⟨j, hj, ej⟩, _⟩ := lsF_is (F := F) (x := x) (z := z) z2
  have hj' := hx j hj
  have re := rng_e z3 z4 z2 hj
  refine pcn_lt (j := 6 * x j + fol x z j) (fun i hi hi0 => ?_) (by omega) ?_ ?_ 36 0 rfl (Nat.zero_le _) (by omega)
  · rw [tkF_d (by omega)]
    by_cases q : ∃ j, 0 ≤ j ∧ j < z ∧ 366 + i = 366 + 6 * x j + fol x z j
    · obtain ⟨j', _, hj2, e2⟩ := q
      have := gp_p (rng_e z3 z4 z2 hj2).1
      rw [← e2] at this
      exact absurd hi0 this
    · rw [(tkL_v hx z3.2.1 z 0 F (366 + i) (by omega)).2 (fun j' h1 h2 e2 => q ⟨j', h1, h2, e2⟩)]
      exact hi0
  · rw [← Nat.add_assoc]
    exact gp_p re.1
  · rw [tkF_d (by omega), (tkL_v hx z3.2.1 z 0 F _ (by omega)).1 ⟨j, Nat.zero_le _, hj, by omega⟩, ← Nat.add_assoc, ej, sub_self0]
    exact Int32.le_refl _
theorem tkL_SI {k z : Nat} {x : Nat → Nat} {ls : Int32} (hx : ∀ i, i < z → x i < k ∧ fol x z i < k ∧ x i ≠ fol x z i) : ∀ (c i : Nat) (F : Nat → Int32), i + c = z → SI F k → SI (tkL x z ls c i F) k := by
  intro c
  induction c with
  | zero => intro i F _ h; exact h
  | succ c ih =>
    intro i F hi h
    simp only [tkL]
    have := h.1
    have q := hx i (by omega)
    exact ih (i + 1) _ (by omega) (h.up (by omega) (by omega) (by omega) (fun _ _ => ⟨x i, fol x z i, q.1, q.2.1, q.2.2, rfl⟩))
theorem rng_SI {F : Nat → Int32} {k z : Nat} {x : Nat → Nat} (h : SI F k) (e : rngF F k = some (z, x)) : SI (tkF F x z) k := by
  obtain ⟨z2, zk, z6, z3, z4, hx⟩ := rng_ok h.1 e
  exact ((tkL_SI (fun i hi => (rng_e z3 z4 z2 hi).2) z 0 F (by omega) h).up (by omega) (by omega) (by omega) (by omega)).up (by omega) (by omega) (by omega) (by omega)
def stl (k : Nat) : Nat → Nat → (Nat → Int32) → Nat × (Nat → Int32)
  | 0, y, F => (y, F)
  | c + 1, y, F => match rngF F k with
    | none => (y, F)
    | some (z, x) => stl k c (y + 1) (tkF F x z)
section SX
variable {k n l : Nat} {Sv : Nat → Nat → Int32} {B : Nat → Int32}
theorem x_take2 {z : Nat} {x : Nat → Nat} {ls : Int32} (hz : z ≤ 6) (hx : ∀ i, i < z → x i < 6 ∧ fol x z i < 6) : ∀ (c i m : Nat) (M : Mem) (F : Nat → Int32), i + c = z → c < m → JX M F n Sv l B → M.1 10 1 = nI z → M.1 10 2 = ls → (∀ i, i < z → M.1 11 i = nI (x i)) →
    ∃ M', f_X0_takeRing_2 m 34 (nI i) M = some ((), M') ∧ JX M' (va_up (va_up (tkL x z ls c i F) 426 (F 426 + nI 1)) 427 (F 427 + ls * nI z)) n Sv l B ∧ ∀ c i, aX c i → M'.1 c i = M.1 c i := by
  intro c
  induction c with
  | zero =>
    intro i m M F h hm hX h1 h2 hR
    obtain ⟨m, rfl, -⟩ := suc hm
    obtain rfl : i = z := by omega
    have x2 := (hX.w (c := 34) (s := 6) (F 426 + nI 1) 426 (by omega) rfl rfl).w (c := 34) (s := 7) (F 427 + ls * nI i) 427 (by omega) rfl rfl
    refine ⟨_, ?_, x2, fun c i q => by unfold aX at q; rw [mwn (by omega), mwn (by omega)]⟩
    rw [f_X0_takeRing_2, h1, if_pos (Int32.le_refl _), kbL isL34, chk_tt, hX.1.1.rings, bnd_e, mwn (by omega), hX.1.1.less, mwn (by omega), mwn (by omega), h1, h2, bnd_e]
    rfl
  | succ c ih =>
    intro i m M F h hm hX h1 h2 hR
    obtain ⟨m, rfl, -⟩ := suc hm
    have hi := hx i (by omega)
    have x2 := hX.w (F (366 + 6 * x i + fol x z i) - ls) (366 + 6 * x i + fol x z i) (by omega) (lc_debt hi.1 hi.2).1 (lc_debt hi.1 hi.2).2
    have hrc : 38 ≤ rc 34 (x i) := by unfold rc; omega
    obtain ⟨M2, e2, x3, a3⟩ := ih (i + 1) m _ _ (by omega) (by omega) x2 (by rw [mwn (by omega)]; exact h1) (by rw [mwn (by omega)]; exact h2) (fun i hi => by rw [mwn (by omega)]; exact hR i hi)
    rw [va_up_ne _ _ (by omega), va_up_ne _ _ (by omega)] at x3
    refine ⟨M2, ?_, x3, fun c j q => by rw [a3 c j q, mwn (by unfold aX rc at *; omega)]⟩
    rw [f_X0_takeRing_2, h1, if_neg (by rw [nI_leI (by omega) (by omega)]; omega), kbL isL34, chk_tt, inb_n (by omega) (by omega), chk_tt, nI_clamp (by omega), hR i (by omega), inb_n hi.1 (by omega), chk_tt, rw_37 (by omega), bnd_e, x_fol hz h1 hR (by omega), bn_s, inb_n hi.2 (by omega), chk_tt, chk_tt, nI_clamp (by omega), hX.1.1.debt hi.1 hi.2, h2, bnd_e, show nI i + (1 : Int32) = nI (i + 1) from nI_add i 1, bnd_e]
    exact e2
theorem x_settle17 : ∀ (c y m : Nat) (M : Mem) (F : Nat → Int32), pcn F 36 0 < c → y + pcn F 36 0 ≤ 30 → c ≤ m → SI F k → JX M F n Sv l B → Rg M F (rngF F k) →
    ∃ M', f_X6_settle_17 m (nI y) M = some (nI (stl k c y F).1, M') ∧ JX M' (stl k c y F).2 n Sv l B ∧ ∀ c i, aX c i → M'.1 c i = M.1 c i := by
  intro c
  induction c with
  | zero => intro y m M F h; omega
  | succ c ih =>
    intro y m M F h h30 hm hS hX hR
    obtain ⟨m, rfl⟩ : ∃ p, m = p + 1 := ⟨m - 1, by omega⟩
    rcases hR with ⟨e, h1⟩ | ⟨z, x, e, h1, h2, h3⟩
    · have es : stl k (c + 1) y F = (y, F) := by simp only [stl, e]
      rw [es]
      refine ⟨M, ?_, hX, fun _ _ _ => rfl⟩
      rw [f_X6_settle_17, h1]
      rfl
    · obtain ⟨z2, zk, z6, z3, z4, hx⟩ := rng_ok hS.1 e
      have hlt := rng_pc hS.1 e
      have es : stl k (c + 1) y F = stl k c (y + 1) (tkF F x z) := by simp only [stl, e]
      rw [es]
      obtain ⟨M1, e1, x1, a1⟩ := x_take2 z6 hx z 0 FU M F (by omega) (by show z < 100000; omega) hX h1 h2 h3
      have e1' : f_X0_takeRing 34 M = some ((), M1) := e1
      have x1' : JX M1 (tkF F x z) n Sv l B := x1
      have hS' := rng_SI hS e
      obtain ⟨M2, e2, a2, r2⟩ := x_find hS' x1'.1.1
      obtain ⟨M3, e3, x3, a3⟩ := ih (y + 1) m M2 (tkF F x z) (by omega) (by omega) (by omega) hS' (x1'.q (aF_Q a2)) r2
      refine ⟨M3, ?_, x3, fun c i q => by rw [a3 c i q, a2.2 c i (by unfold aX at q; unfold aF; omega), a1 c i q]⟩
      rw [f_X6_settle_17, h1, if_neg (show ¬ nI z ≤ 0 by rw [show (0 : Int32) = nI 0 from rfl, nI_leI (by omega) (by omega)]; omega), if_neg (show ¬ (30 : Int32) ≤ nI y by rw [show (30 : Int32) = nI 30 from rfl, nI_leI (by omega) (by omega)]; omega), e1', bn_s, show nI y + (1 : Int32) = nI (y + 1) from nI_add y 1, bnd_e, e2, bn_s]
      exact e3
end SX
theorem stl_SI {k : Nat} : ∀ (c y : Nat) (F : Nat → Int32), SI F k → SI (stl k c y F).2 k := by
  intro c
  induction c with
  | zero => intro y F h; exact h
  | succ c ih =>
    intro y F h
    cases e : rngF F k with
    | none =>
      have es : stl k (c + 1) y F = (y, F) := by simp only [stl, e]
      rw [es]; exact h
    | some p =>
      obtain ⟨z, x⟩ := p
      have es : stl k (c + 1) y F = stl k c (y + 1) (tkF F x z) := by simp only [stl, e]
      rw [es]
      exact ih _ _ (rng_SI h e)
