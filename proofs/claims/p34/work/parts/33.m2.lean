theorem and1 (x : Int32) : x &&& 1 = nI 0 ∨ x &&& 1 = nI 1 := by
  have h := pk_and x (m := 1) 1 (by decide)
  rw [h]
  rcases Nat.mod_two_eq_zero_or_one x.toBitVec.toNat with q | q
  · left; rw [show 2 ^ 1 = 2 from rfl, q]
  · right; rw [show 2 ^ 1 = 2 from rfl, q]
theorem bitK01 (v : Int32) (k : Nat) : bitK v k = nI 0 ∨ bitK v k = nI 1 := and1 _
theorem n01 : (nI 0 = nI 1) = False := eq_f (by decide) (by decide) (by decide)
theorem n10 : (nI 1 = nI 0) = False := eq_f (by decide) (by decide) (by decide)
theorem isb0 : isb (nI 0) = true := rfl
theorem isb1 : isb (nI 1) = true := rfl
/-- 0 to b, as both sides ask it -/
theorem in0 (v : Int32) (b : Nat) (hb : b < 2 ^ 30) : (if v < nI 0 then nI 0 else if nI b < v then nI 0 else nI 1) = (if inb v (b + 1) = true then nI 1 else nI 0) := by
  rcases pk_ix v (n := b + 1) (by omega) with h | h | ⟨j, hj, rfl⟩
  · rw [if_pos (show v < nI 0 from h), if_neg]
    intro q
    exact (inb_in q) (Or.inl h)
  · have h1 : nI b < v := by
      have := Int32.le_iff_toInt_le.mp h
      rw [nI_toInt (by omega)] at this
      rw [Int32.lt_iff_toInt_lt, nI_toInt (by omega)]
      omega
    have h2 : ¬ inb v (b + 1) = true := by
      intro q
      obtain ⟨j, hj, rfl⟩ := inb_ex (by omega) q
      have := (nI_leI (show b + 1 < 2 ^ 31 by omega) (by omega)).mp h
      omega
    rw [if_neg h2]
    split
    · rfl
    · rfl
  · simp (disch := omega) only [bnd_e, chk_tt, bn_s, bt_s, bt_x, inb_n, nI_clamp, le_t, le_f, lt_t, lt_f, eq_f, nI_add, pk_mul, ne_eq, not_true_eq_false, not_false_eq_true, ↓reduceIte, L0_, L1_, L2_, L3_, L4_, L5_, L6_, L7_, L8_, L9_, L10_, L11_, L12_, L13_, L14_, L15_, L16_, L20_, L22_, L23_, L24_, L25_, L30_, L31_, L32_, L33_, L36_, L40_, L41_, L45_, L48_, L60_, L63_, L64_, L97_, L100_, L107_, L108_, L126_, L150_, L200_, L294_, L366_, L402_, L408_, L414_, L420_, L421_, L422_, L423_, L424_, L425_, L426_, L427_, L428_, L999_, L2568_, L2996_]
theorem in0k (v : Int32) (k : Nat) (hk : k ≤ 6) : (if v < nI 0 then nI 0 else if nI k - nI 1 < v then nI 0 else nI 1) = (if inb v k = true then nI 1 else nI 0) := by
  cases k with
  | zero =>
    have h2 : ¬ inb v 0 = true := by
      intro q
      obtain ⟨j, hj, rfl⟩ := inb_ex (by omega) q
      omega
    rw [if_neg h2]
    split
    · rfl
    · rename_i h
      rw [if_pos]
      rw [show nI 0 - nI 1 = (-1 : Int32) from rfl]
      have : ¬ v.toInt < 0 := fun q => h (Int32.lt_iff_toInt_lt.mpr q)
      rw [Int32.lt_iff_toInt_lt]
      show (-1 : Int) < _
      omega
  | succ k =>
    rw [pk_sub (by omega)]
    exact in0 v k (by omega)
theorem isb_if (b : Bool) : isb (if b = true then nI 1 else nI 0) = true := by cases b <;> rfl
theorem if10 (b : Bool) {α : Type} (x y : α) : (if (if b = true then nI 1 else nI 0) = nI 0 then x else y) = (if b = true then y else x) := by
  cases b
  · rfl
  · rw [if_pos rfl, if_neg (by rw [n10]; exact id), if_pos rfl]
theorem Mo.b0 {M : Mem} {F : Nat → Int32} (h : Mo M F) : ∀ i, i < 428 → M.1 25 (0 + i) = F i := fun i hi => by rw [Nat.zero_add]; exact h i hi
