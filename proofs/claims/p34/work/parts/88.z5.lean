/-! ===== settling: no ring is left; balances and counts ===== -/
theorem stl_none {k : Nat} (hk : k ≤ 6) : ∀ (c y : Nat) (F : Nat → Int32), pcn F 36 0 < c → rngF (stl k c y F).2 k = none := by
  intro c
  induction c with
  | zero => intro y F h; omega
  | succ c ih =>
    intro y F h
    simp only [stl]
    cases hr : rngF F k with
    | none => exact hr
    | some q =>
      obtain ⟨z, x⟩ := q
      have := rng_pc hk hr
      exact ih (y + 1) (tkF F x z) (by omega)
theorem stl_any {k c : Nat} {F : Nat → Int32} : (0 < (stl k (c + 1) 0 F).1) ↔ ∃ q, rngF F k = some q := by
  simp only [stl]
  cases hr : rngF F k with
  | none => exact ⟨fun h => absurd h (Nat.lt_irrefl 0), fun ⟨q, h⟩ => by cases h⟩
  | some q =>
    obtain ⟨z, x⟩ := q
    have := stl_n (k := k) c (0 + 1) (tkF F x z)
    exact ⟨fun _ => ⟨_, rfl⟩, fun _ => by show 0 < (stl k c (0 + 1) (tkF F x z)).1; omega⟩
/-- ls, where the town is t -/
def onT (x : Nat → Nat) (t : Nat) (ls : Int32) : Nat → Int32 := fun j => if x j = t then ls else nI 0
def allD (F : Nat → Int32) (k : Nat) : Int32 := sumI (fun t => owesF F t) k
theorem owes_up {F : Nat → Int32} {u v t : Nat} {w : Int32} (hv : v < 6) : owesF (va_up F (366 + 6 * u + v) w) t = owesF F t + (if u = t then w - F (366 + 6 * u + v) else nI 0) := by
  by_cases e : u = t
  · subst e
    rw [if_pos rfl]
    have : owesF (va_up F (366 + 6 * u + v) w) u = sumI (va_up (fun j => F (366 + 6 * u + j)) v w) 6 := sumI_congr (fun j hj => up_row)
    rw [this, sumI_up hv]
    rfl
  · rw [if_neg e, show owesF F t + nI 0 = owesF F t from Int32.add_zero _]
    exact sumI_congr (fun j hj => va_up_ne _ _ (by omega))
theorem owed_up {F : Nat → Int32} {u v t : Nat} {w : Int32} (hu : u < 6) (hv : v < 6) (ht : t < 6) : owedF (va_up F (366 + 6 * u + v) w) t = owedF F t + (if v = t then w - F (366 + 6 * u + v) else nI 0) := by
  by_cases e : v = t
  · subst e
    rw [if_pos rfl]
    have : owedF (va_up F (366 + 6 * u + v) w) v = sumI (va_up (fun j => F (366 + 6 * j + v)) u w) 6 := sumI_congr (fun j hj => by
      by_cases q : j = u
      · subst q; rw [va_up_self, va_up_self]
      · rw [va_up_ne _ _ q, va_up_ne _ _ (by omega)])
    rw [this, sumI_up hu]
    rfl
  · rw [if_neg e, show owedF F t + nI 0 = owedF F t from Int32.add_zero _]
    exact sumI_congr (fun j hj => va_up_ne _ _ (by omega))
theorem i_less (a b : Int32) : a + (b - a) = b := i_sc a b
theorem sub_l (f ls : Int32) : f - ls - f = -ls := by
  rw [Int32.sub_eq_add_neg f, Int32.add_comm f, Int32.add_sub_cancel]
theorem tkL_bal {x : Nat → Nat} {z t : Nat} {ls : Int32} (ht : t < 6) (hx : ∀ i, i < z → x i < 6 ∧ fol x z i < 6) : ∀ (c i : Nat) (F : Nat → Int32) (a : Int32), i + c = z →
    owesF (tkL x z ls c i F) t + acl (onT x t ls) c i a = owesF F t + a ∧ owedF (tkL x z ls c i F) t + acl (onT (fol x z) t ls) c i a = owedF F t + a := by
  intro c
  induction c with
  | zero => intro i F a h; exact ⟨rfl, rfl⟩
  | succ c ih =>
    intro i F a h
    have hi := hx i (by omega)
    simp only [tkL]
    have e1 := owes_up (F := F) (u := x i) (v := fol x z i) (t := t) (w := F (366 + 6 * x i + fol x z i) - ls) hi.2
    have e2 := owed_up (F := F) (u := x i) (v := fol x z i) (t := t) (w := F (366 + 6 * x i + fol x z i) - ls) hi.1 hi.2 ht
    rw [sub_l] at e1 e2
    obtain ⟨i1, -⟩ := ih (i + 1) (va_up F (366 + 6 * x i + fol x z i) (F (366 + 6 * x i + fol x z i) - ls)) (a + onT x t ls i) (by omega)
    obtain ⟨-, i2⟩ := ih (i + 1) (va_up F (366 + 6 * x i + fol x z i) (F (366 + 6 * x i + fol x z i) - ls)) (a + onT (fol x z) t ls i) (by omega)
    constructor
    · show owesF _ t + acl (onT x t ls) c (i + 1) (a + onT x t ls i) = _
      rw [i1, e1]
      unfold onT
      by_cases q : x i = t
      · rw [if_pos q, if_pos q]; grind
      · rw [if_neg q, if_neg q, show a + nI 0 = a from Int32.add_zero _, show owesF F t + nI 0 = owesF F t from Int32.add_zero _]
    · show owedF _ t + acl (onT (fol x z) t ls) c (i + 1) (a + onT (fol x z) t ls i) = _
      rw [i2, e2]
      unfold onT
      by_cases q : fol x z i = t
      · rw [if_pos q, if_pos q]; grind
      · rw [if_neg q, if_neg q, show a + nI 0 = a from Int32.add_zero _, show owedF F t + nI 0 = owedF F t from Int32.add_zero _]
theorem fol_sum {x : Nat → Nat} {z t : Nat} {ls : Int32} (hz : 1 ≤ z) : sumI (onT (fol x z) t ls) z = sumI (onT x t ls) z := by
  obtain ⟨y, rfl⟩ : ∃ y, z = y + 1 := ⟨z - 1, by omega⟩
  have e2 : ∀ (f : Nat → Int32) n a, acl f n 1 a = acl (fun s => f (s + 1)) n 0 a := fun f n a => by
    rw [show 1 = 1 + 0 from rfl, acl_shift 1]
    exact acl_congr n 0 a (fun i _ _ => by rw [Nat.add_comm])
  have e3 : sumI (onT x t ls) (y + 1) = sumI (fun s => onT x t ls (s + 1)) y + onT x t ls 0 := by
    show acl (onT x t ls) y 1 (nI 0 + onT x t ls 0) = _
    rw [e2, acl_in]
    rfl
  rw [e3, sumI_s]
  congr 1
  · exact sumI_congr (fun i hi => by
      unfold onT fol
      rw [if_pos (show i + 1 < y + 1 by omega)])
  · unfold onT fol
    rw [if_neg (Nat.lt_irrefl _)]
theorem tk_bal {F : Nat → Int32} {x : Nat → Nat} {k z t : Nat} (hk : k ≤ 6) (hr : rngF F k = some (z, x)) (ht : t < 6) : owedF (tkF F x z) t - owesF (tkF F x z) t = owedF F t - owesF F t := by
  obtain ⟨z2, zk, z6, z3, z4, hx⟩ := rng_ok hk hr
  obtain ⟨h1, h2⟩ := tkL_bal (ls := lsF F x z) ht hx z 0 F (nI 0) (by omega)
  have es : acl (onT (fol x z) t (lsF F x z)) z 0 (nI 0) = acl (onT x t (lsF F x z)) z 0 (nI 0) := fol_sum (by omega)
  have q1 : owesF (tkF F x z) t = owesF (tkL x z (lsF F x z) z 0 F) t := sumI_congr (fun j hj => tkF_d (by omega))
  have q2 : owedF (tkF F x z) t = owedF (tkL x z (lsF F x z) z 0 F) t := sumI_congr (fun j hj => tkF_d (by omega))
  rw [es] at h2
  rw [q1, q2]
  rw [show owesF F t + nI 0 = owesF F t from Int32.add_zero _] at h1
  rw [show owedF F t + nI 0 = owedF F t from Int32.add_zero _] at h2
  rw [← h1, ← h2]
  generalize acl (onT x t (lsF F x z)) z 0 (nI 0) = s
  grind
theorem allD_up {F : Nat → Int32} {u v k : Nat} {w : Int32} (hu : u < k) (hv : v < 6) : allD (va_up F (366 + 6 * u + v) w) k = allD F k + (w - F (366 + 6 * u + v)) := by
  have : allD (va_up F (366 + 6 * u + v) w) k = sumI (va_up (fun t => owesF F t) u (owesF F u + (w - F (366 + 6 * u + v)))) k := sumI_congr (fun t ht => by
    rw [owes_up hv]
    by_cases q : t = u
    · subst q; rw [va_up_self, if_pos rfl]
    · rw [va_up_ne _ _ q, if_neg (fun e => q e.symm)]; exact Int32.add_zero _)
  rw [this, sumI_up hu]
  unfold allD
  generalize sumI (fun t => owesF F t) k = a
  generalize owesF F u = b
  grind
theorem tkL_all {x : Nat → Nat} {z k : Nat} {ls : Int32} (hx : ∀ i, i < z → x i < k ∧ fol x z i < 6) : ∀ (c i : Nat) (F : Nat → Int32), i + c = z → allD (tkL x z ls c i F) k + ls * nI c = allD F k := by
  intro c
  induction c with
  | zero =>
    intro i F h
    show allD F k + ls * nI 0 = _
    rw [show ls * nI 0 = 0 from Int32.mul_zero, Int32.add_zero]
  | succ c ih =>
    intro i F h
    have hi := hx i (by omega)
    simp only [tkL]
    have e := ih (i + 1) (va_up F (366 + 6 * x i + fol x z i) (F (366 + 6 * x i + fol x z i) - ls)) (by omega)
    rw [allD_up hi.1 hi.2, sub_l] at e
    rw [← nI_add c 1]
    have : ls * (nI c + nI 1) = ls * nI c + ls := by
      rw [Int32.mul_add, show ls * nI 1 = ls from Int32.mul_one _]
    rw [this, ← Int32.add_assoc, e]
    grind
theorem tk_all {F : Nat → Int32} {x : Nat → Nat} {k z : Nat} (hk : k ≤ 6) (hr : rngF F k = some (z, x)) : tkF F x z 426 = F 426 + nI 1 ∧ tkF F x z 427 - F 427 = allD F k - allD (tkF F x z) k := by
  obtain ⟨z2, zk, z6, z3, z4, hx⟩ := rng_ok hk hr
  have e := tkL_all (ls := lsF F x z) (fun i hi => ⟨z3.1 i hi, (hx i hi).2⟩) z 0 F (by omega)
  have q : allD (tkF F x z) k = allD (tkL x z (lsF F x z) z 0 F) k := sumI_congr (fun t ht => sumI_congr (fun j hj => tkF_d (by omega)))
  refine ⟨?_, ?_⟩
  · unfold tkF
    rw [va_up_ne _ _ (by omega), va_up_self]
  · rw [q, ← e]
    unfold tkF
    rw [va_up_self]
    generalize lsF F x z * nI z = a
    generalize F 427 = b
    generalize allD (tkL x z (lsF F x z) z 0 F) k = c
    grind
theorem stl_bal {k t : Nat} (hk : k ≤ 6) (ht : t < 6) : ∀ (c y : Nat) (F : Nat → Int32), owedF (stl k c y F).2 t - owesF (stl k c y F).2 t = owedF F t - owesF F t := by
  intro c
  induction c with
  | zero => intros; rfl
  | succ c ih =>
    intro y F
    simp only [stl]
    cases hr : rngF F k with
    | none => rfl
    | some q =>
      obtain ⟨z, x⟩ := q
      exact (ih (y + 1) (tkF F x z)).trans (tk_bal hk hr ht)
theorem stl_all {k : Nat} (hk : k ≤ 6) : ∀ (c y : Nat) (F : Nat → Int32), (stl k c y F).2 426 + nI y = F 426 + nI (stl k c y F).1 ∧ (stl k c y F).2 427 - F 427 = allD F k - allD (stl k c y F).2 k := by
  intro c
  induction c with
  | zero => intro y F; exact ⟨rfl, by rw [show (stl k 0 y F).2 = F from rfl, Int32.sub_self, Int32.sub_self]⟩
  | succ c ih =>
    intro y F
    simp only [stl]
    cases hr : rngF F k with
    | none => exact ⟨rfl, by show F 427 - F 427 = allD F k - allD F k; rw [Int32.sub_self, Int32.sub_self]⟩
    | some q =>
      obtain ⟨z, x⟩ := q
      obtain ⟨t1, t2⟩ := tk_all hk hr
      obtain ⟨i1, i2⟩ := ih (y + 1) (tkF F x z)
      dsimp only
      refine ⟨?_, ?_⟩
      · rw [t1, ← nI_add y 1] at i1
        generalize (stl k c (y + 1) (tkF F x z)).2 426 = a at i1 ⊢
        generalize nI (stl k c (y + 1) (tkF F x z)).1 = b at i1 ⊢
        generalize nI y = d at i1 ⊢
        generalize nI 1 = o at i1
        generalize F 426 = f at i1 ⊢
        grind
      · generalize (stl k c (y + 1) (tkF F x z)).2 427 = a at i2 ⊢
        generalize allD (stl k c (y + 1) (tkF F x z)).2 k = b at i2 ⊢
        generalize tkF F x z 427 = d at i2 t2
        generalize allD (tkF F x z) k = e at i2 t2
        generalize F 427 = f at t2 ⊢
        generalize allD F k = g at t2 ⊢
        grind
/-! ===== debts owed and owing; the best ===== -/
/-- the debts, row by row and column by column -/
theorem sw_2 {g : Nat → Nat → Int32} : ∀ (a b : Nat), sumI (fun i => sumI (fun j => g i j) b) a = sumI (fun j => sumI (fun i => g i j) a) b := by
  intro a b
  induction a with
  | zero =>
    have h0 : ∀ b, sumI (fun j => sumI (fun i => g i j) 0) b = nI 0 := by
      intro b
      induction b with
      | zero => rfl
      | succ b ih => rw [sumI_s, ih]; rfl
    rw [h0]; rfl
  | succ a ih =>
    rw [sumI_s, ih, ← sumI_plus]
    exact sumI_congr (fun j hj => by rw [sumI_s])
theorem sum_cut {f : Nat → Int32} {k : Nat} (hk : k ≤ 6) (h : ∀ i, k ≤ i → i < 6 → f i = nI 0) : sumI f 6 = sumI f k := by
  obtain ⟨d, hd⟩ : ∃ d, 6 = k + d := ⟨6 - k, by omega⟩
  have e : sumI f 6 = sumI f (k + d) := by rw [← hd]
  rw [e]
  show acl f (k + d) 0 (nI 0) = _
  rw [acl_add, Nat.zero_add]
  exact acl0 d k _ (fun i h1 h2 => h i h1 (by omega))
theorem owe_sum {F : Nat → Int32} {k : Nat} (hS : SI F k) : sumI (fun t => owesF F t) k = sumI (fun t => owedF F t) k := by
  have hk := hS.1
  have e1 : sumI (fun t => owesF F t) k = sumI (fun t => sumI (fun u => F (366 + 6 * t + u)) k) k := sumI_congr (fun t ht => sum_cut hk (fun i h1 h2 => hS.2.2.2.2 t i (by omega) h2 (Or.inr (Or.inr h1))))
  have e2 : sumI (fun t => owedF F t) k = sumI (fun t => sumI (fun u => F (366 + 6 * u + t)) k) k := sumI_congr (fun t ht => sum_cut hk (fun i h1 h2 => hS.2.2.2.2 i t h2 (by omega) (Or.inr (Or.inl h1))))
  rw [e1, e2]
  exact sw_2 k k
theorem bestT_ge {F : Nat → Int32} {t : Nat} : ∀ (c y b : Nat), y + c = 24 → b < y → (∀ i, i < y → rightF F t t i ≤ rightF F t t b ∧ (rightF F t t i = rightF F t t b → b ≤ i)) → bestT F t c y b < 24 ∧ ∀ i, i < 24 → rightF F t t i ≤ rightF F t t (bestT F t c y b) ∧ (rightF F t t i = rightF F t t (bestT F t c y b) → bestT F t c y b ≤ i) := by
  intro c
  induction c with
  | zero =>
    intro y b h hb hi
    obtain rfl : y = 24 := by omega
    exact ⟨hb, hi⟩
  | succ c ih =>
    intro y b h hb hi
    simp only [bestT]
    by_cases q : rightF F t t y ≤ rightF F t t b
    · rw [if_pos q]
      refine ih (y + 1) b (by omega) (by omega) (fun i h1 => ?_)
      by_cases e : i = y
      · subst e; exact ⟨q, fun _ => by omega⟩
      · exact hi i (by omega)
    · rw [if_neg q]
      have q' := Int32.not_le.mp q
      refine ih (y + 1) y (by omega) (by omega) (fun i h1 => ?_)
      by_cases e : i = y
      · subst e; exact ⟨Int32.le_refl _, fun _ => Nat.le_refl _⟩
      · have h2 := (hi i (by omega)).1
        have h3 := Int32.lt_of_le_of_lt h2 q'
        exact ⟨Int32.le_of_lt h3, fun e => by rw [e] at h3; exact absurd h3 (Int32.lt_irrefl)⟩
theorem best_turn (F : Nat → Int32) (t : Nat) : ∃ b, b < 24 ∧ turnF F t 0 = nI b ∧ turnF F t 1 = rightF F t t b ∧ ∀ i, i < 24 → rightF F t t i ≤ rightF F t t b ∧ (rightF F t t i = rightF F t t b → b ≤ i) := by
  obtain ⟨h1, h2⟩ := bestT_ge (F := F) (t := t) 23 1 0 rfl (by omega) (fun i hi => by
    obtain rfl : i = 0 := by omega
    exact ⟨Int32.le_refl _, fun _ => Nat.le_refl _⟩)
  exact ⟨_, h1, rfl, rfl, h2⟩
theorem bestD_ge {F : Nat → Int32} {t k : Nat} : ∀ (c u b : Nat), u + c = k → k ≤ 6 → (b = 9 ∧ (∀ i, i < u → i = t) ∨ b < u ∧ b ≠ t ∧ ∀ i, i < u → i ≠ t → rightF F i t 0 ≤ rightF F b t 0 ∧ (rightF F i t 0 = rightF F b t 0 → b ≤ i)) →
    (bestD F t c u b = 9 ∧ (∀ i, i < k → i = t)) ∨ bestD F t c u b < k ∧ bestD F t c u b ≠ t ∧ ∀ i, i < k → i ≠ t → rightF F i t 0 ≤ rightF F (bestD F t c u b) t 0 ∧ (rightF F i t 0 = rightF F (bestD F t c u b) t 0 → bestD F t c u b ≤ i) := by
  intro c
  induction c with
  | zero =>
    intro u b h hk hb
    obtain rfl : u = k := by omega
    exact hb
  | succ c ih =>
    intro u b h hk hb
    simp only [bestD]
    by_cases e : u = t
    · rw [if_pos e]
      refine ih (u + 1) b (by omega) hk ?_
      rcases hb with ⟨h1, h2⟩ | ⟨h1, h2, h3⟩
      · refine Or.inl ⟨h1, fun i hi => ?_⟩
        by_cases q : i = u
        · omega
        · exact h2 i (by omega)
      · refine Or.inr ⟨by omega, h2, fun i hi hn => h3 i (by omega) hn⟩
    · rw [if_neg e]
      by_cases q9 : b = 9
      · rw [if_pos q9]
        refine ih (u + 1) u (by omega) hk (Or.inr ⟨by omega, e, fun i hi hn => ?_⟩)
        rcases hb with ⟨h1, h2⟩ | ⟨h1, h2, h3⟩
        · by_cases q : i = u
          · subst q; exact ⟨Int32.le_refl _, fun _ => Nat.le_refl _⟩
          · exact absurd (h2 i (by omega)) hn
        · omega
      · rw [if_neg q9]
        rcases hb with ⟨h1, h2⟩ | ⟨h1, h2, h3⟩
        · exact absurd h1 q9
        · by_cases q : rightF F u t 0 ≤ rightF F b t 0
          · rw [if_pos q]
            refine ih (u + 1) b (by omega) hk (Or.inr ⟨by omega, h2, fun i hi hn => ?_⟩)
            by_cases z : i = u
            · subst z; exact ⟨q, fun _ => by omega⟩
            · exact h3 i (by omega) hn
          · rw [if_neg q]
            have q' := Int32.not_le.mp q
            refine ih (u + 1) u (by omega) hk (Or.inr ⟨by omega, e, fun i hi hn => ?_⟩)
            by_cases z : i = u
            · subst z; exact ⟨Int32.le_refl _, fun _ => Nat.le_refl _⟩
            · have h4 := Int32.lt_of_le_of_lt (h3 i (by omega) hn).1 q'
              exact ⟨Int32.le_of_lt h4, fun e => by rw [e] at h4; exact absurd h4 (Int32.lt_irrefl)⟩
theorem best_drum {F : Nat → Int32} {k t : Nat} (hk : k ≤ 6) : (drumB F k t = -nI 1 ∧ (∀ i, i < k → i = t)) ∨ ∃ b, b < k ∧ b ≠ t ∧ drumB F k t = nI b ∧ ∀ i, i < k → i ≠ t → rightF F i t 0 ≤ rightF F b t 0 ∧ (rightF F i t 0 = rightF F b t 0 → b ≤ i) := by
  unfold drumB
  rcases bestD_ge (F := F) (t := t) (k := k) k 0 9 (by omega) hk (Or.inl ⟨rfl, fun i hi => by omega⟩) with ⟨h1, h2⟩ | ⟨h1, h2, h3⟩
  · exact Or.inl ⟨if_pos h1, h2⟩
  · exact Or.inr ⟨_, h1, h2, if_neg (by omega), h3⟩
/-- each town with its own drum is no better than the best trades -/
def sgm (g : Nat → Nat → Nat) : Nat → Nat → Nat
  | 0, _ => 0
  | c + 1, t => g t t + sgm g c (t + 1)
theorem opt_id {g : Nat → Nat → Nat} {k : Nat} : ∀ (c t U : Nat), t + c = k → (∀ e, t ≤ e → e < k → U.testBit e = false) → sgm g c t ≤ opt g k c t U := by
  intro c
  induction c with
  | zero => intros; exact Nat.zero_le _
  | succ c ih =>
    intro t U h hU
    simp only [opt, sgm]
    have i1 := ih (t + 1) (U ||| 2 ^ t) (by omega) (fun e h1 h2 => by
      rw [Nat.testBit_or, Nat.testBit_two_pow, hU e (by omega) h2]
      simp
      omega)
    rcases fbL_is (f := fun d => g t d + opt g k c (t + 1) (U ||| 2 ^ d)) (U := U) (k := k) k 0 0 0 (by omega) (Or.inl ⟨rfl, fun e he => by omega⟩) with ⟨h1, h2⟩ | ⟨h1, h2, h3, h4, h5⟩
    · have := h2 t (by omega)
      rw [hU t (Nat.le_refl _) (by omega)] at this
      cases this
    · have := h4 t (by omega) (hU t (Nat.le_refl _) (by omega))
      omega
theorem sgm_n {F : Nat → Int32} : ∀ (c t a : Nat), acl (fun t => townF F t 3) c t (nI a) = nI (a + sgm (gF F) c t) := by
  intro c
  induction c with
  | zero => intros; rfl
  | succ c ih =>
    intro t a
    show acl (fun t => townF F t 3) c (t + 1) (nI a + rightF F t t 0) = _
    rw [(gF_is F t t).1, nI_add, ih, Nat.add_assoc]
    rfl
theorem sgm_bd {F : Nat → Int32} : ∀ (c t : Nat), sgm (gF F) c t ≤ 288 * c := by
  intro c
  induction c with
  | zero => intro t; exact Nat.le_refl _
  | succ c ih =>
    intro t
    have h1 := (gF_is F t t).2
    have h2 := ih (t + 1)
    simp only [sgm]
    omega
theorem best_trades {F : Nat → Int32} {k : Nat} (hk : k ≤ 6) : ¬ tdV F k 0 < sumTF F k 3 := by
  have e : sumTF F k 3 = nI (0 + sgm (gF F) k 0) := sgm_n k 0 0
  have h1 := opt_id (g := gF F) (k := k) k 0 0 (by omega) (fun e _ _ => Nat.zero_testBit e)
  have h2 := opt_bd (g := gF F) (k := k) (fun t d => (gF_is F t d).2) k 0 0
  unfold tdV
  rw [if_pos rfl, e, nI_ltI (by omega) (by omega)]
  omega
