/-! ===== all pins stay as many; numbers stay small ===== -/
def totF (F : Nat → Int32) (k : Nat) : Int32 := sumI (fun i => F i + pinsF F 6 i) k
theorem totF_c {F : Nat → Int32} {k n : Nat} : countF F k n 1 = totF F k := (sumI_plus (f := fun t => townF F t 0) (g := fun t => townF F t 1) (n := k)).symm
theorem tot_1 {F F' : Nat → Int32} {k : Nat} (h : ∀ i, i < k → F' i + pinsF F' 6 i = F i + pinsF F 6 i) : totF F' k = totF F k := sumI_congr h
theorem i_ex {a b a' b' s : Int32} (h : a' + b' = a + b) : s + (a' - a) + (b' - b) = s := by grind
theorem tot_2 {F F' : Nat → Int32} {k t u : Nat} (ht : t < k) (hu : u < k) (e : t ≠ u) (ho : ∀ i, i < k → i ≠ t → i ≠ u → F' i + pinsF F' 6 i = F i + pinsF F 6 i) (h2 : F' t + pinsF F' 6 t + (F' u + pinsF F' 6 u) = F t + pinsF F 6 t + (F u + pinsF F 6 u)) : totF F' k = totF F k := by
  have e1 : totF F' k = sumI (va_up (va_up (fun i => F i + pinsF F 6 i) t (F' t + pinsF F' 6 t)) u (F' u + pinsF F' 6 u)) k := sumI_congr (fun i hi => by
    by_cases q : i = u
    · subst q; rw [va_up_self]
    · rw [va_up_ne _ _ q]
      by_cases q' : i = t
      · subst q'; rw [va_up_self]
      · rw [va_up_ne _ _ q']; exact ho i hi q' q)
  rw [e1, sumI_up hu, sumI_up ht, va_up_ne _ _ (Ne.symm e)]
  exact i_ex h2
theorem pins_o {F F' : Nat → Int32} {i : Nat} (h : ∀ s, s < 24 → F' (6 + 24 * i + s) = F (6 + 24 * i + s)) : pinsF F' 6 i = pinsF F 6 i := sumI_congr (fun s hs => by rw [h s hs])
theorem pins_d {F : Nat → Int32} {t : Nat} {D : Nat → Int32} (h : ∀ s, s < 24 → F (6 + 24 * t + s) = D s) : pinsF F 6 t = pinS D := sumI_congr (fun s hs => by rw [h s hs])
theorem up_row {F : Nat → Int32} {a s s' : Nat} {v : Int32} : va_up F (a + s) v (a + s') = va_up (fun x => F (a + x)) s v s' := by
  by_cases e : s' = s
  · subst e; rw [va_up_self, va_up_self]
  · rw [va_up_ne _ _ e, va_up_ne _ _ (by omega)]
theorem i_mp (a p : Int32) : a - nI 1 + (p + nI 1) = a + p := by
  rw [Int32.add_comm p, ← Int32.add_assoc, Int32.sub_add_cancel]
theorem i_pm {a p p' : Int32} (h : p' + nI 1 = p) : a + nI 1 + p' = a + p := by rw [← h, Int32.add_assoc, Int32.add_comm (nI 1)]
section TT
variable {F : Nat → Int32} {k t u s q : Nat}
theorem tot_put (hS : SI F k) (ht : t < k) (hs : s < 24) (hq : q < 12) (h : bitK (F (6 + 24 * t + s)) q = nI 0) : totF (putF F t s q) k = totF F k ∧ pinsF (putF F t s q) 6 t = pinsF F 6 t + nI 1 := by
  have hk := hS.1
  have hm := hS.2.2.1 (6 + 24 * t + s) (by omega) (by omega)
  have e : pinsF (putF F t s q) 6 t = pinsF F 6 t + nI 1 := by
    have := pins_d (F := putF F t s q) (t := t) (D := va_up (drumF F t) s (drumF F t s ||| bit q)) (fun s' hs' => by
      unfold putF
      rw [up_row]
      by_cases z : s' = s
      · subst z; rw [va_up_self, va_up_self]; rfl
      · rw [va_up_ne _ _ z, va_up_ne _ _ z, va_up_ne _ _ (by omega)]; rfl)
    rw [this, pinS_in (D := drumF F t) hs hq hm h]
    rfl
  refine ⟨tot_1 (fun i hi => ?_), e⟩
  by_cases z : i = t
  · subst z
    rw [e]
    unfold putF
    rw [va_up_ne _ _ (by omega), va_up_self]
    exact i_mp _ _
  · rw [pins_o (F := F) (fun s' hs' => by unfold putF; rw [va_up_ne _ _ (by omega), va_up_ne _ _ (by omega)])]
    unfold putF
    rw [va_up_ne _ _ (by omega), va_up_ne _ _ (by omega)]
theorem tot_pull (hS : SI F k) (ht : t < k) (hs : s < 24) (hq : q < 12) (h : ¬ bitK (F (6 + 24 * t + s)) q = nI 0) : totF (pullF F t s q) k = totF F k := by
  have hk := hS.1
  have hm := hS.2.2.1 (6 + 24 * t + s) (by omega) (by omega)
  have e : pinsF (pullF F t s q) 6 t + nI 1 = pinsF F 6 t := by
    have := pins_d (F := pullF F t s q) (t := t) (D := va_up (drumF F t) s (drumF F t s &&& nbit q)) (fun s' hs' => by
      unfold pullF
      rw [va_up_ne _ _ (by omega), up_row]
      rfl)
    rw [this, pinS_out (D := drumF F t) hs hq hm h]
    rfl
  refine tot_1 (fun i hi => ?_)
  by_cases z : i = t
  · subst z
    have := i_pm (a := F i) e
    unfold pullF at this ⊢
    rw [va_up_self]
    exact this
  · rw [pins_o (F := F) (fun s' hs' => by unfold pullF; rw [va_up_ne _ _ (by omega), va_up_ne _ _ (by omega)])]
    unfold pullF
    rw [va_up_ne _ _ (by omega), va_up_ne _ _ (by omega)]
theorem tot_move (hS : SI F k) (ht : t < k) (hu : u < k) (e : t ≠ u) (hs : s < 24) (hq : q < 12) (h : ¬ bitK (F (6 + 24 * t + s)) q = nI 0) (h' : bitK (F (6 + 24 * u + s)) q = nI 0) : totF (moveF F t u s q) k = totF F k := by
  have hk := hS.1
  have hm := hS.2.2.1 (6 + 24 * t + s) (by omega) (by omega)
  have hm' := hS.2.2.1 (6 + 24 * u + s) (by omega) (by omega)
  have e1 : pinsF (moveF F t u s q) 6 t + nI 1 = pinsF F 6 t := by
    have := pins_d (F := moveF F t u s q) (t := t) (D := va_up (drumF F t) s (drumF F t s &&& nbit q)) (fun s' hs' => by
      unfold moveF
      rw [va_up_ne _ _ (by omega), up_row]
      rfl)
    rw [this, pinS_out (D := drumF F t) hs hq hm h]
    rfl
  have e2 : pinsF (moveF F t u s q) 6 u = pinsF F 6 u + nI 1 := by
    have := pins_d (F := moveF F t u s q) (t := u) (D := va_up (drumF F u) s (drumF F u s ||| bit q)) (fun s' hs' => by
      unfold moveF
      rw [up_row]
      by_cases z : s' = s
      · subst z; rw [va_up_self, va_up_self]; rfl
      · rw [va_up_ne _ _ z, va_up_ne _ _ z, va_up_ne _ _ (by omega)]; rfl)
    rw [this, pinS_in (D := drumF F u) hs hq hm' h']
    rfl
  have eb : ∀ i, i < 6 → moveF F t u s q i = F i := fun i hi => by unfold moveF; rw [va_up_ne _ _ (by omega), va_up_ne _ _ (by omega)]
  refine tot_2 ht hu e (fun i hi h1 h2 => ?_) ?_
  · rw [eb i (by omega), pins_o (F := F) (fun s' hs' => by unfold moveF; rw [va_up_ne _ _ (by omega), va_up_ne _ _ (by omega)])]
  · rw [eb t (by omega), eb u (by omega), e2, ← e1]
    generalize pinsF (moveF F t u s q) 6 t = x
    generalize pinsF F 6 u = y
    generalize F t = a
    generalize F u = b
    generalize nI 1 = c
    grind
theorem tot_tr (hS : SI F k) (ht : t < k) (hu : u < k) (e : t ≠ u) : totF (trF F t u 24) k = totF F k := by
  have hk := hS.1
  have e1 : pinsF (trF F t u 24) 6 t = pinsF F 6 u := pins_d (D := drumF F u) (fun s hs => by unfold trF; rw [putR_o (by omega), putR_i hs])
  have e2 : pinsF (trF F t u 24) 6 u = pinsF F 6 t := pins_d (D := drumF F t) (fun s hs => by unfold trF; rw [putR_i hs])
  have eb : ∀ i, i < 6 → trF F t u 24 i = F i := fun i hi => by unfold trF; rw [putR_o (by omega), putR_o (by omega)]
  refine tot_2 ht hu e (fun i hi h1 h2 => ?_) ?_
  · rw [eb i (by omega), pins_o (F := F) (fun s' hs' => by unfold trF; rw [putR_o (by omega), putR_o (by omega)])]
  · rw [eb t (by omega), eb u (by omega), e1, e2]
    generalize pinsF F 6 t = x
    generalize pinsF F 6 u = y
    generalize F t = a
    generalize F u = b
    grind
theorem tot_car {F' : Nat → Int32} {c : Int32} (hk : k ≤ 6) (ht : t < k) (hu : u < k) (e : t ≠ u) (hF : ∀ i, i < 366 → F' i = carF F t u c i) : totF F' k = totF F k := by
  have ep : ∀ i, i < 6 → pinsF F' 6 i = pinsF F 6 i := fun i hi => pins_o (fun s hs => by rw [hF _ (by omega), carF_o (by omega) (by omega) (by omega)])
  refine tot_2 ht hu e (fun i hi h1 h2 => ?_) ?_
  · rw [ep i (by omega), hF i (by omega)]
    unfold carF
    rw [va_up_ne _ _ h2, va_up_ne _ _ h1]
  · rw [ep t (by omega), ep u (by omega), hF t (by omega), hF u (by omega)]
    unfold carF
    rw [va_up_self, va_up_ne _ _ e, va_up_self]
    generalize pinsF F 6 t = x
    generalize pinsF F 6 u = y
    generalize F t = a
    generalize F u = b
    grind
theorem tot_eq {F' : Nat → Int32} (hk : k ≤ 6) (h : ∀ i, i < 150 → F' i = F i) : totF F' k = totF F k := tot_1 (fun i hi => by
  rw [h i (by omega), pins_o (fun s hs => h _ (by omega))])
end TT
/-- a rotated sum -/
theorem rot_1 {f : Nat → Int32} : sumI (fun s => f ((s + 1) % 24)) 24 = sumI f 24 := by
  have e : sumI (fun s => f ((s + 1) % 24)) 24 = sumI (fun s => f (s + 1)) 23 + f 0 := by
    rw [show (24 : Nat) = 23 + 1 from rfl, sumI_s]
    congr 1
    all_goals exact sumI_congr (fun i hi => by rw [show (i + 1) % (23 + 1) = i + 1 by omega])
  have e2 : ∀ n a, acl f n 1 a = acl (fun s => f (s + 1)) n 0 a := fun n a => by
    rw [show 1 = 1 + 0 from rfl, acl_shift 1]
    exact acl_congr n 0 a (fun i _ _ => by rw [Nat.add_comm])
  have e3 : sumI f 24 = sumI (fun s => f (s + 1)) 23 + f 0 := by
    show acl f 23 1 (nI 0 + f 0) = _
    rw [e2, acl_in]
    rfl
  rw [e, e3]
theorem rot_n {f : Nat → Int32} : ∀ b, sumI (fun s => f ((s + b) % 24)) 24 = sumI f 24 := by
  intro b
  induction b with
  | zero => exact sumI_congr (fun i hi => by rw [show (i + 0) % 24 = i by omega])
  | succ b ih =>
    rw [← ih]
    have := rot_1 (f := fun s => f ((s + b) % 24))
    rw [← this]
    exact sumI_congr (fun i hi => by
      show f ((i + (b + 1)) % 24) = f (((i + 1) % 24 + b) % 24)
      congr 1
      omega)
theorem pins_tu {F : Nat → Int32} {t b : Nat} : pinsF (tuF F t b) 6 t = pinsF F 6 t := by
  rw [pins_d (D := tuD F t b) (fun s hs => by unfold tuF; rw [putR_i hs])]
  exact rot_n (f := fun s => bitsI (F (6 + 24 * t + s))) (24 - b)
theorem right_tu {F : Nat → Int32} {t b : Nat} (ht : t < 6) (hb : b < 24) : rightF (tuF F t b) t t 0 = rightF F t t b := by
  have e : rightF F t t b = sumI (fun s => (fun s => bitsI (F (6 + 24 * t + s) &&& F (150 + 24 * t + (s + b) % 24))) ((s + (24 - b)) % 24)) 24 := (rot_n (f := fun s => bitsI (F (6 + 24 * t + s) &&& F (150 + 24 * t + (s + b) % 24))) (24 - b)).symm
  rw [e]
  exact sumI_congr (fun s hs => by
    obtain ⟨q1, q2⟩ := tu_r hs hb
    dsimp only
    rw [q1, show (s + 0) % 24 = s by omega]
    unfold tuF
    rw [putR_i hs, putR_o (by omega)]
    rfl)
theorem right_tr {F : Nat → Int32} {t u : Nat} (ht : t < 6) (hu : u < 6) (e : t ≠ u) : rightF (trF F t u 24) t t 0 = rightF F u t 0 := sumI_congr (fun s hs => by
  unfold trF
  rw [putR_o (by omega), putR_i hs, putR_o (by omega), putR_o (by omega)]
  rfl)
