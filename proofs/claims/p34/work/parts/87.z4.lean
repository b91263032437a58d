/-! ===== playing and settling as acts; the acts ===== -/
section PL
variable {M : Mem} {F : Nat → Int32} {k m n l t : Nat} {Sv : Nat → Nat → Int32} {B : Nat → Int32}
theorem pl_all (hI : Iv F k m) (ht : t < 6) : PJ (tuneF F t) (drumF F t) 24 0 (plF F t) ∧ PK (wearF F t) (pinS (drumF F t)) 288 (plF F t) := by
  obtain ⟨d, ed, d1, d2⟩ := hI.2.2.2.1
  unfold plF
  rw [ed]
  exact play_all d2 (fun s hs => hI.1.2.2.1 _ (by omega) (by omega)) (fun s hs => hI.1.2.2.1 _ (by omega) (by omega)) (fun j hj => hI.2.2.1 _ (by omega) (by omega))
theorem py_b {P : PS} (ht : t < 6) : pyF F t P t = F t + P.2.2.2.2 3 := by
  unfold pyF
  rw [va_up_ne _ _ (by omega), va_up_ne _ _ (by omega), va_up_ne _ _ (by omega), va_up_self]
theorem py_r {P : PS} {i : Nat} (hi : i < 402 ∨ 420 ≤ i) (ht : t < 6) (h : i ≠ t) : pyF F t P i = rowF F t P i := by
  unfold pyF
  rw [va_up_ne _ _ (by omega), va_up_ne _ _ (by omega), va_up_ne _ _ (by omega), va_up_ne _ _ (by omega)]
theorem py_d {P : PS} {s : Nat} (ht : t < 6) (hs : s < 24) : pyF F t P (6 + 24 * t + s) = P.1 s := by
  rw [py_r (by omega) ht (by omega)]
  unfold rowF
  rw [putR_o (by omega), putR_i hs]
theorem py_w {P : PS} {s : Nat} (ht : t < 6) (hs : s < 12) : pyF F t P (294 + 12 * t + s) = P.2.1 s := by
  rw [py_r (by omega) ht (by omega)]
  unfold rowF
  rw [putR_i hs]
theorem py_o {P : PS} {i : Nat} (ht : t < 6) (h : i ≠ t) (h1 : i < 6 + 24 * t ∨ 6 + 24 * t + 24 ≤ i) (h2 : i < 294 + 12 * t ∨ 294 + 12 * t + 12 ≤ i) (hi : i < 402 ∨ 420 ≤ i) : pyF F t P i = F i := by
  rw [py_r hi ht h]
  unfold rowF
  rw [putR_o h2, putR_o h1]
theorem py_pins {P : PS} (ht : t < 6) : pinsF (pyF F t P) 6 t = pinS P.1 := pins_d (fun s hs => py_d ht hs)
theorem py_right {P : PS} (ht : t < 6) : rightF (pyF F t P) t t 0 = rigS P.1 (tuneF F t) := sumI_congr (fun s hs => by
  rw [py_d ht hs, show (s + 0) % 24 = s by omega, py_o ht (by omega) (by omega) (by omega) (by omega)]
  rfl)
theorem right_rig : rightF F t t 0 = rigS (drumF F t) (tuneF F t) := sumI_congr (fun s hs => by
  rw [show (s + 0) % 24 = s by omega]
  rfl)
theorem py_I (hI : Iv F k m) (hm : m ≤ 100) (ht : t < k) : Iv (pyF F t (plF F t)) k (m + 1) ∧ totF (pyF F t (plF F t)) k = totF F k := by
  have hk := hI.1.1
  have h6 : t < 6 := by omega
  obtain ⟨hJ, ⟨a, b, c, f, g, e0, e1, e2, e3, e4, h1, h2, h3, h4⟩, hw⟩ := pl_all hI h6
  refine ⟨hI.ch (hI.1.py h6 (plF_msk hI.1 h6)) (fun i hi => ?_) (fun i a b => ?_) (Or.inl ?_) (Or.inl ?_) (fun i a b => Or.inl ?_), tot_1 (fun i hi => ?_)⟩
  · by_cases z : i = t
    · subst z
      obtain ⟨x, ex, hx⟩ := hI.2.1 i hi
      rw [py_b h6, ex, e3, nI_add]
      exact Or.inr ⟨x + f, rfl, by omega⟩
    · exact Or.inl (py_o h6 z (by omega) (by omega) (by omega))
  · by_cases z : 294 + 12 * t ≤ i ∧ i < 294 + 12 * t + 12
    · obtain ⟨s, rfl⟩ : ∃ s, i = 294 + 12 * t + s := ⟨i - (294 + 12 * t), by omega⟩
      obtain ⟨w0, w, g1, g2, g3, g4⟩ := hw s (by omega)
      rw [py_w h6 (by omega)]
      exact Or.inr ⟨w, g2, g4⟩
    · exact Or.inl (py_o h6 (by omega) (by omega) (by omega) (by omega))
  · exact py_o h6 (by omega) (by omega) (by omega) (by omega)
  · exact py_o h6 (by omega) (by omega) (by omega) (by omega)
  · exact py_o h6 (by omega) (by omega) (by omega) (by omega)
  · by_cases z : i = t
    · subst z
      rw [py_b h6, py_pins h6, Int32.add_assoc, Int32.add_comm ((plF F i).2.2.2.2 3), hJ.2.2.2.2.2.2.2.1]
      rfl
    · rw [py_o h6 z (by omega) (by omega) (by omega), pins_o (F := F) (fun s hs => py_o h6 (by omega) (by omega) (by omega) (by omega))]
theorem stl_o {k : Nat} (hk : k ≤ 6) : ∀ (c y : Nat) (F : Nat → Int32) (e : Nat), (e < 366 ∨ 402 ≤ e ∧ e < 426) → (stl k c y F).2 e = F e := by
  intro c
  induction c with
  | zero => intros; rfl
  | succ c ih =>
    intro y F e he
    simp only [stl]
    cases hr : rngF F k with
    | none => rfl
    | some q =>
      obtain ⟨z, x⟩ := q
      obtain ⟨z2, zk, z6, z3, z4, hx⟩ := rng_ok hk hr
      show (stl k c (y + 1) (tkF F x z)).2 e = F e
      rw [ih _ _ _ he, tkF_d (by omega), tkL_o hx z 0 F e (by omega) (by omega)]
theorem tk_D {k z b : Nat} {x : Nat → Nat} (hk : k ≤ 6) (hb : b < 2 ^ 30) (hr : rngF F k = some (z, x)) (h : ∀ i, 366 ≤ i → i < 402 → ∃ v, F i = nI v ∧ v ≤ b) : ∀ i, 366 ≤ i → i < 402 → ∃ v, tkF F x z i = nI v ∧ v ≤ b := by
  obtain ⟨z2, zk, z6, z3, z4, hx⟩ := rng_ok hk hr
  obtain ⟨⟨j, hj, ej⟩, hle⟩ := lsF_is (F := F) (x := x) (z := z) z2
  have hjx := hx j hj
  obtain ⟨v, ev, hv⟩ := h (366 + 6 * x j + fol x z j) (by omega) (by omega)
  intro i h1 h2
  rw [tkF_d (by omega)]
  by_cases q : ∃ j, 0 ≤ j ∧ j < z ∧ i = 366 + 6 * x j + fol x z j
  · obtain ⟨j', h0, hj', rfl⟩ := q
    rw [(tkL_v hx z3.2.1 z 0 F _ (by omega)).1 ⟨j', h0, hj', rfl⟩]
    obtain ⟨v', ev', hv'⟩ := h _ h1 h2
    have := hle j' hj'
    rw [ej, ev, ev', nI_leI (by omega) (by omega)] at this
    rw [ej, ev, ev', pk_sub this]
    exact ⟨v' - v, rfl, by omega⟩
  · rw [(tkL_v hx z3.2.1 z 0 F i (by omega)).2 (fun j' a b e => q ⟨j', a, b, e⟩)]
    exact h i h1 h2
theorem stl_D {k b : Nat} (hk : k ≤ 6) (hb : b < 2 ^ 30) : ∀ (c y : Nat) (F : Nat → Int32), (∀ i, 366 ≤ i → i < 402 → ∃ v, F i = nI v ∧ v ≤ b) → ∀ i, 366 ≤ i → i < 402 → ∃ v, (stl k c y F).2 i = nI v ∧ v ≤ b := by
  intro c
  induction c with
  | zero => intro y F h; exact h
  | succ c ih =>
    intro y F h
    simp only [stl]
    cases hr : rngF F k with
    | none => exact h
    | some q =>
      obtain ⟨z, x⟩ := q
      exact ih (y + 1) (tkF F x z) (tk_D hk hb hr h)
theorem stl_n {k : Nat} : ∀ (c y : Nat) (F : Nat → Int32), y ≤ (stl k c y F).1 ∧ (stl k c y F).1 ≤ y + c := by
  intro c
  induction c with
  | zero => intro y F; exact ⟨Nat.le_refl _, Nat.le_refl _⟩
  | succ c ih =>
    intro y F
    simp only [stl]
    cases hr : rngF F k with
    | none => exact ⟨Nat.le_refl _, Nat.le_add_right _ _⟩
    | some q =>
      obtain ⟨z, x⟩ := q
      have := ih (y + 1) (tkF F x z)
      exact ⟨by show y ≤ (stl k c (y + 1) (tkF F x z)).1; omega, by show (stl k c (y + 1) (tkF F x z)).1 ≤ _; omega⟩
theorem stl_I (hI : Iv F k m) (hm : m ≤ 100) : Iv (stl k 31 0 F).2 k (m + 1) ∧ totF (stl k 31 0 F).2 k = totF F k := by
  have hk := hI.1.1
  have hD := stl_D (k := k) (b := 200 * m) hk (by omega) 31 0 F hI.2.2.2.2.2
  refine ⟨hI.ch (stl_SI 31 0 F hI.1) (fun i hi => Or.inl (stl_o hk 31 0 F i (by omega))) (fun i a b => Or.inl (stl_o hk 31 0 F i (by omega))) (Or.inl (stl_o hk 31 0 F _ (by omega))) (Or.inl (stl_o hk 31 0 F _ (by omega))) (fun i a b => ?_), tot_eq hk (fun i hi => stl_o hk 31 0 F i (by omega))⟩
  obtain ⟨v, ev, hv⟩ := hD i a b
  exact Or.inr ⟨v, ev, by omega⟩
theorem low_ex (z : Int32) {N : Nat} (h0 : 0 < N) (hN : N < 2 ^ 31) : ∃ j, j < N ∧ ∀ M : Mem, f_L_low z (nI N) M = some (nI j, M) := by
  obtain ⟨v, hv, ev⟩ := pk_andE z (m := (2147483647 : Int32)) 31 (by decide)
  refine ⟨v % N, Nat.mod_lt _ h0, fun M => ?_⟩
  unfold f_L_low
  have h1 : (!decide (nI N = 0)) = true := by
    have : ¬ nI N = 0 := fun e => by
      have := (nI_eq hN (show 0 < 2 ^ 31 by omega)).mp e
      omega
    simp [this]
  rw [h1, chk_tt, ev, pk_rem (by omega) h0 hN]
theorem a_play (hX : JX M F n Sv l B) (hI : Iv F k m) (hm : m ≤ 100) (ht : t < k) : ∃ got M1, f_X6_play (nI t) M = some (.inl got, M1) ∧ Ga M F k m n Sv l B got M1 := by
  obtain ⟨M1, e1, x1, s1⟩ := y_play1 hX hI.1 ht
  obtain ⟨i1, i2⟩ := py_I hI hm ht
  have hk := hI.1.1
  obtain ⟨hJ, ⟨a, b, c, f, g, e0, _, _, _, _, h1, h2, h3, h4⟩, hw⟩ := pl_all hI (show t < 6 by omega)
  exact ⟨_, M1, e1, Or.inr ⟨okN.ge ⟨a, by omega, e0⟩, _, x1, i1, i2⟩⟩
theorem a_settle (hX : JX M F n Sv l B) (hI : Iv F k m) (hm : m ≤ 100) : ∃ got M1, f_X6_settle M = some (got, M1) ∧ Ga M F k m n Sv l B got M1 := by
  obtain ⟨M1, e1, x1, s1⟩ := y_settle hX hI.1
  obtain ⟨i1, i2⟩ := stl_I hI hm
  have := stl_n (k := k) 31 0 F
  exact ⟨_, M1, e1, Or.inr ⟨okN.ge ⟨(stl k 31 0 F).1, by omega, rfl⟩, _, x1, i1, i2⟩⟩
theorem a_83 (hX : JX M F n Sv l B) (hI : Iv F k m) (hm : m ≤ 100) {y z : Int32} {N ja jb js : Nat} (hN0 : 0 < N) (hN : N < 2 ^ 31) (ha : ja ≤ k) : ∃ got M1, f_L_acts_83 y (nI k) (nI ja) (nI jb) (nI js) z (nI N) M = some (got, M1) ∧ Ga M F k m n Sv l B got M1 := by
  have hk := hI.1.1
  obtain ⟨jt, ht, et⟩ := low_ex z hN0 hN
  obtain ⟨c, hc, ec⟩ := low_ex y (show 0 < 16 by omega) (show 16 < 2 ^ 31 by omega)
  have ec' : f_L_low y 16 M = some (nI c, M) := ec M
  unfold f_L_acts_83
  rw [et M, bn_s, ec', bn_s]
  have pl : ∃ got M1, (if nI k ≤ nI ja then f_L_acts_232 (-903) M else bq (f_X6_play (nI ja) M) fun r223 M223 => f_L_acts_232 r223 M223) = some (got, M1) ∧ Ga M F k m n Sv l B got M1 := by
    by_cases q : k ≤ ja
    · rw [if_pos ((nI_leI (by omega) (by omega)).mpr q)]
      exact ⟨-903, M, rfl, Or.inl ⟨by decide, hX⟩⟩
    · rw [if_neg (fun e => q ((nI_leI (by omega) (by omega)).mp e))]
      obtain ⟨got, M1, e1, g1⟩ := a_play hX hI hm (show ja < k by omega)
      rw [e1, bq_s]
      exact ⟨got, M1, rfl, g1⟩
  rcases (show c = 0 ∨ c = 1 ∨ c = 2 ∨ c = 3 ∨ c = 4 ∨ c = 5 ∨ c = 6 ∨ c = 7 ∨ c = 8 ∨ c = 9 ∨ c = 10 ∨ c = 11 ∨ c = 12 ∨ c = 13 ∨ c = 14 ∨ c = 15 by omega) with rfl | rfl | rfl | rfl | rfl | rfl | rfl | rfl | rfl | rfl | rfl | rfl | rfl | rfl | rfl | rfl
  · exact a_put hX hI _ _ _
  · exact a_put hX hI _ _ _
  · exact a_put hX hI _ _ _
  · exact a_put hX hI _ _ _
  · exact a_pull hX hI hm _ _ _
  · exact a_move hX hI _ _ _ _
  · exact a_trade hX hI _ _
  · exact a_turn hX hI _ _
  · exact pl
  · exact pl
  · exact a_file hX hI _ _
  · obtain ⟨j, hj, ej⟩ := low_ex (y >>> ((12 : Int32) &&& 31)) (show 0 < 40 by omega) (show 40 < 2 ^ 31 by omega)
    obtain ⟨got, M1, e1, g1⟩ := a_lend hX hI hm (nI ja) (nI jb) (nI j)
    refine ⟨got, M1, ?_, g1⟩
    show bn (f_L_low (y >>> ((12 : Int32) &&& 31)) (nI 40) M) (fun r251 M251 => f_L_lend (nI ja) (nI jb) r251 M251) = _
    rw [ej, bn_s, e1]
  · obtain ⟨j, hj, ej⟩ := low_ex (y >>> ((12 : Int32) &&& 31)) (show 0 < 40 by omega) (show 40 < 2 ^ 31 by omega)
    obtain ⟨got, M1, e1, g1⟩ := a_lend hX hI hm (nI ja) (nI jb) (nI j)
    refine ⟨got, M1, ?_, g1⟩
    show bn (f_L_low (y >>> ((12 : Int32) &&& 31)) (nI 40) M) (fun r251 M251 => f_L_lend (nI ja) (nI jb) r251 M251) = _
    rw [ej, bn_s, e1]
  · obtain ⟨j, hj, ej⟩ := low_ex (y >>> ((12 : Int32) &&& 31)) (show 0 < 40 by omega) (show 40 < 2 ^ 31 by omega)
    obtain ⟨got, M1, e1, g1⟩ := a_repay hX hI hm (nI ja) (nI jb) (nI j)
    refine ⟨got, M1, ?_, g1⟩
    show bn (f_L_low (y >>> ((12 : Int32) &&& 31)) (nI 40) M) (fun r268 M268 => f_L_repay (nI ja) (nI jb) r268 M268) = _
    rw [ej, bn_s, e1]
  · obtain ⟨j, hj, ej⟩ := low_ex (y >>> ((9 : Int32) &&& 31)) (show 0 < 4 by omega) (show 4 < 2 ^ 31 by omega)
    obtain ⟨j2, hj2, ej2⟩ := low_ex (y >>> ((12 : Int32) &&& 31)) (show 0 < 30 by omega) (show 30 < 2 ^ 31 by omega)
    obtain ⟨got, M1, e1, g1⟩ := a_set hX hI (nI j) (nI j2)
    refine ⟨got, M1, ?_, g1⟩
    show bn (f_L_low (y >>> ((9 : Int32) &&& 31)) (nI 4) M) (fun r281 M281 => bn (f_L_low (y >>> ((12 : Int32) &&& 31)) (nI 30) M281) fun r290 M290 => f_L_set r281 r290 M290) = _
    rw [ej, bn_s, ej2, bn_s, e1]
  · obtain ⟨got, M1, e1, g1⟩ := a_settle hX hI hm
    refine ⟨got, M1, ?_, g1⟩
    show bn (f_X6_settle M) (fun r298 M298 => some (r298, M298)) = _
    rw [e1, bn_s]
theorem act_ok (hX : JX M F n Sv l B) (hI : Iv F k m) (hm : m ≤ 100) (hk0 : 1 ≤ k) (y : Int32) : ∃ got M1, f_L_acts y M = some (got, M1) ∧ Ga M F k m n Sv l B got M1 := by
  have hk := hI.1.1
  have hc : f_X6_count 0 M = some (.inl (nI k), M) := x_countQ hX.1.1 hI.1 (by obtain ⟨_, p, hp, _⟩ := hX.1; exact hp.2.1) (w := 0) (by omega)
  have key : ∀ (z1 : Int32) (N : Nat), 0 < N → N ≤ k + 1 → ∃ got M1, f_L_acts_26 y (nI k) z1 (nI N) M = some (got, M1) ∧ Ga M F k m n Sv l B got M1 := by
    intro z1 N h0 hN
    obtain ⟨ja, h1, e1⟩ := low_ex z1 h0 (show N < 2 ^ 31 by omega)
    obtain ⟨jb, h2, e2⟩ := low_ex (y >>> ((7 : Int32) &&& 31)) (show 0 < k by omega) (show k < 2 ^ 31 by omega)
    have k59 : ∀ (z : Int32) (N : Nat), 0 < N → N < 100 → ∃ got M1, f_L_acts_59 y (nI k) (nI ja) (nI jb) z (nI N) M = some (got, M1) ∧ Ga M F k m n Sv l B got M1 := by
      intro z N h0 hN
      obtain ⟨js, h3, e3⟩ := low_ex z h0 (show N < 2 ^ 31 by omega)
      unfold f_L_acts_59
      rw [e3, bn_s]
      by_cases q : (y >>> ((25 : Int32) &&& 31)) &&& (3 : Int32) = 0
      · rw [if_pos q]
        exact a_83 hX hI hm (N := 13) (by omega) (by omega) (by omega)
      · rw [if_neg q]
        exact a_83 hX hI hm (N := 3) (by omega) (by omega) (by omega)
    unfold f_L_acts_26
    rw [e1, bn_s, e2, bn_s]
    by_cases q : (y >>> ((24 : Int32) &&& 31)) &&& (3 : Int32) = 0
    · rw [if_pos q]; exact k59 _ 25 (by omega) (by omega)
    · rw [if_neg q]; exact k59 _ 5 (by omega) (by omega)
  unfold f_L_acts
  rw [hc, bq_s]
  by_cases q : (y >>> ((26 : Int32) &&& 31)) &&& (7 : Int32) = 0
  · rw [if_pos q, show nI k + (1 : Int32) = nI (k + 1) from nI_add k 1]
    exact key _ (k + 1) (by omega) (by omega)
  · rw [if_neg q]
    exact key _ k (by omega) (by omega)
end PL
