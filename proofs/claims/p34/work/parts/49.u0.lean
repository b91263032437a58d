/-! ===== what changes the state ===== -/
theorem SI.up {F : Nat → Int32} {k i : Nat} {v : Int32} (h : SI F k) (h1 : 6 ≤ i → i < 294 → msk v) (h2 : i = 420 → ∃ r, r ≤ 24 ∧ v = nI r) (h3 : i ≠ 423) (h4 : 366 ≤ i → i < 402 → ∃ f t, f < k ∧ t < k ∧ f ≠ t ∧ i = 366 + 6 * f + t) : SI (va_up F i v) k := by
  obtain ⟨g1, g2, g3, g4, g5⟩ := h
  refine ⟨g1, ?_, fun j a b => ?_, ?_, fun f t hf ht q => ?_⟩
  · rw [va_up_ne _ _ (by omega)]; exact g2
  · by_cases e : j = i
    · subst e; rw [va_up_self]; exact h1 a b
    · rw [va_up_ne _ _ e]; exact g3 j a b
  · by_cases e : i = 420
    · subst e; rw [va_up_self]; exact h2 rfl
    · rw [va_up_ne _ _ (by omega)]; exact g4
  · by_cases e : 366 + 6 * f + t = i
    · obtain ⟨f', t', a1, a2, a3, a4⟩ := h4 (by omega) (by omega)
      have : f = f' := by omega
      have : t = t' := by omega
      omega
    · rw [va_up_ne _ _ e]; exact g5 f t hf ht q
theorem JX.w {M : Mem} {F : Nat → Int32} {n l : Nat} {Sv : Nat → Nat → Int32} {B : Nat → Int32} (h : JX M F n Sv l B) {c s : Nat} (v : Int32) (i : Nat) (hi : i < 428) (hc : 34 + lc i = c) (hs : lsl i = s) : JX (mw M c s v) (va_up F i v) n Sv l B := by
  obtain ⟨⟨hF, p, hp, hS⟩, h2, h3⟩ := h
  have hl := (liv_ok i hi).2
  refine ⟨⟨hF.w v i hi hc hs, p, ⟨hp.1, by rw [mwn (by omega)]; exact hp.2.1, fun j hj => by rw [mwn (by omega)]; exact hp.2.2.1 j hj, hp.2.2.2⟩, fun j hj => ?_⟩, by rw [mwn (by omega)]; exact h2, fun j hj => by rw [mwn (by omega)]; exact h3 j hj⟩
  have := hp.2.2.1 j (by have := hp.1; omega)
  exact (hS j hj).o v (by omega)
theorem JM.w {M : Mem} {F : Nat → Int32} {n l : Nat} {Sv : Nat → Nat → Int32} {B : Nat → Int32} (h : JM M F n Sv l B) {i : Nat} (v : Int32) (hi : i < 428) : JM (mw M 25 i v) (va_up F i v) n Sv l B := by
  obtain ⟨⟨h1, h2, h3, h4⟩, h5, h6⟩ := h
  refine ⟨⟨fun j hj => ?_, by rw [mwn (by omega)]; exact h2, h3, fun j i' hj hi' => by rw [mwn (by omega)]; exact h4 j i' hj hi'⟩, by rw [mwn (by omega)]; exact h5, fun j hj => by rw [mwn (by omega)]; exact h6 j hj⟩
  by_cases e : j = i
  · subst e; rw [mw_eq, va_up_self]
  · rw [mwn (by omega), va_up_ne _ _ e]; exact h1 j hj
theorem upc {F : Nat → Int32} {i j : Nat} {a b : Int32} (h : i ≠ j) : va_up (va_up F i a) j b = va_up (va_up F j b) i a := by
  funext x
  by_cases e : x = i
  · subst e; rw [va_up_ne _ _ h, va_up_self, va_up_self]
  · by_cases e' : x = j
    · subst e'; rw [va_up_self, va_up_ne _ _ e, va_up_self]
    · rw [va_up_ne _ _ e', va_up_ne _ _ e, va_up_ne _ _ e, va_up_ne _ _ e']
theorem JX.save {M : Mem} {F : Nat → Int32} {n l : Nat} {Sv : Nat → Nat → Int32} {B : Nat → Int32} (h : JX M F n Sv l B) : ∃ M1, f_X6_saveState M = some ((), M1) ∧ JX M1 F (nx n) (pushS F n Sv) l B ∧ ag xSv M M1 := by
  obtain ⟨M1, e1, h1, a1⟩ := x_save h.1
  exact ⟨M1, e1, ⟨h1, by rw [a1.2 _ _ (by unfold xSv; omega)]; exact h.2.1, fun i hi => by rw [a1.2 _ _ (by unfold xSv; omega)]; exact h.2.2 i hi⟩, a1⟩
theorem JSnx {F F' : Nat → Int32} {k k' n l : Nat} {Sv : Nat → Nat → Int32} (h : JS F k n Sv l) (h' : SI F' k') : JS F' k' (nx n) (pushS F n Sv) l := by
  refine ⟨h', fun j hj => ?_, h.2.2⟩
  unfold nx at hj
  unfold pushS
  by_cases q : n < 6
  · rw [if_pos q] at hj
    by_cases e : j = n
    · exact ⟨k, by simp only [if_pos q, if_pos e]; exact h.1⟩
    · obtain ⟨k', e'⟩ := h.2.1 j (by omega)
      exact ⟨k', by simp only [if_pos q, if_neg e]; exact e'⟩
  · rw [if_neg q] at hj
    by_cases e : j = 5
    · exact ⟨k, by simp only [if_neg q, if_pos e]; exact h.1⟩
    · obtain ⟨k', e'⟩ := h.2.1 (j + 1) (by omega)
      exact ⟨k', by simp only [if_neg q, if_neg e]; exact e'⟩
theorem Op.u {es : List String} {cl : Mem → Option ((Int32 ⊕ String) × Mem)} {md : Mem → Option (Int32 × Mem)} {M : Mem} {F F' : Nat → Int32} {k' n l n' l' : Nat} {Sv Sv' : Nat → Nat → Int32} {B B' : Nat → Int32} {v : Int32}
    (hM : JM M F n Sv l B) (hS' : JS F' k' n' Sv' l')
    (h1 : ∃ M1, cl M = some (.inl v, M1) ∧ JX M1 F' n' Sv' l' B' ∧ ∀ c i, aX c i → M1.1 c i = M.1 c i)
    (h2 : ∀ M1, JM M1 F n Sv l B → ∃ M2, md M1 = some (v, M2) ∧ JM M2 F' n' Sv' l' B' ∧ (∀ c i, aM c i → M2.1 c i = M1.1 c i) ∧ M2.1 24 2 = nI 0 ∧ M2.2 = M1.2) : Op es cl md M := by
  obtain ⟨M1, e1, x1, a1⟩ := h1
  refine ⟨_, M1, e1, fun M1' e => ?_⟩
  obtain ⟨M2, e2, x2, a2, c2, d2⟩ := h2 M1' (hM.x (fun c i q => by rw [e]; exact a1 c i q))
  refine ⟨v, M2, e2, ⟨F', k', n', Sv', l', B', ?_, x2, hS'⟩, by rw [c2]; exact .ok, d2⟩
  exact x1.cp (fun c i q => by rw [a2 c i (by unfold aM; omega), e])
section U1
variable {M : Mem} {F : Nat → Int32} {k : Nat}
theorem x_hasPin (hF : LR M 34 F) (hS : SI F k) {t s q : Nat} (ht : t < 6) (hs : s < 24) (hq : q < 12) : f_X3_hasPin (tc 34 t) (nI s) (nI q) M = some (bitK (F (6 + 24 * t + s)) q, M) := by
  have hm := hS.2.2.1 (6 + 24 * t + s) (by omega) (by omega)
  unfold f_X3_hasPin
  rw [kbT isL34 ht, chk_tt, inb_n hs (by omega), chk_tt, nI_clamp (by omega), hF.drum ht hs]
  by_cases z : bitK (F (6 + 24 * t + s)) q = nI 0
  · rw [z]
    exact if_pos ((B1 hm hq).mpr z)
  · rw [(bitK01 _ _).resolve_left z]
    exact if_neg (fun e => z ((B1 hm hq).mp e))
theorem x_cp0 (hF : LR M 34 F) (hS : SI F k) {x y z : Int32} (h : inb x k = false ∨ inb y 24 = false ∨ inb z 12 = false) : f_X6_checkPlace x y z M = some (.inr exI, M) := by
  have hk := hS.1
  unfold f_X6_checkPlace
  rcases inb_cs x (show k < 2 ^ 31 by omega) with ha | ⟨t, ht, rfl⟩
  · rw [x_ct0 hF hS ha, bt_x]
  · rw [x_ct1 hF hS ht, bt_s]
    rcases inb_cs y (show 24 < 2 ^ 31 by omega) with hb | ⟨s, hs, rfl⟩
    · rw [x_cs0 hb, bt_x]
    · rw [x_cs1 hs, bt_s]
      have : inb z 12 = false := by
        rcases h with h | h | h
        · rw [inb_n ht (by omega)] at h; cases h
        · rw [inb_n hs (by omega)] at h; cases h
        · exact h
      rw [x_co0 this, bt_x]
theorem x_cp1 (hF : LR M 34 F) (hS : SI F k) {t s q : Nat} (ht : t < k) (hs : s < 24) (hq : q < 12) : f_X6_checkPlace (nI t) (nI s) (nI q) M = some (.inl (), M) := by
  unfold f_X6_checkPlace
  rw [x_ct1 hF hS ht, bt_s, x_cs1 hs, bt_s, x_co1 hq, bt_s]
theorem pl_cs (x y z : Int32) (hk : k ≤ 6) : (inb x k = false ∨ inb y 24 = false ∨ inb z 12 = false) ∨ ∃ t s q, t < k ∧ s < 24 ∧ q < 12 ∧ x = nI t ∧ y = nI s ∧ z = nI q := by
  rcases inb_cs x (show k < 2 ^ 31 by omega) with ha | ⟨t, ht, rfl⟩
  · exact Or.inl (Or.inl ha)
  · rcases inb_cs y (show 24 < 2 ^ 31 by omega) with hb | ⟨s, hs, rfl⟩
    · exact Or.inl (Or.inr (Or.inl hb))
    · rcases inb_cs z (show 12 < 2 ^ 31 by omega) with hc | ⟨q, hq, rfl⟩
      · exact Or.inl (Or.inr (Or.inr hc))
      · exact Or.inr ⟨t, s, q, ht, hs, hq, rfl, rfl, rfl⟩
end U1
theorem lc_drum {t s : Nat} (ht : t < 6) (hs : s < 24) : 34 + lc (6 + 24 * t + s) = tc 34 t + 1 ∧ lsl (6 + 24 * t + s) = s := ⟨by rw [(lc_dr t ht s hs).1.1]; unfold tc; omega, (lc_dr t ht s hs).1.2⟩
theorem lc_box {t : Nat} (ht : t < 6) : 34 + lc t = tc 34 t ∧ lsl t = 0 := ⟨by rw [(lc_to t ht).1.1]; unfold tc; omega, (lc_to t ht).1.2⟩
theorem lc_wear {t s : Nat} (ht : t < 6) (hs : s < 12) : 34 + lc (294 + 12 * t + s) = tc 34 t + 3 ∧ lsl (294 + 12 * t + s) = s := ⟨by rw [(lc_we t ht s hs).1]; unfold tc; omega, (lc_we t ht s hs).2⟩
theorem lc_tune {t s : Nat} (ht : t < 6) (hs : s < 24) : 34 + lc (150 + 24 * t + s) = tc 34 t + 2 ∧ lsl (150 + 24 * t + s) = s := ⟨by rw [(lc_dr t ht s hs).2.1]; unfold tc; omega, (lc_dr t ht s hs).2.2⟩
theorem lc_debt {f t : Nat} (hf : f < 6) (ht : t < 6) : 34 + lc (366 + 6 * f + t) = rc 34 f ∧ lsl (366 + 6 * f + t) = t := ⟨by rw [(lc_de f hf t ht).1]; unfold rc; omega, (lc_de f hf t ht).2⟩
