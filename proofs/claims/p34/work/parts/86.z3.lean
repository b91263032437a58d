/-! ===== what holds of every land of the law; each act keeps it ===== -/
def Iv (F : Nat → Int32) (k m : Nat) : Prop :=
  SI F k ∧ (∀ t, t < 6 → ∃ b, F t = nI b ∧ b ≤ 1000 + 300 * m) ∧ (∀ i, 294 ≤ i → i < 366 → ∃ w, F i = nI w ∧ w ≤ 100) ∧ (∃ d, F 421 = nI d ∧ 1 ≤ d ∧ d ≤ 100) ∧ (∃ x, F 422 = nI x ∧ x ≤ 999) ∧ ∀ i, 366 ≤ i → i < 402 → ∃ x, F i = nI x ∧ x ≤ 200 * m
theorem Iv.le {F : Nat → Int32} {k m m' : Nat} (h : Iv F k m) (hm : m ≤ m') : Iv F k m' := by
  obtain ⟨h1, h2, h3, h4, h5, h6⟩ := h
  refine ⟨h1, fun t ht => ?_, h3, h4, h5, fun i a b => ?_⟩
  · obtain ⟨x, e, hx⟩ := h2 t ht
    exact ⟨x, e, by omega⟩
  · obtain ⟨x, e, hx⟩ := h6 i a b
    exact ⟨x, e, by omega⟩
theorem Iv.ch {F F' : Nat → Int32} {k m : Nat} (h : Iv F k m) (s : SI F' k) (hb : ∀ t, t < 6 → F' t = F t ∨ ∃ b, F' t = nI b ∧ b ≤ 1000 + 300 * (m + 1)) (hw : ∀ i, 294 ≤ i → i < 366 → F' i = F i ∨ ∃ w, F' i = nI w ∧ w ≤ 100) (hd : F' 421 = F 421 ∨ ∃ d, F' 421 = nI d ∧ 1 ≤ d ∧ d ≤ 100) (hx : F' 422 = F 422 ∨ ∃ x, F' 422 = nI x ∧ x ≤ 999) (he : ∀ i, 366 ≤ i → i < 402 → F' i = F i ∨ ∃ x, F' i = nI x ∧ x ≤ 200 * (m + 1)) : Iv F' k (m + 1) := by
  obtain ⟨h1, h2, h3, h4, h5, h6⟩ := h
  refine ⟨s, fun t ht => ?_, fun i a b => ?_, ?_, ?_, fun i a b => ?_⟩
  · rcases hb t ht with e | e
    · rw [e]
      obtain ⟨x, e, hx⟩ := h2 t ht
      exact ⟨x, e, by omega⟩
    · exact e
  · rcases hw i a b with e | e
    · rw [e]; exact h3 i a b
    · exact e
  · rcases hd with e | e
    · rw [e]; exact h4
    · exact e
  · rcases hx with e | e
    · rw [e]; exact h5
    · exact e
  · rcases he i a b with e | e
    · rw [e]
      obtain ⟨x, e, hx⟩ := h6 i a b
      exact ⟨x, e, by omega⟩
    · exact e
/-- a number that is no exception's -/
def okN (v : Int32) : Prop := ∃ x, x < 2 ^ 31 ∧ v = nI x
theorem okN.ge {v : Int32} (h : okN v) : (-900 : Int32) ≤ v := by
  obtain ⟨x, hx, rfl⟩ := h
  exact Int32.le_trans (show (-900 : Int32) ≤ nI 0 by decide) ((nI_leI (by omega) hx).mpr (Nat.zero_le _))
theorem okN_bd {v : Int32} {b : Nat} (hb : b < 2 ^ 31) (h : ∃ m, m ≤ b ∧ v = nI m) : okN v := by
  obtain ⟨m, hm, e⟩ := h
  exact ⟨m, by omega, e⟩
/-- what an act leaves: an exception's number and the state as it was; or another number, and a land of the law -/
def Ga (M : Mem) (F : Nat → Int32) (k m n : Nat) (Sv : Nat → Nat → Int32) (l : Nat) (B : Nat → Int32) (got : Int32) (M1 : Mem) : Prop :=
  (¬ (-900 : Int32) ≤ got ∧ JX M1 F n Sv l B) ∨ ((-900 : Int32) ≤ got ∧ ∃ F', JX M1 F' (nx n) (pushS F n Sv) l B ∧ Iv F' k (m + 1) ∧ totF F' k = totF F k)
section AC
variable {M : Mem} {F : Nat → Int32} {k m n l : Nat} {Sv : Nat → Nat → Int32} {B : Nat → Int32}
theorem wr_ok {es : List String} {es' : List (String × Int32)} {cl : Mem → Option ((Int32 ⊕ String) × Mem)} {R : Int32 → (Nat → Int32) → Prop} (hX : JX M F n Sv l B) (h : Yo es cl M F k n Sv l B R) (hes : ∀ E, E ∈ es → ∃ q, es'.find? (fun q => q.1 == E) = some q ∧ ¬ (-900 : Int32) ≤ q.2) (hR : ∀ v F', SI F' k → R v F' → okN v ∧ Iv F' k (m + 1) ∧ totF F' k = totF F k) : ∃ got M1, wrp es' (cl M) = some (got, M1) ∧ Ga M F k m n Sv l B got M1 := by
  rcases h with ⟨E, hE, e⟩ | ⟨v, F', M1, e, x1, s1, r1⟩
  · obtain ⟨q, hq, hn⟩ := hes E hE
    refine ⟨q.2, M, ?_, Or.inl ⟨hn, hX⟩⟩
    rw [e]
    show (match es'.find? (fun q => q.1 == E) with
      | none => none
      | some q => some (q.2, M)) = _
    rw [hq]
  · obtain ⟨a1, a2, a3⟩ := hR v F' s1 r1
    refine ⟨v, M1, ?_, Or.inr ⟨a1.ge, F', x1, a2, a3⟩⟩
    rw [e]
    rfl
theorem hes_IS : ∀ E, E ∈ [exI, exS] → ∃ q, [(exI, (-903 : Int32)), (exS, -902)].find? (fun q => q.1 == E) = some q ∧ ¬ (-900 : Int32) ≤ q.2 := by
  intro E hE
  rcases List.mem_cons.mp hE with rfl | hE
  · exact ⟨(exI, -903), by decide, by decide⟩
  rcases List.mem_cons.mp hE with rfl | hE
  · exact ⟨(exS, -902), by decide, by decide⟩
  cases hE
theorem hes_IA : ∀ E, E ∈ [exI, exA] → ∃ q, [(exI, (-903 : Int32)), (exA, -901)].find? (fun q => q.1 == E) = some q ∧ ¬ (-900 : Int32) ≤ q.2 := by
  intro E hE
  rcases List.mem_cons.mp hE with rfl | hE
  · exact ⟨(exI, -903), by decide, by decide⟩
  rcases List.mem_cons.mp hE with rfl | hE
  · exact ⟨(exA, -901), by decide, by decide⟩
  cases hE
theorem hes_I : ∀ E, E ∈ [exI] → ∃ q, [(exI, (-903 : Int32))].find? (fun q => q.1 == E) = some q ∧ ¬ (-900 : Int32) ≤ q.2 := by
  intro E hE
  rcases List.mem_cons.mp hE with rfl | hE
  · exact ⟨(exI, -903), by decide, by decide⟩
  cases hE
theorem hes_IAS : ∀ E, E ∈ [exI, exA, exS] → ∃ q, [(exI, (-903 : Int32)), (exA, -901), (exS, -902)].find? (fun q => q.1 == E) = some q ∧ ¬ (-900 : Int32) ≤ q.2 := by
  intro E hE
  rcases List.mem_cons.mp hE with rfl | hE
  · exact ⟨(exI, -903), by decide, by decide⟩
  rcases List.mem_cons.mp hE with rfl | hE
  · exact ⟨(exA, -901), by decide, by decide⟩
  rcases List.mem_cons.mp hE with rfl | hE
  · exact ⟨(exS, -902), by decide, by decide⟩
  cases hE
theorem a_put (hX : JX M F n Sv l B) (hI : Iv F k m) (a b c : Int32) : ∃ got M1, f_L_put a b c M = some (got, M1) ∧ Ga M F k m n Sv l B got M1 :=
  wr_ok hX (y_put hX hI.1 a b c) hes_IS (fun v F' s1 ⟨t, s, q, ht, hs, hq, h1, h2, e, ev⟩ => by
    subst e
    have hk := hI.1.1
    refine ⟨by rw [ev]; exact okN_bd (by omega) (pinsF_bd _ _ _), hI.ch s1 (fun i hi => ?_) (fun i a b => Or.inl ?_) (Or.inl ?_) (Or.inl ?_) (fun i a b => Or.inl ?_), (tot_put hI.1 ht hs hq h1).1⟩
    · unfold putF
      rw [va_up_ne _ _ (by omega)]
      by_cases e : i = t
      · subst e
        obtain ⟨x, ex, hx⟩ := hI.2.1 i hi
        rw [va_up_self, ex]
        have h0 : x ≠ 0 := fun z => h2 (by rw [ex, z])
        exact Or.inr ⟨x - 1, pk_sub (by omega), by omega⟩
      · rw [va_up_ne _ _ e]; exact Or.inl rfl
    · unfold putF; rw [va_up_ne _ _ (by omega), va_up_ne _ _ (by omega)]
    · unfold putF; rw [va_up_ne _ _ (by omega), va_up_ne _ _ (by omega)]
    · unfold putF; rw [va_up_ne _ _ (by omega), va_up_ne _ _ (by omega)]
    · unfold putF; rw [va_up_ne _ _ (by omega), va_up_ne _ _ (by omega)])
theorem a_pull (hX : JX M F n Sv l B) (hI : Iv F k m) (hm : m ≤ 100) (a b c : Int32) : ∃ got M1, f_L_pull a b c M = some (got, M1) ∧ Ga M F k m n Sv l B got M1 :=
  wr_ok hX (y_pull hX hI.1 a b c) hes_IS (fun v F' s1 ⟨t, s, q, ht, hs, hq, h1, h2, e, ev⟩ => by
    subst e
    have hk := hI.1.1
    obtain ⟨x, ex, hx⟩ := hI.2.1 t (by omega)
    refine ⟨by rw [ev, ex, nI_add]; exact ⟨x + 1, by omega, rfl⟩, hI.ch s1 (fun i hi => ?_) (fun i a b => Or.inl ?_) (Or.inl ?_) (Or.inl ?_) (fun i a b => Or.inl ?_), tot_pull hI.1 ht hs hq h1⟩
    · unfold pullF
      by_cases e : i = t
      · subst e
        rw [va_up_self, ex, nI_add]
        exact Or.inr ⟨x + 1, rfl, by omega⟩
      · rw [va_up_ne _ _ e, va_up_ne _ _ (by omega)]; exact Or.inl rfl
    · unfold pullF; rw [va_up_ne _ _ (by omega), va_up_ne _ _ (by omega)]
    · unfold pullF; rw [va_up_ne _ _ (by omega), va_up_ne _ _ (by omega)]
    · unfold pullF; rw [va_up_ne _ _ (by omega), va_up_ne _ _ (by omega)]
    · unfold pullF; rw [va_up_ne _ _ (by omega), va_up_ne _ _ (by omega)])
theorem a_file (hX : JX M F n Sv l B) (hI : Iv F k m) (a b : Int32) : ∃ got M1, f_L_file a b M = some (got, M1) ∧ Ga M F k m n Sv l B got M1 :=
  wr_ok hX (y_file hX hI.1 a b) hes_I (fun v F' s1 ⟨t, w, ht, hw, e, ev⟩ => by
    subst e
    have hk := hI.1.1
    obtain ⟨x, ex, hx⟩ := hI.2.2.1 (294 + 12 * t + w) (by omega) (by omega)
    refine ⟨by rw [ev, ex]; exact ⟨x, by omega, rfl⟩, hI.ch s1 (fun i hi => Or.inl ?_) (fun i a b => ?_) (Or.inl ?_) (Or.inl ?_) (fun i a b => Or.inl ?_), tot_eq hk (fun i hi => ?_)⟩
    · unfold fileF; rw [va_up_ne _ _ (by omega)]
    · unfold fileF
      by_cases e : i = 294 + 12 * t + w
      · rw [e, va_up_self]; exact Or.inr ⟨0, rfl, by omega⟩
      · rw [va_up_ne _ _ e]; exact Or.inl rfl
    · unfold fileF; rw [va_up_ne _ _ (by omega)]
    · unfold fileF; rw [va_up_ne _ _ (by omega)]
    · unfold fileF; rw [va_up_ne _ _ (by omega)]
    · unfold fileF; rw [va_up_ne _ _ (by omega)])
theorem a_move (hX : JX M F n Sv l B) (hI : Iv F k m) (a b c d : Int32) : ∃ got M1, f_L_move a b c d M = some (got, M1) ∧ Ga M F k m n Sv l B got M1 :=
  wr_ok hX (y_move hX hI.1 a b c d) hes_IAS (fun v F' s1 ⟨t, u, s, q, ht, hu, e, hs, hq, h1, h2, e', ev⟩ => by
    subst e'
    have hk := hI.1.1
    refine ⟨by rw [ev]; exact okN_bd (by omega) (pinsF_bd _ _ _), hI.ch s1 (fun i hi => Or.inl ?_) (fun i a b => Or.inl ?_) (Or.inl ?_) (Or.inl ?_) (fun i a b => Or.inl ?_), tot_move hI.1 ht hu e hs hq h1 h2⟩
    all_goals unfold moveF; rw [va_up_ne _ _ (by omega), va_up_ne _ _ (by omega)])
theorem a_trade (hX : JX M F n Sv l B) (hI : Iv F k m) (a b : Int32) : ∃ got M1, f_L_trade a b M = some (got, M1) ∧ Ga M F k m n Sv l B got M1 :=
  wr_ok hX (y_trade hX hI.1 a b) hes_IA (fun v F' s1 ⟨t, u, ht, hu, e, e', ev⟩ => by
    subst e'
    have hk := hI.1.1
    refine ⟨?_, hI.ch s1 (fun i hi => Or.inl ?_) (fun i a b => Or.inl ?_) (Or.inl ?_) (Or.inl ?_) (fun i a b => Or.inl ?_), tot_tr hI.1 ht hu e⟩
    · obtain ⟨x, hx, ex⟩ := rightF_bd (trF F t u 24) t t 0
      obtain ⟨y, hy, ey⟩ := rightF_bd (trF F t u 24) u u 0
      rw [ev]
      unfold trV
      rw [ex, ey, nI_add]
      exact ⟨x + y, by omega, rfl⟩
    all_goals unfold trF; rw [putR_o (by omega), putR_o (by omega)])
theorem a_turn (hX : JX M F n Sv l B) (hI : Iv F k m) (a b : Int32) : ∃ got M1, f_L_turn a b M = some (got, M1) ∧ Ga M F k m n Sv l B got M1 :=
  wr_ok hX (y_turn hX hI.1 a b) hes_IA (fun v F' s1 ⟨t, u, ht, hu, e', ev⟩ => by
    subst e'
    have hk := hI.1.1
    refine ⟨by rw [ev]; exact okN_bd (by omega) (rightF_bd _ _ _ _), hI.ch s1 (fun i hi => Or.inl ?_) (fun i a b => Or.inl ?_) (Or.inl ?_) (Or.inl ?_) (fun i a b => Or.inl ?_), tot_1 (fun i hi => ?_)⟩
    · unfold tuF; rw [putR_o (by omega)]
    · unfold tuF; rw [putR_o (by omega)]
    · unfold tuF; rw [putR_o (by omega)]
    · unfold tuF; rw [putR_o (by omega)]
    · unfold tuF; rw [putR_o (by omega)]
    · by_cases z : i = t
      · subst z
        rw [pins_tu]
        unfold tuF; rw [putR_o (by omega)]
      · rw [pins_o (F := F) (fun s hs => by unfold tuF; rw [putR_o (by omega)])]
        unfold tuF; rw [putR_o (by omega)])
theorem a_set (hX : JX M F n Sv l B) (hI : Iv F k m) (a b : Int32) : ∃ got M1, f_L_set a b M = some (got, M1) ∧ Ga M F k m n Sv l B got M1 :=
  wr_ok hX (y_set hX hI.1 a b) hes_IA (fun v F' s1 ⟨t, ht, h1, h2, e', ev⟩ => by
    subst e'
    have hk := hI.1.1
    obtain ⟨g1, g2, g3, g4⟩ := lv_e t ht
    have hb : ∃ x, b = nI x ∧ lvN t ≤ x ∧ x ≤ gvN t := by
      rcases pk_ix b (show gvN t + 1 < 2 ^ 31 by omega) with q | q | ⟨j, hj, rfl⟩
      · exact absurd (Int32.lt_of_lt_of_le q (show (0 : Int32) ≤ nI (lvN t) from (nI_leI (a := 0) (by omega) (by omega)).mpr (Nat.zero_le _))) h1
      · exact absurd (Int32.lt_of_lt_of_le ((nI_ltI (by omega) (by omega)).mpr (by omega : gvN t < gvN t + 1)) q) h2
      · rw [nI_ltI (by omega) (by omega)] at h1 h2
        exact ⟨j, rfl, by omega, by omega⟩
    obtain ⟨x, rfl, x1, x2⟩ := hb
    obtain ⟨d, ed, d1, d2⟩ := hI.2.2.2.1
    obtain ⟨y, ey, y1⟩ := hI.2.2.2.2.1
    obtain ⟨r, hr, er⟩ := hI.1.2.2.2.1
    refine ⟨?_, hI.ch s1 (fun i hi => Or.inl ?_) (fun i a b => Or.inl ?_) ?_ ?_ (fun i a b => Or.inl ?_), tot_eq hk (fun i hi => ?_)⟩
    · rw [ev]
      rcases (show t = 0 ∨ t = 1 ∨ t = 2 by omega) with rfl | rfl | rfl
      · exact ⟨r, by omega, er⟩
      · exact ⟨d, by omega, ed⟩
      · exact ⟨y, by omega, ey⟩
    · rw [va_up_ne _ _ (by omega)]
    · rw [va_up_ne _ _ (by omega)]
    · by_cases z : t = 1
      · subst z
        right
        refine ⟨x, va_up_self _ _ _, ?_, ?_⟩
        · exact x1
        · exact x2
      · left; rw [va_up_ne _ _ (by omega)]
    · by_cases z : t = 2
      · subst z
        right
        exact ⟨x, va_up_self _ _ _, x2⟩
      · left; rw [va_up_ne _ _ (by omega)]
    · rw [va_up_ne _ _ (by omega)]
    · rw [va_up_ne _ _ (by omega)])
theorem cg_n {c : Int32} (h : ¬ (c < nI 1 ∨ nI 200 < c)) : ∃ x, c = nI x ∧ 1 ≤ x ∧ x ≤ 200 := by
  rcases pk_ix c (show 201 < 2 ^ 31 by omega) with q | q | ⟨j, hj, rfl⟩
  · exact absurd (Or.inl (Int32.lt_of_lt_of_le q (by decide))) h
  · exact absurd (Or.inr (Int32.lt_of_lt_of_le (show nI 200 < nI 201 by decide) q)) h
  · rw [nI_ltI (by omega) (by omega), nI_ltI (by omega) (by omega)] at h
    exact ⟨j, rfl, by omega, by omega⟩
/-- the boxes, when x pins go from t to u -/
theorem car_b (hI : Iv F k m) (hm : m ≤ 100) {t u x : Nat} (ht : t < 6) (hu : u < 6) (e : t ≠ u) (hx : x ≤ 200) (h : goes F t u (nI x)) : ∀ i, i < 6 → carF F t u (nI x) i = F i ∨ ∃ b, carF F t u (nI x) i = nI b ∧ b ≤ 1000 + 300 * (m + 1) := by
  intro i hi
  obtain ⟨a, ea, ha⟩ := hI.2.1 t ht
  obtain ⟨b, eb, hb⟩ := hI.2.1 u hu
  obtain ⟨y, ey, hy⟩ := hI.2.2.2.2.1
  obtain ⟨h1, h2⟩ := h
  rw [ea, nI_leI (by omega) (by omega)] at h1
  rw [eb, ey, nI_add, nI_leI (by omega) (by omega)] at h2
  unfold carF
  by_cases z : i = u
  · subst z
    rw [va_up_self, eb, nI_add]
    exact Or.inr ⟨b + x, rfl, by omega⟩
  · rw [va_up_ne _ _ z]
    by_cases z' : i = t
    · subst z'
      rw [va_up_self, ea, pk_sub h1]
      exact Or.inr ⟨a - x, rfl, by omega⟩
    · rw [va_up_ne _ _ z']; exact Or.inl rfl
theorem a_lend (hX : JX M F n Sv l B) (hI : Iv F k m) (hm : m ≤ 100) (a b c : Int32) : ∃ got M1, f_L_lend a b c M = some (got, M1) ∧ Ga M F k m n Sv l B got M1 :=
  wr_ok hX (y_lend hX hI.1 a b c) hes_IAS (fun v F' s1 ⟨t, u, ht, hu, e, hg, hz, e', ev⟩ => by
    subst e'
    have hk := hI.1.1
    obtain ⟨x, rfl, x1, x2⟩ := cg_n hg
    obtain ⟨d, ed, hd⟩ := hI.2.2.2.2.2 (366 + 6 * u + t) (by omega) (by omega)
    refine ⟨by rw [ev, ed, nI_add]; exact ⟨d + x, by omega, rfl⟩, hI.ch s1 (fun i hi => ?_) (fun i a b => Or.inl ?_) (Or.inl ?_) (Or.inl ?_) (fun i a b => ?_), tot_car (c := nI x) hk ht hu e (fun i hi => ?_)⟩
    · have := car_b hI hm (t := t) (u := u) (by omega) (by omega) e x2 hz i hi
      unfold lendF
      rw [va_up_ne _ _ (by omega), va_up_ne _ _ (by omega)]
      exact this
    · unfold lendF; rw [va_up_ne _ _ (by omega), va_up_ne _ _ (by omega), carF_o (by omega) (by omega) (by omega)]
    · unfold lendF; rw [va_up_ne _ _ (by omega), va_up_ne _ _ (by omega), carF_o (by omega) (by omega) (by omega)]
    · unfold lendF; rw [va_up_ne _ _ (by omega), va_up_ne _ _ (by omega), carF_o (by omega) (by omega) (by omega)]
    · unfold lendF
      rw [va_up_ne _ _ (by omega)]
      by_cases z : i = 366 + 6 * u + t
      · rw [z, va_up_self, ed, nI_add]; exact Or.inr ⟨d + x, rfl, by omega⟩
      · rw [va_up_ne _ _ z, carF_o (by omega) (by omega) (by omega)]; exact Or.inl rfl
    · unfold lendF; rw [va_up_ne _ _ (by omega), va_up_ne _ _ (by omega)])
theorem a_repay (hX : JX M F n Sv l B) (hI : Iv F k m) (hm : m ≤ 100) (a b c : Int32) : ∃ got M1, f_L_repay a b c M = some (got, M1) ∧ Ga M F k m n Sv l B got M1 :=
  wr_ok hX (y_repay hX hI.1 a b c) hes_IAS (fun v F' s1 ⟨t, u, ht, hu, e, hg, hc, hz, e', ev⟩ => by
    subst e'
    have hk := hI.1.1
    obtain ⟨x, rfl, x1, x2⟩ := cg_n hg
    obtain ⟨d, ed, hd⟩ := hI.2.2.2.2.2 (366 + 6 * t + u) (by omega) (by omega)
    rw [ed, nI_leI (by omega) (by omega)] at hc
    refine ⟨by rw [ev, ed, pk_sub hc]; exact ⟨d - x, by omega, rfl⟩, hI.ch s1 (fun i hi => ?_) (fun i a b => Or.inl ?_) (Or.inl ?_) (Or.inl ?_) (fun i a b => ?_), tot_car (c := nI x) hk ht hu e (fun i hi => ?_)⟩
    · have := car_b hI hm (t := t) (u := u) (by omega) (by omega) e x2 hz i hi
      unfold repF
      rw [va_up_ne _ _ (by omega), va_up_ne _ _ (by omega)]
      exact this
    · unfold repF; rw [va_up_ne _ _ (by omega), va_up_ne _ _ (by omega), carF_o (by omega) (by omega) (by omega)]
    · unfold repF; rw [va_up_ne _ _ (by omega), va_up_ne _ _ (by omega), carF_o (by omega) (by omega) (by omega)]
    · unfold repF; rw [va_up_ne _ _ (by omega), va_up_ne _ _ (by omega), carF_o (by omega) (by omega) (by omega)]
    · unfold repF
      rw [va_up_ne _ _ (by omega)]
      by_cases z : i = 366 + 6 * t + u
      · rw [z, va_up_self, ed, pk_sub hc]; exact Or.inr ⟨d - x, rfl, by omega⟩
      · rw [va_up_ne _ _ z, carF_o (by omega) (by omega) (by omega)]; exact Or.inl rfl
    · unfold repF; rw [va_up_ne _ _ (by omega), va_up_ne _ _ (by omega)])
end AC
