/-! ===== isPlayed ===== -/
/-- playing depends on the drum's 24 steps and the comb's 12 teeth alone -/
def Cg (P Q : PS) : Prop := (∀ s, s < 24 → P.1 s = Q.1 s) ∧ (∀ j, j < 12 → P.2.1 j = Q.2.1 j) ∧ P.2.2 = Q.2.2
theorem Cg_go {T : Nat → Int32} {du re : Int32} {s j : Nat} {P Q : PS} (hs : s < 24) (hj : j < 12) (h : Cg P Q) : Cg (goP T du re s j P) (goP T du re s j Q) := by
  obtain ⟨D, W, R⟩ := P
  obtain ⟨D', W', R'⟩ := Q
  obtain ⟨h1, h2, h3⟩ := h
  dsimp only at h1 h2 h3
  subst h3
  unfold goP
  dsimp only
  have hw := h2 j hj
  by_cases q : W j < du
  · rw [if_pos q, if_pos (show W' j < du from hw ▸ q)]
    by_cases z : R.1 j = 99 ∨ re ≤ nI s - nI (R.1 j)
    · rw [if_pos z, if_pos z]
      refine ⟨h1, fun i hi => ?_, rfl⟩
      show va_up W j (W j + nI 1) i = va_up W' j (W' j + nI 1) i
      rw [hw]
      by_cases e : i = j
      · subst e; rw [va_up_self, va_up_self]
      · rw [va_up_ne _ _ e, va_up_ne _ _ e]; exact h2 i hi
    · rw [if_neg z, if_neg z]
      exact ⟨h1, h2, rfl⟩
  · rw [if_neg q, if_neg (show ¬ W' j < du from hw ▸ q)]
    refine ⟨fun i hi => ?_, h2, rfl⟩
    show va_up D s (D s &&& nbit j) i = va_up D' s (D' s &&& nbit j) i
    rw [h1 s hs]
    by_cases e : i = s
    · subst e; rw [va_up_self, va_up_self]
    · rw [va_up_ne _ _ e, va_up_ne _ _ e]; exact h1 i hi
theorem Cg_teeth {T : Nat → Int32} {du re p : Int32} {s : Nat} (hs : s < 24) : ∀ (c j : Nat) (P Q : PS), j + c = 12 → Cg P Q → Cg (teethP T du re p s c j P) (teethP T du re p s c j Q) := by
  intro c
  induction c with
  | zero => intro j P Q _ h; exact h
  | succ c ih =>
    intro j P Q hj h
    simp only [teethP]
    by_cases q : bitK p j = nI 0
    · rw [if_pos q, if_pos q]; exact ih (j + 1) P Q (by omega) h
    · rw [if_neg q, if_neg q]; exact ih (j + 1) _ _ (by omega) (Cg_go hs (by omega) h)
theorem Cg_steps {T : Nat → Int32} {du re : Int32} : ∀ (c s : Nat) (P Q : PS), s + c = 24 → Cg P Q → Cg (stepsP T du re c s P) (stepsP T du re c s Q) := by
  intro c
  induction c with
  | zero => intro s P Q _ h; exact h
  | succ c ih =>
    intro s P Q hs h
    simp only [stepsP]
    rw [h.1 s (by omega)]
    exact ih (s + 1) _ _ (by omega) (Cg_teeth (by omega) 12 0 P Q rfl h)
theorem Cg_play {T D W D' W' : Nat → Int32} {du re : Int32} (h1 : ∀ s, s < 24 → D s = D' s) (h2 : ∀ j, j < 12 → W j = W' j) : Cg (playP T du re D W) (playP T du re D' W') := Cg_steps 24 0 _ _ rfl ⟨h1, h2, rfl⟩
theorem Cgt {T T' : Nat → Int32} {du re : Int32} {D W : Nat → Int32} (h : ∀ s, s < 24 → T s = T' s) : playP T du re D W = playP T' du re D W := by
  have g : ∀ (s j : Nat) (P : PS), s < 24 → goP T du re s j P = goP T' du re s j P := fun s j P hs => by unfold goP; rw [h s hs]
  have t : ∀ (c j s : Nat) (p : Int32) (P : PS), s < 24 → teethP T du re p s c j P = teethP T' du re p s c j P := by
    intro c
    induction c with
    | zero => intros; rfl
    | succ c ih =>
      intro j s p P hs
      simp only [teethP]
      rw [g s j P hs, ih _ _ _ _ hs]
  have st : ∀ (c s : Nat) (P : PS), s + c = 24 → stepsP T du re c s P = stepsP T' du re c s P := by
    intro c
    induction c with
    | zero => intros; rfl
    | succ c ih =>
      intro s P hs
      simp only [stepsP]
      rw [t 12 0 s _ P (by omega), ih (s + 1) _ (by omega)]
  exact st 24 0 _ rfl
/-- the lands when town t is played again and again -/
def gP (F : Nat → Int32) (t : Nat) : Nat → Nat → Int32
  | 0 => F
  | i + 1 => pyF (gP F t i) t (plF (gP F t i) t)
def fallR (F : Nat → Int32) (t i : Nat) : Int32 := (plF (gP F t i) t).2.2.2.2 4
section IP
variable {M : Mem} {F : Nat → Int32} {k m n l t : Nat} {Sv : Nat → Nat → Int32} {B : Nat → Int32}
theorem gP_I (hI : Iv F k m) (ht : t < k) : ∀ i, m + i ≤ 101 → Iv (gP F t i) k (m + i) := by
  intro i
  induction i with
  | zero => intro _; exact hI
  | succ i ih =>
    intro h
    exact (py_I (ih (by omega)) (by omega) ht).1
theorem gP_o (ht : t < 6) : ∀ (i : Nat) {j : Nat}, j ≠ t → (j < 6 + 24 * t ∨ 6 + 24 * t + 24 ≤ j) → (j < 294 + 12 * t ∨ 294 + 12 * t + 12 ≤ j) → (j < 402 ∨ 420 ≤ j) → gP F t i j = F j := by
  intro i
  induction i with
  | zero => intros; rfl
  | succ i ih =>
    intro j h1 h2 h3 h4
    exact (py_o ht h1 h2 h3 h4).trans (ih h1 h2 h3 h4)
/-- the right pins, land by land -/
theorem gP_r (hI : Iv F k m) (ht : t < k) {i : Nat} (hi : m + i ≤ 100) : ∃ r g, rightF (gP F t i) t t 0 = nI r ∧ r ≤ 288 ∧ fallR F t i = nI g ∧ rightF (gP F t (i + 1)) t t 0 = nI (r - g) ∧ g ≤ r := by
  have hk := hI.1.1
  have h6 : t < 6 := by omega
  obtain ⟨hJ, ⟨a, b, c, f, g, e0, e1, e2, e3, e4, h1, h2, h3, h4⟩, hw⟩ := pl_all (gP_I hI ht i (by omega)) h6
  obtain ⟨r, hr, er⟩ := rightF_bd (gP F t i) t t 0
  obtain ⟨r', hr', er'⟩ := rightF_bd (gP F t (i + 1)) t t 0
  have e : rightF (gP F t (i + 1)) t t 0 = rigS (plF (gP F t i) t).1 (tuneF (gP F t i) t) := py_right h6
  have s2 := hJ.2.2.2.2.2.2.2.2.1
  rw [← e, er', e4, nI_add, ← right_rig, er, nI_eq (by omega) (by omega)] at s2
  exact ⟨r, g, er, hr, e4, by rw [er']; congr 1; omega, by omega⟩
/-- the falls of right pins, as lastsFor counts them -/
theorem la_is (hI : Iv F k m) (ht : t < k) : ∀ (c y : Nat) (D W : Nat → Int32), 1 ≤ y → (∀ s, s < 24 → D s = gP F t (y - 1) (6 + 24 * t + s)) → (∀ j, j < 12 → W j = gP F t (y - 1) (294 + 12 * t + j)) →
    (∃ L, y ≤ L ∧ L < y + c ∧ lastsL (tuneF F t) (F 421) (F 420) c y D W = nI L ∧ ¬ fallR F t (L - 1) ≤ nI 0 ∧ ∀ i, y ≤ i → i < L → fallR F t (i - 1) ≤ nI 0) ∨ (lastsL (tuneF F t) (F 421) (F 420) c y D W = -nI 1 ∧ ∀ i, y ≤ i → i < y + c → fallR F t (i - 1) ≤ nI 0) := by
  have hk := hI.1.1
  have h6 : t < 6 := by omega
  intro c
  induction c with
  | zero => intro y D W h1 _ _; exact Or.inr ⟨rfl, fun i h2 h3 => by omega⟩
  | succ c ih =>
    intro y D W hy hD hW
    simp only [lastsL]
    have ep : plF (gP F t (y - 1)) t = playP (tuneF F t) (F 421) (F 420) (drumF (gP F t (y - 1)) t) (wearF (gP F t (y - 1)) t) := by
      unfold plF
      rw [gP_o h6 _ (by omega) (by omega) (by omega) (by omega), gP_o h6 _ (by omega) (by omega) (by omega) (by omega)]
      exact Cgt (fun s hs => gP_o h6 _ (by omega) (by omega) (by omega) (by omega))
    have hc : Cg (playP (tuneF F t) (F 421) (F 420) D W) (plF (gP F t (y - 1)) t) := by
      rw [ep]; exact Cg_play hD hW
    have e4 : (playP (tuneF F t) (F 421) (F 420) D W).2.2.2.2 4 = fallR F t (y - 1) := by
      unfold fallR; rw [hc.2.2]
    rw [e4]
    by_cases q : fallR F t (y - 1) ≤ nI 0
    · rw [if_pos q]
      have eg : gP F t y = pyF (gP F t (y - 1)) t (plF (gP F t (y - 1)) t) := by
        obtain ⟨z, rfl⟩ : ∃ z, y = z + 1 := ⟨y - 1, by omega⟩
        rfl
      rcases ih (y + 1) (playP (tuneF F t) (F 421) (F 420) D W).1 (playP (tuneF F t) (F 421) (F 420) D W).2.1 (by omega) (fun s hs => by rw [Nat.add_sub_cancel, eg, py_d h6 hs]; exact hc.1 s hs) (fun j hj => by rw [Nat.add_sub_cancel, eg, py_w h6 hj]; exact hc.2.1 j hj) with ⟨L, a1, a2, a3, a4, a5⟩ | ⟨a1, a2⟩
      · refine Or.inl ⟨L, by omega, by omega, a3, a4, fun i h1 h2 => ?_⟩
        by_cases e : i = y
        · subst e; exact q
        · exact a5 i (by omega) h2
      · refine Or.inr ⟨a1, fun i h1 h2 => ?_⟩
        by_cases e : i = y
        · subst e; exact q
        · exact a2 i (by omega) (by omega)
    · rw [if_neg q]
      exact Or.inl ⟨y, Nat.le_refl _, by omega, rfl, q, fun i h1 h2 => by omega⟩
/-- the saved lands of the last j plays -/
def Hs (G : Nat → Nat → Int32) (j n : Nat) (Sv : Nat → Nat → Int32) : Prop := j ≤ n ∧ ∀ i, i < j → Sv (n - j + i) = G i
theorem Hs.push {G : Nat → Nat → Int32} {j : Nat} (h : Hs G j n Sv) (hn : n ≤ 6) (hj : j + 1 ≤ 6) : Hs G (j + 1) (nx n) (pushS (G j) n Sv) := by
  obtain ⟨h1, h2⟩ := h
  by_cases q : n < 6
  · have en : nx n = n + 1 := if_pos q
    rw [en]
    refine ⟨by omega, fun i hi => ?_⟩
    funext x
    unfold pushS
    rw [if_pos q]
    by_cases e : i = j
    · subst e; rw [if_pos (by omega)]
    · rw [if_neg (by omega), show n + 1 - (j + 1) + i = n - j + i by omega, h2 i (by omega)]
  · obtain rfl : n = 6 := by omega
    rw [show nx 6 = 6 from rfl]
    refine ⟨hj, fun i hi => ?_⟩
    funext x
    unfold pushS
    rw [if_neg (show ¬ 6 < 6 by omega)]
    by_cases e : i = j
    · subst e; rw [if_pos (by omega)]
    · rw [if_neg (by omega), show 6 - (j + 1) + i + 1 = 6 - j + i by omega, h2 i (by omega)]
theorem pl_147 (hX0 : n ≤ 6) {nn : Nat} (hnn : nn ≤ 5) : ∀ (c j f n : Nat) (Sv : Nat → Nat → Int32) (M : Mem), j + c = nn → c < f → JX M (gP F t c) n Sv l B → Hs (gP F t) c n Sv →
    ∃ M' Sv', f_L_isPlayed_147 f (nI nn) (nI j) M = some (.inl (nI 1), M') ∧ JX M' F (n - c) Sv' l B := by
  intro c
  induction c with
  | zero =>
    intro j f n Sv M h hf hX hH
    obtain ⟨f, rfl, -⟩ := suc hf
    obtain rfl : j = nn := by omega
    refine ⟨M, Sv, ?_, hX⟩
    rw [f_L_isPlayed_147, if_pos (Int32.le_refl _)]
    rfl
  | succ c ih =>
    intro j f n Sv M h hf hX hH
    obtain ⟨f, rfl, -⟩ := suc hf
    obtain ⟨hn, hg⟩ := hH
    obtain ⟨M1, e1, x1⟩ := y_undo hX (by omega)
    have eg : Sv (n - 1) = gP F t c := by
      have := hg c (by omega)
      rw [show n - (c + 1) + c = n - 1 by omega] at this
      exact this
    rw [eg] at x1
    obtain ⟨M2, Sv', e2, x2⟩ := ih (j + 1) f (n - 1) Sv M1 (by omega) (by omega) x1 ⟨by omega, fun i hi => by rw [show n - 1 - c + i = n - (c + 1) + i by omega]; exact hg i (by omega)⟩
    refine ⟨M2, Sv', ?_, by rw [show n - (c + 1) = n - 1 - c by omega]; exact x2⟩
    rw [f_L_isPlayed_147, if_neg (by rw [nI_leI (by omega) (by omega)]; omega), e1, bt_s, show nI j + (1 : Int32) = nI (j + 1) from nI_add j 1, bnd_e]
    exact e2
theorem pl_32 (hI : Iv F k m) (hm : m ≤ 90) (ht : t < k) {nn : Nat} (hnn : nn ≤ 5) (h1n : 1 ≤ nn) {la ri : Int32} (hR : ∀ i, 1 ≤ i → i ≤ nn → (rightF (gP F t i) t t 0 < ri ↔ nI i = la)) : ∀ (c y f n : Nat) (Sv : Nat → Nat → Int32) (M : Mem), y + c = nn + 1 → 1 ≤ y → c < f → JX M (gP F t (y - 1)) n Sv l B → Hs (gP F t) (y - 1) n Sv →
    ∃ M' n' Sv', f_L_isPlayed_32 f (nI t) la ri (nI nn) (nI y) M = some (.inl (nI 1), M') ∧ JX M' F n' Sv' l B ∧ n' ≤ 5 := by
  have hk := hI.1.1
  have h6 : t < 6 := by omega
  intro c
  induction c with
  | zero =>
    intro y f n Sv M h hy hf hX hH
    obtain ⟨f, rfl, -⟩ := suc hf
    obtain rfl : y = nn + 1 := by omega
    rw [Nat.add_sub_cancel] at hX hH
    have hn := hX.n6
    obtain ⟨M1, Sv', e1, x1⟩ := pl_147 (F := F) (t := t) hn hnn nn 0 FU n Sv M (by omega) (by show nn < 100000; omega) hX hH
    refine ⟨M1, n - nn, Sv', ?_, x1, by omega⟩
    rw [f_L_isPlayed_32, if_pos (by rw [nI_ltI (by omega) (by omega)]; omega)]
    exact e1
  | succ c ih =>
    intro y f n Sv M h hy hf hX hH
    obtain ⟨f, rfl, -⟩ := suc hf
    have hn := hX.n6
    have hIy := gP_I hI ht (y - 1) (by omega)
    have hS := hIy.1
    have eg : gP F t y = pyF (gP F t (y - 1)) t (plF (gP F t (y - 1)) t) := by
      obtain ⟨z, rfl⟩ : ∃ z, y = z + 1 := ⟨y - 1, by omega⟩
      rfl
    obtain ⟨M1, p1, x1⟩ := q_if2 hX hS ht
    obtain ⟨M2, p2, x2⟩ := q_if4 x1 hS ht
    obtain ⟨M3, p3, x3⟩ := q_if0 x2 hS ht
    obtain ⟨M4, p4, x4, s4⟩ := y_play1 x3 hS ht
    rw [← eg] at x4 s4
    have x4' : JX M4 (gP F t (y + 1 - 1)) (nx n) (pushS (gP F t (y - 1)) n Sv) l B := x4
    have hH' : Hs (gP F t) (y + 1 - 1) (nx n) (pushS (gP F t (y - 1)) n Sv) := by
      have := hH.push hn (by omega)
      rw [show y - 1 + 1 = y + 1 - 1 by omega] at this
      exact this
    obtain ⟨M5, n', Sv', p5, x5, g5⟩ := ih (y + 1) f (nx n) _ M4 (by omega) (by omega) (by omega) x4' hH'
    refine ⟨M5, n', Sv', ?_, x5, g5⟩
    have eb : gP F t y t = gP F t (y - 1) t + (plF (gP F t (y - 1)) t).2.2.2.2 3 := by rw [eg, py_b h6]
    have ed : dullF (gP F t y) t = dullW (plF (gP F t (y - 1)) t).2.1 (gP F t (y - 1) 421) := sumI_congr (fun j hj => by
      rw [eg, py_w h6 hj, py_o h6 (by omega) (by omega) (by omega) (by omega)])
    have hr := hR y hy (by omega)
    have fin : ∀ z : Int32, z = (if nI y = la then 1 else 0) → f_L_isPlayed_122 (f_L_isPlayed_32 f) (nI t) la ri (nI nn) (nI y) z M4 = some (.inl (nI 1), M5) := by
      intro z hz
      subst hz
      unfold f_L_isPlayed_122 f_L_isPlayed_133
      by_cases q : nI y = la
      · rw [if_pos q, if_pos q, if_pos rfl, show nI y + (1 : Int32) = nI (y + 1) from nI_add y 1, bnd_e]
        exact p5
      · rw [if_neg q, if_neg q, if_pos rfl, show nI y + (1 : Int32) = nI (y + 1) from nI_add y 1, bnd_e]
        exact p5
    rw [f_L_isPlayed_32, if_neg (by rw [nI_ltI (by omega) (by omega)]; omega), q_t0 hX hS ht, bt_s, p1, bt_s, p2, bt_s, p3, bt_s, p4, bt_s, if_pos rfl, q_t0 x4 s4 ht, bt_s, if_pos eb, q_t11 x4 s4 ht, bt_s, if_pos ed, q_t3 x4 s4 ht, bt_s]
    by_cases q : ri ≤ rightF (gP F t y) t t 0
    · rw [if_pos q]
      exact fin 0 (by rw [if_neg (fun e => Int32.not_lt.mpr q (hr.mpr e))])
    · rw [if_neg q]
      exact fin 1 (by rw [if_pos (hr.mp (Int32.not_le.mp q))])
theorem l_played (hX : JX M F n Sv l B) (hI : Iv F k m) (hm : m ≤ 90) (ht : t < k) : ∃ M' n' Sv', f_L_isPlayed (nI t) M = some (.inl (nI 1), M') ∧ JX M' F n' Sv' l B ∧ n' ≤ 5 := by
  have hS := hI.1
  have hk := hS.1
  obtain ⟨M1, p1, x1⟩ := q_lasts hX hS ht
  have hn := hX.n6
  have start : ∀ (nn : Nat) (la : Int32), 1 ≤ nn → nn ≤ 5 → (∀ i, 1 ≤ i → i ≤ nn → (rightF (gP F t i) t t 0 < rightF F t t 0 ↔ nI i = la)) → ∃ M' n' Sv', f_L_isPlayed_27 (nI t) la (rightF F t t 0) (nI nn) M1 = some (.inl (nI 1), M') ∧ JX M' F n' Sv' l B ∧ n' ≤ 5 := fun nn la h1 h2 hR =>
    pl_32 hI hm ht h2 h1 hR nn 1 FU n Sv M1 (by omega) (Nat.le_refl _) (by show nn < 100000; omega) x1 ⟨Nat.zero_le _, fun i hi => absurd hi (Nat.not_lt_zero _)⟩
  -- right pins stay while none falls
  obtain ⟨r, _, er, hr, _, _, _⟩ := gP_r hI ht (i := 0) (by omega)
  have er' : rightF F t t 0 = nI r := er
  have stay : ∀ j, j ≤ 5 → (∀ i, 1 ≤ i → i ≤ j → fallR F t (i - 1) ≤ nI 0) → rightF (gP F t j) t t 0 = nI r := by
    intro j
    induction j with
    | zero => intro _ _; exact er
    | succ j ih =>
      intro h1 h2
      have e := ih (by omega) (fun i a b => h2 i a (by omega))
      obtain ⟨r', g, e1, e2, e3, e4, e5⟩ := gP_r hI ht (i := j) (by omega)
      have h3 := h2 (j + 1) (by omega) (Nat.le_refl _)
      rw [Nat.add_sub_cancel, e3, nI_leI (by omega) (by omega)] at h3
      rw [e, nI_eq (by omega) (by omega)] at e1
      rw [e4]
      congr 1
      omega
  have two : ∀ la : Int32, (∀ i, 1 ≤ i → i ≤ 2 → fallR F t (i - 1) ≤ nI 0) → (∀ i, 1 ≤ i → i ≤ 2 → nI i ≠ la) → ∃ M' n' Sv', f_L_isPlayed_22 (nI t) la (rightF F t t 0) M1 = some (.inl (nI 1), M') ∧ JX M' F n' Sv' l B ∧ n' ≤ 5 := fun la h1 h2 =>
    start 2 la (by omega) (by omega) (fun i a b => by
      rw [stay i (by omega) (fun i' a' b' => h1 i' a' (by omega)), er']
      exact ⟨fun e => absurd e (Int32.lt_irrefl), fun e => absurd e (h2 i a b)⟩)
  unfold f_L_isPlayed
  rw [p1, bt_s, q_t3 x1 hS ht, bt_s]
  have hla := la_is hI ht 200 1 (drumF F t) (wearF F t) (Nat.le_refl _) (fun s hs => rfl) (fun j hj => rfl)
  rcases hla with ⟨L, a1, a2, a3, a4, a5⟩ | ⟨a1, a2⟩
  · have a3' : lastsF F t = nI L := a3
    rw [a3', if_neg (nI_pos (by omega))]
    by_cases q : L ≤ 5
    · rw [if_pos (show nI L ≤ (5 : Int32) by rw [show (5 : Int32) = nI 5 from rfl, nI_leI (by omega) (by omega)]; exact q)]
      refine start L (nI L) a1 q (fun i b1 b2 => ?_)
      by_cases e : i = L
      · subst e
        obtain ⟨r', g, e1, e2, e3, e4, e5⟩ := gP_r hI ht (i := i - 1) (by omega)
        rw [stay (i - 1) (by omega) (fun i' c1 c2 => a5 i' c1 (by omega)), nI_eq (by omega) (by omega)] at e1
        rw [e3, nI_leI (by omega) (by omega)] at a4
        rw [show i - 1 + 1 = i by omega] at e4
        rw [e4, er', nI_ltI (by omega) (by omega)]
        exact ⟨fun _ => rfl, fun _ => by omega⟩
      · rw [stay i (by omega) (fun i' c1 c2 => a5 i' c1 (by omega)), er']
        exact ⟨fun h => absurd h (Int32.lt_irrefl), fun h => absurd ((nI_eq (by omega) (by omega)).mp h) e⟩
    · rw [if_neg (show ¬ nI L ≤ (5 : Int32) by rw [show (5 : Int32) = nI 5 from rfl, nI_leI (by omega) (by omega)]; exact q)]
      exact two (nI L) (fun i c1 c2 => a5 i c1 (by omega)) (fun i c1 c2 e => by
        have := (nI_eq (by omega) (by omega)).mp e
        omega)
  · have a1' : lastsF F t = -nI 1 := a1
    rw [a1', if_pos (show -nI 1 < (0 : Int32) by decide)]
    exact two (-nI 1) (fun i c1 c2 => a2 i c1 (by omega)) (fun i c1 c2 e => by
      rw [nI_m1 (by omega)] at e
      exact e)
end IP
