/-! ===== the best trades: the class ===== -/
def gF (F : Nat → Int32) (t d : Nat) : Nat := (rightF F d t 0).toNatClampNeg
theorem gF_is (F : Nat → Int32) (t d : Nat) : rightF F d t 0 = nI (gF F t d) ∧ gF F t d ≤ 288 := by
  obtain ⟨m, hm, e⟩ := rightF_bd F d t 0
  unfold gF
  rw [e, nI_clamp (by omega)]
  exact ⟨rfl, hm⟩
theorem opt_bd {g : Nat → Nat → Nat} {k : Nat} (hg : ∀ t d, g t d ≤ 288) : ∀ c t U, opt g k c t U ≤ 288 * c := by
  intro c
  induction c with
  | zero => intro t U; exact Nat.le_refl _
  | succ c ih =>
    intro t U
    simp only [opt]
    rcases fbL_is (f := fun d => g t d + opt g k c (t + 1) (U ||| 2 ^ d)) (U := U) (k := k) k 0 0 0 (Nat.zero_add k) (Or.inl ⟨rfl, fun e he => by omega⟩) with ⟨h1, _⟩ | ⟨h1, _⟩
    · omega
    · rw [h1]
      have := hg t (fbL (fun d => g t d + opt g k c (t + 1) (U ||| 2 ^ d)) U k 0 0 0).1
      have := ih (t + 1) (U ||| 2 ^ (fbL (fun d => g t d + opt g k c (t + 1) (U ||| 2 ^ d)) U k 0 0 0).1)
      omega
theorem fbf_bd {g : Nat → Nat → Nat} {k t U : Nat} (hg : ∀ t d, g t d ≤ 288) (hk : k ≤ 6) (d : Nat) : fbf g k t U d ≤ 2016 := by
  unfold fbf
  have := hg t d
  have := opt_bd (k := k) hg (k - (t + 1)) (t + 1) (U ||| 2 ^ d)
  omega
theorem bI_le {a v : Nat} (ha : a < 2 ^ 30) (hv : v < 2 ^ 30) : (nI a ≤ nI v - nI 1) ↔ a + 1 ≤ v := by
  by_cases z : v = 0
  · subst z
    exact ⟨fun h => absurd h (le_m1 a (by omega)), fun h => by omega⟩
  · rw [pk_sub (by omega), nI_leI (by omega) (by omega)]
    omega
theorem bI_s (f : Nat) : nI (f + 1) - nI 1 = nI f := pk_sub (by omega)
theorem pop_cb : ∀ h, h < 64 → popJ (nI h) = nI (cb h 6) := by decide +kernel
theorem cb_cut {h k : Nat} (hh : h < 2 ^ k) : ∀ j, cb h (k + j) = cb h k := by
  intro j
  induction j with
  | zero => rfl
  | succ j ih =>
    show cb h (k + j + 1) = _
    simp only [cb]
    have hb : h.testBit (k + j) = false := Nat.testBit_lt_two_pow (Nat.lt_of_lt_of_le hh (Nat.pow_le_pow_right (by decide) (by omega)))
    rw [ih, hb]
    rfl
theorem cb_6 {h k : Nat} (hk : k ≤ 6) (hh : h < 2 ^ k) : cb h 6 = cb h k := by
  have := cb_cut hh (6 - k)
  rw [show k + (6 - k) = 6 by omega] at this
  exact this
theorem cb_b {U : Nat} : ∀ c, cb U c ≤ c ∧ (cb U c = c → ∀ e, e < c → U.testBit e = true) := by
  intro c
  induction c with
  | zero => exact ⟨Nat.le_refl _, fun _ e he => by omega⟩
  | succ c ih =>
    simp only [cb]
    obtain ⟨h1, h2⟩ := ih
    by_cases q : U.testBit c = true
    · rw [if_pos q]
      refine ⟨by omega, fun h e he => ?_⟩
      by_cases y : e = c
      · subst y; exact q
      · exact h2 (by omega) e (by omega)
    · rw [if_neg q]
      exact ⟨by omega, fun h => by omega⟩
theorem cb_lt {h k : Nat} (hh : h < 2 ^ k - 1) : cb h k < k := by
  obtain ⟨h1, h2⟩ := cb_b (U := h) k
  rcases Nat.lt_or_ge (cb h k) k with q | q
  · exact q
  · exfalso
    have h3 := h2 (by omega)
    have : h = 2 ^ k - 1 := by
      apply Nat.eq_of_testBit_eq
      intro i
      rw [Nat.testBit_two_pow_sub_one]
      by_cases w : i < k
      · rw [h3 i w, decide_eq_true w]
      · rw [decide_eq_false w]
        exact Nat.testBit_lt_two_pow (Nat.lt_of_lt_of_le (show h < 2 ^ k by omega) (Nat.pow_le_pow_right (by decide) (by omega)))
    omega
theorem cb_ful {k : Nat} : cb (2 ^ k - 1) k = k := cb_all k (fun e he => by rw [Nat.testBit_two_pow_sub_one, decide_eq_true he])
theorem or_gt {h d : Nat} (hf : h.testBit d = false) : h < h ||| 2 ^ d := by
  rcases Nat.lt_or_ge h (h ||| 2 ^ d) with q | q
  · exact q
  · exfalso
    have h1 : h ||| 2 ^ d = h := Nat.le_antisymm q Nat.left_le_or
    have : (h ||| 2 ^ d).testBit d = true := by
      rw [Nat.testBit_or, Nat.testBit_two_pow, decide_eq_true rfl, Bool.or_true]
    rw [h1, hf] at this
    cases this
theorem p64 {k : Nat} (hk : k ≤ 6) : 2 ^ k ≤ 64 ∧ 1 ≤ 2 ^ k := by
  refine ⟨?_, Nat.two_pow_pos k⟩
  rw [show 64 = 2 ^ 6 from rfl]
  exact Nat.pow_le_pow_right (by decide) hk
theorem mk_and2 {h d : Nat} (hh : h < 64) (hd : d < 6) : (nI h &&& bit d = nI 0) ↔ h.testBit d = false := by
  rw [bit_n d (by omega), nI_and, nI_eq (Nat.lt_of_le_of_lt Nat.and_le_left (by omega)) (by omega), and_pow]
def aT : Nat → Nat → Prop := fun c _ => c < 12 ∨ 22 ≤ c
theorem rw13 {t : Nat} (h : t < 2 ^ 31) : rw' 13 (nI t) = 14 + t := by unfold rw'; rw [nI_clamp h]
section BX
variable {F : Nat → Int32} {k : Nat}
def fitO (M : Mem) (F : Nat → Int32) (k : Nat) : Prop := M.1 12 3 = nI k ∧ ∀ i j, i < k → j < k → M.1 (14 + i) j = nI (gF F i j)
def rstO (M : Mem) (F : Nat → Int32) (k h : Nat) : Prop := ∀ m, h ≤ m → m < 2 ^ k → M.1 20 m = nI (opt (gF F) k (k - cb m k) (cb m k) m)
theorem x_brt (hk : k ≤ 6) {M : Mem} (hf : fitO M F k) {h t d : Nat} (hh : h < 2 ^ k) (ht : t = cb h k) (htk : t < k) (hd : d < k) (hfd : h.testBit d = false) (hr : rstO M F k (h + 1)) : f_X4_broughtBy (nI t) (nI d) (nI h) M = some (nI (fbf (gF F) k t h d), M) := by
  have h6 := p64 hk
  have hor : h ||| 2 ^ d < 2 ^ k := Nat.or_lt_two_pow hh (Nat.pow_lt_pow_right (by decide) hd)
  have hcb : cb (h ||| 2 ^ d) k = t + 1 := by rw [cb_or hfd, if_pos hd, ← ht]
  unfold f_X4_broughtBy
  rw [inb_n (by omega) (by omega), chk_tt, rw13 (by omega), bnd_e, inb_n (by omega) (by omega), chk_tt, show nI h ||| ((1 : Int32) <<< (nI d &&& 31)) = nI (h ||| 2 ^ d) from by rw [show ((1 : Int32) <<< (nI d &&& 31)) = bit d from rfl, bit_n d (by omega), nI_or], inb_n (by omega) (by omega), chk_tt, nI_clamp (by omega), nI_clamp (by omega), hf.2 t d htk hd, hr _ (or_gt hfd) hor, hcb, nI_add]
  rfl
theorem x_fb13 (hk : k ≤ 6) {M : Mem} (hf : fitO M F k) {h t : Nat} (hh : h < 2 ^ k) (ht : t = cb h k) (htk : t < k) (hr : rstO M F k (h + 1)) : ∀ (c d b v n : Nat), d + c = k → c < n → v ≤ 3000 → f_X4_firstBest_13 n (nI h) (nI t) (nI b) (nI v - nI 1) (nI d) M = some (nI (fbL (fbf (gF F) k t h) h c d b v).1, M) := by
  have h6 := p64 hk
  intro c
  induction c with
  | zero =>
    intro d b v n hd hn hv
    obtain ⟨n, rfl, -⟩ := suc hn
    obtain rfl : d = k := by omega
    rw [f_X4_firstBest_13, hf.1, if_pos (Int32.le_refl _)]
    rfl
  | succ c ih =>
    intro d b v n hd hn hv
    obtain ⟨n, rfl, -⟩ := suc hn
    have hdk : d < k := by omega
    have hb := fbf_bd (g := gF F) (k := k) (t := t) (U := h) (fun t d => (gF_is F t d).2) hk d
    have hand := mk_and2 (h := h) (d := d) (by omega) (by omega)
    rw [f_X4_firstBest_13, hf.1, if_neg (by rw [nI_leI (by omega) (by omega)]; omega)]
    unfold f_X4_firstBest_57
    rw [show nI d + (1 : Int32) = nI (d + 1) from nI_add d 1]
    simp only [bnd_e, fbL]
    by_cases q : h.testBit d = true
    · rw [if_pos q]
      refine (if_neg (fun e => ?_)).trans (ih (d + 1) b v n (by omega) (by omega) hv)
      rw [hand.mp e] at q
      cases q
    · have q' : h.testBit d = false := by
        cases e : h.testBit d with
        | true => exact absurd e q
        | false => rfl
      rw [if_neg q]
      refine (if_pos (hand.mpr q')).trans ?_
      rw [x_brt hk hf hh ht htk hdk q' hr, bn_s]
      by_cases z : fbf (gF F) k t h d + 1 ≤ v
      · rw [if_pos z, if_pos ((bI_le (by omega) (by omega)).mpr z)]
        exact ih (d + 1) b v n (by omega) (by omega) hv
      · rw [if_neg z, if_neg (fun e => z ((bI_le (by omega) (by omega)).mp e)), x_brt hk hf hh ht htk hdk q' hr, bn_s, ← bI_s (fbf (gF F) k t h d)]
        exact ih (d + 1) d _ n (by omega) (by omega) (by omega)
theorem x_fb (hk : k ≤ 6) {M : Mem} (hf : fitO M F k) {h t : Nat} (hh : h < 2 ^ k) (ht : t = cb h k) (htk : t < k) (hr : rstO M F k (h + 1)) : f_X4_firstBest (nI h) M = some (nI (fbB (gF F) k t h), M) := by
  have h6 := p64 hk
  unfold f_X4_firstBest
  rw [j_bit, bn_s, pop_cb h (by omega), cb_6 hk hh, ← ht]
  exact x_fb13 hk hf hh ht htk hr k 0 0 0 FU (Nat.zero_add k) (by show k < 100000; omega) (by omega)
theorem ch_lt {g : Nat → Nat → Nat} {k : Nat} : ∀ t, t ≤ k → um (ch g k) t < 2 ^ k ∧ cb (um (ch g k) t) k = t := by
  intro t
  induction t with
  | zero =>
    intro _
    refine ⟨Nat.two_pow_pos k, ?_⟩
    have := cb_um (y := ch g k) (k := k) 0
    omega
  | succ t ih =>
    intro h
    obtain ⟨h1, h2⟩ := ih (by omega)
    obtain ⟨_, h3, h4, _⟩ := ch_is (g := g) (show t < k by omega)
    simp only [um]
    exact ⟨Nat.or_lt_two_pow h1 (Nat.pow_lt_pow_right (by decide) h3), by rw [cb_or h4, if_pos h3, h2]⟩
theorem x_choose4 (hk : k ≤ 6) : ∀ (c t n : Nat) (M : Mem), t + c = k → c < n → fitO M F k → rstO M F k 0 → (∀ i, i < t → M.1 21 i = nI (ch (gF F) k i)) →
    ∃ M', f_X4_choose_4 n (nI (um (ch (gF F) k) t)) (nI t) M = some ((), M') ∧ ag (fun c _ => c ≠ 21) M M' ∧ ∀ i, i < k → M'.1 21 i = nI (ch (gF F) k i) := by
  have h6 := p64 hk
  intro c
  induction c with
  | zero =>
    intro t n M h hn hf hr hd
    obtain ⟨n, rfl, -⟩ := suc hn
    obtain rfl : t = k := by omega
    refine ⟨M, ?_, ag.rf, hd⟩
    rw [f_X4_choose_4, hf.1, if_pos (Int32.le_refl _)]
  | succ c ih =>
    intro t n M h hn hf hr hd
    obtain ⟨n, rfl, -⟩ := suc hn
    obtain ⟨g1, g2⟩ := ch_lt (g := gF F) (k := k) t (by omega)
    have hcc : fbB (gF F) k t (um (ch (gF F) k) t) = ch (gF F) k t := by unfold ch; rw [ch_um]; rfl
    have hcl := (ch_is (g := gF F) (show t < k by omega)).2.1
    have e1 := x_fb hk hf g1 g2.symm (show t < k by omega) (fun m a b => hr m (by omega) b)
    rw [hcc] at e1
    obtain ⟨M2, e2, a2, r2⟩ := ih (t + 1) n (mw M 21 t (nI (ch (gF F) k t))) (by omega) (by omega) ⟨by rw [mwn (by omega)]; exact hf.1, fun i j hi hj => by rw [mwn (by omega)]; exact hf.2 i j hi hj⟩ (fun m a b => by rw [mwn (by omega)]; exact hr m a b) (fun i hi => by
      by_cases e : i = t
      · subst e; rw [mw_eq]
      · rw [mwn (by omega)]; exact hd i (by omega))
    refine ⟨M2, ?_, (ag.rf.w _ (by omega)).tr a2, r2⟩
    rw [f_X4_choose_4, hf.1, if_neg (by rw [nI_leI (by omega) (by omega)]; omega), e1, bn_s, inb_n (by omega) (by omega), chk_tt, nI_clamp (by omega), bnd_e, show ((1 : Int32) <<< (nI (ch (gF F) k t) &&& 31)) = bit (ch (gF F) k t) from rfl, bit_n _ (by omega), nI_or, bnd_e, show nI t + (1 : Int32) = nI (t + 1) from nI_add t 1, bnd_e]
    exact e2
def trO (M : Mem) (F : Nat → Int32) (k : Nat) : Prop := M.1 12 3 = nI k ∧ M.1 12 4 = nI (opt (gF F) k k 0 0) ∧ ∀ i, i < k → M.1 21 i = nI (ch (gF F) k i)
theorem x_find89 (hk : k ≤ 6) : ∀ (h n : Nat) (M : Mem), h < n → h < 2 ^ k → fitO M F k → rstO M F k h → ∃ M', f_X4_find_89 n (nI h - nI 1) M = some ((), M') ∧ ag aT M M' ∧ trO M' F k := by
  have h6 := p64 hk
  intro h
  induction h with
  | zero =>
    intro n M hn hh hf hr
    obtain ⟨n, rfl, -⟩ := suc hn
    have c0 : cb 0 k = 0 := by have := cb_um (y := fun _ => 0) (k := k) 0; simp only [um] at this; omega
    have r0 := hr 0 (Nat.le_refl _) (by omega)
    rw [c0, Nat.sub_zero] at r0
    obtain ⟨M2, e2, a2, r2⟩ := x_choose4 (F := F) hk k 0 FU (mw M 12 4 (nI (opt (gF F) k k 0 0))) (Nat.zero_add k) (by show k < 100000; omega) ⟨by rw [mwn (by omega)]; exact hf.1, fun i j hi hj => by rw [mwn (by omega)]; exact hf.2 i j hi hj⟩ (fun m a b => by rw [mwn (by omega)]; exact hr m a b) (fun i hi => by omega)
    have e2' : f_X4_choose (mw M 12 4 (nI (opt (gF F) k k 0 0))) = some ((), M2) := e2
    refine ⟨M2, ?_, (ag.rf.w _ (by unfold aT; omega)).tr (a2.mono (fun c i q => by unfold aT at q; omega)), ?_, ?_, r2⟩
    · rw [f_X4_find_89, if_pos (show nI 0 - nI 1 < 0 by decide), show inb (0 : Int32) 64 = true from rfl, chk_tt, show (0 : Int32).toNatClampNeg = 0 from rfl, r0, bnd_e, e2', bn_s]
    · rw [a2.2 _ _ (by omega), mwn (by omega)]; exact hf.1
    · rw [a2.2 _ _ (by omega), mw_eq]
  | succ h ih =>
    intro n M hn hh hf hr
    obtain ⟨n, rfl, -⟩ := suc hn
    have hlt := cb_lt (h := h) (k := k) (by omega)
    obtain ⟨b1, b2, b3, b4, _, _⟩ := fb_is (g := gF F) (U := h) hlt (cb_free hlt)
    have e1 := x_fb hk hf (show h < 2 ^ k by omega) rfl hlt (fun m a b => hr m (by omega) b)
    have e2 := x_brt hk hf (show h < 2 ^ k by omega) rfl hlt b3 b4 (fun m a b => hr m (by omega) b)
    rw [← b1] at e2
    obtain ⟨M2, e3, a3, r3⟩ := ih n (mw M 20 h (nI (opt (gF F) k (k - cb h k) (cb h k) h))) (by omega) (by omega) ⟨by rw [mwn (by omega)]; exact hf.1, fun i j hi hj => by rw [mwn (by omega)]; exact hf.2 i j hi hj⟩ (fun m a b => by
      by_cases e : m = h
      · subst e; rw [mw_eq]
      · rw [mwn (by omega)]; exact hr m (by omega) b)
    refine ⟨M2, ?_, (ag.rf.w _ (by unfold aT; omega)).tr a3, r3⟩
    rw [bI_s, f_X4_find_89, if_neg (nI_pos (by omega)), j_bit, bn_s, pop_cb h (by omega), cb_6 hk (by omega), e1, bn_s, e2, bn_s, inb_n (by omega) (by omega), chk_tt, nI_clamp (by omega), bnd_e, show nI h + (-1 : Int32) = nI h - nI 1 from (Int32.sub_eq_add_neg (nI h) (nI 1)).symm, bnd_e]
    exact e3
theorem x_fit20 (hS : SI F k) {i : Nat} (hi : i < k) (k10 : Nat → Int32 → Mem → Option (Unit × Mem)) : ∀ (c j n : Nat) (M : Mem), j + c = k → c < n → LR M 34 F → M.1 12 3 = nI k → (∀ j', j' < j → M.1 (14 + i) j' = nI (gF F i j')) →
    ∃ M', f_X4_find_20 k10 n 34 (nI i) (nI j) M = k10 34 (nI (i + 1)) M' ∧ ag (fun c _ => c ≠ 14 + i) M M' ∧ ∀ j', j' < k → M'.1 (14 + i) j' = nI (gF F i j') := by
  have hk6 := hS.1
  intro c
  induction c with
  | zero =>
    intro j n M h hn hL h1 h2
    obtain ⟨n, rfl, -⟩ := suc hn
    obtain rfl : j = k := by omega
    refine ⟨M, ?_, ag.rf, h2⟩
    rw [f_X4_find_20, h1, if_pos (Int32.le_refl _), show nI i + (1 : Int32) = nI (i + 1) from nI_add i 1, bnd_e]
  | succ c ih =>
    intro j n M h hn hL h1 h2
    obtain ⟨n, rfl, -⟩ := suc hn
    obtain ⟨M2, e2, a2, r2⟩ := ih (j + 1) n (mw M (14 + i) j (nI (gF F i j))) (by omega) (by omega) (hL.o _ (by omega)) (by rw [mwn (by omega)]; exact h1) (fun j' hj => by
      by_cases e : j' = j
      · subst e; rw [mw_eq]
      · rw [mwn (by omega)]; exact h2 j' (by omega))
    refine ⟨M2, ?_, (ag.rf.w _ (by omega)).tr a2, r2⟩
    have es := x_shared hL isL34 hS (d := j) (t := i) (by omega) (by omega)
    rw [(gF_is F i j).1] at es
    rw [f_X4_find_20, h1, if_neg (by rw [nI_leI (by omega) (by omega)]; omega), inb_n (by omega) (by omega), chk_tt, rw13 (by omega), bnd_e, kbL isL34, chk_tt, inb_n (by omega) (by omega), chk_tt, show tw (34 + 1) (nI j) = tc 34 j from tw_35 (by omega), bnd_e, chk_tt, show tw (34 + 1) (nI i) = tc 34 i from tw_35 (by omega), bnd_e, es, bn_s, chk_tt, nI_clamp (by omega), bnd_e, show nI j + (1 : Int32) = nI (j + 1) from nI_add j 1, bnd_e]
    exact e2
theorem x_find10 (hS : SI F k) : ∀ (c i n : Nat) (M : Mem), i + c = k → c < n → LR M 34 F → M.1 12 3 = nI k → (∀ i' j', i' < i → j' < k → M.1 (14 + i') j' = nI (gF F i' j')) →
    ∃ M', f_X4_find_10 n 34 (nI i) M = some ((), M') ∧ ag aT M M' ∧ trO M' F k := by
  have hk6 := hS.1
  have h6 := p64 hk6
  intro c
  induction c with
  | zero =>
    intro i n M h hn hL h1 h2
    obtain ⟨n, rfl, -⟩ := suc hn
    obtain rfl : i = k := by omega
    obtain ⟨M2, e2, a2, r2⟩ := x_find89 (F := F) hk6 (2 ^ i - 1) FU (mw M 20 (2 ^ i - 1) (nI 0)) (by show 2 ^ i - 1 < 100000; omega) (by omega) ⟨by rw [mwn (by omega)]; exact h1, fun a b ha hb => by rw [mwn (by omega)]; exact h2 a b ha hb⟩ (fun m a b => by
      obtain rfl : m = 2 ^ i - 1 := by omega
      rw [mw_eq, cb_ful, Nat.sub_self]
      rfl)
    refine ⟨M2, ?_, (ag.rf.w _ (by unfold aT; omega)).tr a2, r2⟩
    rw [f_X4_find_10, h1, if_pos (Int32.le_refl _), show ((1 : Int32) <<< (nI i &&& 31)) = bit i from rfl, bit_n _ (by omega), show nI (2 ^ i) - (1 : Int32) = nI (2 ^ i - 1) from pk_sub h6.2, bnd_e, inb_n (by omega) (by omega), chk_tt, nI_clamp (by omega), bnd_e, bnd_e]
    exact e2
  | succ c ih =>
    intro i n M h hn hL h1 h2
    obtain ⟨n, rfl, -⟩ := suc hn
    obtain ⟨M1, e1, a1, r1⟩ := x_fit20 hS (show i < k by omega) (f_X4_find_10 n) k 0 FU M (Nat.zero_add k) (by show k < 100000; omega) hL h1 (fun j' hj => by omega)
    obtain ⟨M2, e2, a2, r2⟩ := ih (i + 1) n M1 (by omega) (by omega) (hL.ag a1 (fun c _ _ _ => by omega)) (by rw [a1.2 _ _ (by omega)]; exact h1) (fun i' j' hi hj => by
      by_cases e : i' = i
      · subst e; exact r1 j' hj
      · rw [a1.2 _ _ (by omega)]; exact h2 i' j' (by omega) hj)
    refine ⟨M2, ?_, (a1.mono (fun c _ q => by unfold aT at q; omega)).tr a2, r2⟩
    rw [f_X4_find_10, h1, if_neg (by rw [nI_leI (by omega) (by omega)]; omega)]
    exact e1.trans e2
theorem x_trades (hS : SI F k) {M : Mem} (hL : LR M 34 F) : ∃ M', f_X4_find 34 M = some ((), M') ∧ ag aT M M' ∧ trO M' F k := by
  have hk6 := hS.1
  obtain ⟨M1, e1, a1, r1⟩ := x_find10 hS k 0 FU (mw M 12 3 (nI k)) (Nat.zero_add k) (by show k < 100000; omega) (hL.o _ (by omega)) (by rw [mw_eq]) (fun i' j' hi hj => by omega)
  refine ⟨M1, ?_, (ag.rf.w _ (by unfold aT; omega)).tr a1, r1⟩
  unfold f_X4_find
  rw [kbL isL34, chk_tt, x_many hL hS, bnd_e]
  exact e1
end BX
