/-! ===== isSettled, isBest ===== -/
theorem lcmp0 {x y : Int64} (h : x = y) : lg_cmp x y = 0 := by
  subst h
  unfold lg_cmp
  split
  · rename_i h; exact absurd h Int64.lt_irrefl
  · rw [if_pos rfl]
theorem nx_5 {n : Nat} (h : n ≤ 5) : nx n - 1 = n := by unfold nx; rw [if_pos (by omega)]; omega
theorem isb_1 : isb (1 : Int32) = true := by decide
section SB
variable {M : Mem} {F : Nat → Int32} {k m n l t : Nat} {Sv : Nat → Nat → Int32} {B : Nat → Int32}
theorem y_undo5 {M' : Mem} {F' : Nat → Int32} (h5 : n ≤ 5) (hX : JX M' F' (nx n) (pushS F n Sv) l B) : ∃ M1 v, f_X6_undo M' = some (.inl v, M1) ∧ JX M1 F n (pushS F n Sv) l B := by
  obtain ⟨M1, e1, x1⟩ := y_undoP (by omega) hX
  rw [nx_5 h5] at x1
  exact ⟨M1, _, e1, x1⟩
theorem l_settled (hX : JX M F n Sv l B) (hI : Iv F k m) (hm : m ≤ 90) (h5 : n ≤ 5) (ht : t < k) : ∃ M' Sv', f_L_isSettled (nI t) M = some (.inl (nI 1), M') ∧ JX M' F n Sv' l B := by
  have hS := hI.1
  have hk := hS.1
  have h6 : t < 6 := by omega
  obtain ⟨M1, p1, x1⟩ := q_ring0 hX hS
  obtain ⟨M2, p2, x2, s2⟩ := y_settle x1 hS
  obtain ⟨M3, p3, x3⟩ := q_ring0 x2 s2
  obtain ⟨M4, p4, x4⟩ := q_ring10 x3 s2
  obtain ⟨M5, v5, p5, x5⟩ := y_undo5 h5 x4
  have hnone := stl_none hk 31 0 F (by have := pcn_30 F; omega)
  have hany := stl_any (k := k) (c := 30) (F := F)
  obtain ⟨a1, a2⟩ := stl_all hk 31 0 F
  have hb := stl_bal hk h6 31 0 F
  have hn := stl_n (k := k) 31 0 F
  rw [show (stl k 31 0 F).2 426 + nI 0 = (stl k 31 0 F).2 426 from Int32.add_zero _] at a1
  refine ⟨M5, _, ?_, x5⟩
  have r1 : rgV (stl k 31 0 F).2 (rngF (stl k 31 0 F).2 k) 0 = (-1 : Int32) := by rw [hnone]; rfl
  have r2 : rgV (stl k 31 0 F).2 (rngF (stl k 31 0 F).2 k) 10 = (-1 : Int32) := by rw [hnone]; rfl
  have key : ∀ z : Int32, f_L_isSettled_69 (nI t) (owedF F t - owesF F t) (allD F k) (F 427) (F 426) z (nI (stl k 31 0 F).1) z M2 = some (.inl (nI 1), M5) := by
    intro z
    unfold f_L_isSettled_69
    rw [if_pos rfl, p3, bt_s, if_pos r1, p4, bt_s, if_pos r2, q_t7 x4 s2 ht, bt_s, q_t6 x4 s2 ht, bt_s, if_pos hb, q_c7 x4 s2, bt_s, if_pos a1, q_c8 x4 s2, bt_s, q_c3 x4 s2, bt_s, if_pos a2]
    unfold f_L_isSettled_150
    rw [p5, bt_s, if_neg (show ¬ (1 : Int32) = 0 by decide), q_c3 x5 hS, bt_s, if_pos rfl]
    unfold f_L_isSettled_176
    rw [isb_1, chk_tt]
    rfl
  unfold f_L_isSettled
  rw [q_t7 hX hS ht, bt_s, q_t6 hX hS ht, bt_s, bnd_e, q_c3 hX hS, bt_s, q_c8 hX hS, bt_s, q_c7 hX hS, bt_s, p1, bt_s]
  cases hr : rngF F k with
  | none =>
    have h0 : ¬ 0 < (stl k 31 0 F).1 := fun h => by
      obtain ⟨q, hq⟩ := hany.mp h
      rw [hr] at hq
      cases hq
    rw [if_pos (show rgV F none 0 ≤ (0 : Int32) from (by decide : -nI 1 ≤ (0 : Int32)))]
    unfold f_L_isSettled_51
    rw [p2, bn_s, if_pos (show nI (stl k 31 0 F).1 ≤ (0 : Int32) by rw [show (stl k 31 0 F).1 = 0 by omega]; decide)]
    exact key 0
  | some q =>
    obtain ⟨z, x⟩ := q
    obtain ⟨z2, zk, z6, _, _, _⟩ := rng_ok hk hr
    have h0 : 0 < (stl k 31 0 F).1 := hany.mpr ⟨_, hr⟩
    have e0 : rgV F (some (z, x)) 0 = nI z := rfl
    rw [e0, if_neg (show ¬ nI z ≤ (0 : Int32) by rw [show (0 : Int32) = nI 0 from rfl, nI_leI (by omega) (by omega)]; omega)]
    unfold f_L_isSettled_51
    rw [p2, bn_s, if_neg (show ¬ nI (stl k 31 0 F).1 ≤ (0 : Int32) by rw [show (0 : Int32) = nI 0 from rfl, nI_leI (by omega) (by omega)]; omega)]
    exact key 1
theorem be_190 (hX : JX M F n Sv l B) (hS : SI F k) (hl : l ≤ 60) {d : Int32} (hd : ¬ d = nI t) : ∃ M', f_L_isBest_190 (nI t) (dgH F k n l B) d M = some (.inl (nI 1), M') ∧ JX M' F n Sv l B := by
  obtain ⟨M1, p1, x1⟩ := q_dig hX hS hl
  refine ⟨M1, ?_, x1⟩
  unfold f_L_isBest_190
  rw [if_neg hd, p1, bt_s, if_pos (lcmp0 rfl)]
  unfold f_L_isBest_210
  rw [isb_1, chk_tt]
  rfl
theorem be_80 (hX : JX M F n Sv l B) (hI : Iv F k m) (h5 : n ≤ 5) (hl : l ≤ 60) (ht : t < k) {b : Nat} (hb : b < 24) (y : Int32) : ∃ M' Sv', f_L_isBest_80 (nI t) y (dgH F k n l B) (rightF F t t b) (nI b) M = some (.inl (nI 1), M') ∧ JX M' F n Sv' l B := by
  have hS := hI.1
  have hk := hS.1
  have h6 : t < 6 := by omega
  obtain ⟨M1, p1, x1, s1⟩ := y_turn1 hX hS ht hb
  obtain ⟨M2, v2, p2, x2⟩ := y_undo5 h5 x1
  obtain ⟨u, hu, eu⟩ := low_ex (y >>> ((5 : Int32) &&& 31)) (show 0 < k by omega) (show k < 2 ^ 31 by omega)
  unfold f_L_isBest_80
  rw [p1, bt_s, if_pos (right_tu h6 hb), p2, bt_s, q_c0 x2 hS, bt_s, eu M2, bn_s, q_drum x2 hS ht, bt_s]
  by_cases q : u = t
  · rw [if_pos (by rw [q])]
    have hd : ¬ drumB F k t = nI t := by
      rcases best_drum (F := F) (t := t) hk with ⟨e, -⟩ | ⟨b', h1, h2, e, -⟩
      · rw [e]
        intro h
        have := h.symm
        rw [nI_m1 (by omega)] at this
        exact this
      · rw [e, nI_eq (by omega) (by omega)]
        exact h2
    obtain ⟨M3, p3, x3⟩ := be_190 x2 hS hl hd
    exact ⟨M3, _, p3, x3⟩
  · rw [if_neg (fun e => q ((nI_eq (by omega) (by omega)).mp e))]
    rcases best_drum (F := F) (t := t) hk with ⟨-, h2⟩ | ⟨b', h1, h2, e, hbest⟩
    · exact absurd (h2 u hu) q
    · rw [e]
      obtain ⟨M3, p3, x3, s3⟩ := y_trade1 x2 hS ht h1 (Ne.symm h2)
      obtain ⟨M4, v4, p4, x4⟩ := y_undo5 h5 x3
      obtain ⟨M5, p5, x5, s5⟩ := y_trade1 x4 hS ht hu (Ne.symm q)
      obtain ⟨M6, v6, p6, x6⟩ := y_undo5 h5 x5
      have hd : ¬ nI b' = nI t := by rw [nI_eq (by omega) (by omega)]; exact h2
      obtain ⟨M7, p7, x7⟩ := be_190 x6 hS hl hd
      refine ⟨M7, _, ?_, x7⟩
      obtain ⟨g1, g2⟩ := hbest u hu q
      rw [p3, bt_s, q_t3 x3 s3 ht, bt_s, p4, bt_s, p5, bt_s, q_t3 x5 s5 ht, bt_s, p6, bt_s, right_tr h6 (show b' < 6 by omega) (Ne.symm h2), right_tr h6 (show u < 6 by omega) (Ne.symm q), if_neg (Int32.not_lt.mpr g1)]
      by_cases z : rightF F u t 0 = rightF F b' t 0
      · rw [if_pos z, if_pos (show nI b' ≤ nI u by rw [nI_leI (by omega) (by omega)]; exact g2 z)]
        exact p7
      · rw [if_neg z]
        exact p7
theorem l_best (hX : JX M F n Sv l B) (hI : Iv F k m) (h5 : n ≤ 5) (hl : l ≤ 60) (ht : t < k) (y : Int32) : ∃ M' Sv', f_L_isBest (nI t) y M = some (.inl (nI 1), M') ∧ JX M' F n Sv' l B := by
  have hS := hI.1
  have hk := hS.1
  have h6 : t < 6 := by omega
  obtain ⟨b, b1, b2, b3, b4⟩ := best_turn F t
  obtain ⟨M1, p1, x1⟩ := q_dig hX hS hl
  obtain ⟨j, hj, ej⟩ := low_ex y (show 0 < 24 by omega) (show 24 < 2 ^ 31 by omega)
  have ej' : f_L_low y 24 M1 = some (nI j, M1) := ej M1
  obtain ⟨M2, p2, x2, s2⟩ := y_turn1 x1 hS ht hj
  obtain ⟨M3, v3, p3, x3⟩ := y_undo5 h5 x2
  obtain ⟨M4, Sv4, p4, x4⟩ := be_80 x3 hI h5 hl ht b1 y
  refine ⟨M4, Sv4, ?_, x4⟩
  obtain ⟨g1, g2⟩ := b4 j hj
  unfold f_L_isBest
  rw [q_c10 hX hS, bt_s, if_neg (show ¬ nI n = (6 : Int32) by rw [show (6 : Int32) = nI 6 from rfl, nI_eq (by omega) (by omega)]; omega)]
  unfold f_L_isBest_16
  rw [p1, bt_s, q_turn1 x1 hS ht, bt_s, q_turn0 x1 hS ht, bt_s, ej', bn_s, p2, bt_s, p3, bt_s, b3, b2, right_tu h6 hj, if_neg (Int32.not_lt.mpr g1)]
  by_cases z : rightF F t t j = rightF F t t b
  · rw [if_pos z, if_neg (show ¬ nI j < nI b by rw [nI_ltI (by omega) (by omega)]; have := g2 z; omega)]
    exact p4
  · rw [if_neg z]
    exact p4
end SB
