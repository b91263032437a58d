/-! ===== digest, side by side ===== -/
section DN
variable {F : Nat → Int32} {k n l : Nat} {Sv : Nat → Nat → Int32} {B : Nat → Int32}
/-- the digest's end -/
def De (f : Option (Int64 × Mem)) (M : Mem) (F : Nat → Int32) (n : Nat) (Sv : Nat → Nat → Int32) (l : Nat) (B : Nat → Int32) (h : Int64) : Prop := ∃ M', f = some (h, M') ∧ JM M' F n Sv l B ∧ oM M M'
theorem De.o {f : Option (Int64 × Mem)} {M M1 : Mem} {h : Int64} (d : De f M1 F n Sv l B h) (o : oM M M1) : De f M F n Sv l B h := by
  obtain ⟨M', e, j, o'⟩ := d
  exact ⟨M', e, j, o.tr o'⟩
theorem m_dg186 (hl : l ≤ 60) : ∀ (c i m : Nat) (h : Int64) (M : Mem), i + c = l → c < m → HM M F n Sv l B h → De (f_X7_digest_186 m (nI i) M) M F n Sv l B (fo B c i h) := by
  intro c
  induction c with
  | zero =>
    intro i m h M hi hm hH
    obtain ⟨m, rfl, -⟩ := suc hm
    obtain rfl : i = l := by omega
    refine ⟨mw M 24 2 0, ?_, hH.1.co 0, fun c i q => mwn (by unfold aM at q; omega)⟩
    rw [f_X7_digest_186, hH.1.2.1, if_pos (Int32.le_refl _), bnd_e, mw2, hH.2]
    rfl
  | succ c ih =>
    intro i m h M hi hm hH
    obtain ⟨m, rfl, -⟩ := suc hm
    obtain ⟨M2, e2, h2, q2⟩ := m_add h (B i) hH
    rw [f_X7_digest_186, hH.1.2.1, if_neg (by rw [nI_leI (by omega) (by omega)]; omega), inb_n (by omega) (by omega), chk_tt, nI_clamp (by omega), hH.1.2.2 i (by omega), e2, bn_s, show nI i + (1 : Int32) = nI (i + 1) from nI_add i 1, bnd_e]
    exact (ih (i + 1) m _ M2 (by omega) (by omega) h2).o (eq_o q2)
theorem m_dg142 (hS : SI F k) (hl : l ≤ 60) : ∀ (c i m : Nat) (h : Int64) (M : Mem), i + c = 6 → c < m → HM M F n Sv l B h → De (f_X7_digest_142 m (nI (10 + i)) M) M F n Sv l B (fo B l 0 (mx ((31 : Int64) * (fo (fun i => rgV F (rngF F k) (10 + i)) c i h) + (shF F k).toInt64) (nI l))) := by
  intro c
  induction c with
  | zero =>
    intro i m h M hi hm hH
    obtain ⟨m, rfl, -⟩ := suc hm
    obtain rfl : i = 6 := by omega
    have e1 := m_share hH.1.1.1 hS
    have h1 : HM (mw M 24 2 (nI 0)) F n Sv l B h := ⟨hH.1.co (nI 0), hH.2⟩
    obtain ⟨M2, e2, h2, q2⟩ := m_add64 h (shF F k).toInt64 h1
    obtain ⟨M3, e3, h3, q3⟩ := m_add _ (nI l) h2
    have e3' : f_X7_add (M2.1 24 4).toInt64 M2 = some ((), M3) := by rw [h2.1.2.1]; exact e3
    have o1 : oM M (mw M 24 2 (nI 0)) := fun c i q => mwn (by unfold aM at q; omega)
    rw [f_X7_digest_142, if_pos (show (16 : Int32) ≤ nI (10 + 6) from Int32.le_refl _), e1, bn_s, m_dbits (shF_is hS).1, bn_s, e2, bn_s, e3', bn_s]
    exact (m_dg186 hl l 0 FU _ M3 (Nat.zero_add l) (by show l < 100000; omega) h3).o ((o1.tr (eq_o q2)).tr (eq_o q3))
  | succ c ih =>
    intro i m h M hi hm hH
    obtain ⟨m, rfl, -⟩ := suc hm
    obtain ⟨M1, e1, a1⟩ := m_rgtell (w := 10 + i) hS hH.1.1.1 (Or.inr (by omega))
    obtain ⟨M2, e2, h2, q2⟩ := m_add h (rgV F (rngF F k) (10 + i)) (hH.q (aG_Q a1))
    rw [f_X7_digest_142, if_neg (show ¬ (16 : Int32) ≤ nI (10 + i) by rw [show (16 : Int32) = nI 16 from rfl, nI_leI (by omega) (by omega)]; omega), e1, bn_s, e2, bn_s, show nI (10 + i) + (1 : Int32) = nI (10 + (i + 1)) from nI_add (10 + i) 1, bnd_e]
    exact (ih (i + 1) m _ M2 (by omega) (by omega) h2).o ((mQ_o (aG_Q a1)).tr (eq_o q2))
theorem m_dg97 (hS : SI F k) (hl : l ≤ 60) : ∀ (c i m : Nat) (h : Int64) (M : Mem), i + c = 6 → c < m → HM M F n Sv l B h → De (f_X7_digest_97 m (nI (10 + i)) M) M F n Sv l B (fo B l 0 (mx ((31 : Int64) * (dgC F k (fo (fun i => tdV F k (10 + i)) c i h)) + (shF F k).toInt64) (nI l))) := by
  intro c
  induction c with
  | zero =>
    intro i m h M hi hm hH
    obtain ⟨m, rfl, -⟩ := suc hm
    obtain rfl : i = 6 := by omega
    obtain ⟨M1, e1, a1⟩ := m_rgtell (w := 0) hS hH.1.1.1 (Or.inl (by omega))
    obtain ⟨M2, e2, h2, q2⟩ := m_add h (rgV F (rngF F k) 0) (hH.q (aG_Q a1))
    obtain ⟨M3, e3, a3⟩ := m_rgtell (w := 1) hS h2.1.1.1 (Or.inl (by omega))
    obtain ⟨M4, e4, h4, q4⟩ := m_add _ (rgV F (rngF F k) 1) (h2.q (aG_Q a3))
    have e1' : f_X7_ringOf 0 M = some (rgV F (rngF F k) 0, M1) := e1
    have e3' : f_X7_ringOf 1 M2 = some (rgV F (rngF F k) 1, M3) := e3
    rw [f_X7_digest_97, if_pos (show (16 : Int32) ≤ nI (10 + 6) from Int32.le_refl _), e1', bn_s, e2, bn_s, e3', bn_s, e4, bn_s]
    exact (m_dg142 hS hl 6 0 FU _ M4 rfl (by decide) h4).o ((((mQ_o (aG_Q a1)).tr (eq_o q2)).tr (mQ_o (aG_Q a3))).tr (eq_o q4))
  | succ c ih =>
    intro i m h M hi hm hH
    obtain ⟨m, rfl, -⟩ := suc hm
    obtain ⟨M1, e1, a1⟩ := m_trades (w := 10 + i) hS (Or.inr (by omega)) hH.1.1.1
    obtain ⟨M2, e2, h2, q2⟩ := m_add h (tdV F k (10 + i)) (hH.q (aV_Q a1))
    rw [f_X7_digest_97, if_neg (show ¬ (16 : Int32) ≤ nI (10 + i) by rw [show (16 : Int32) = nI 16 from rfl, nI_leI (by omega) (by omega)]; omega), e1, bn_s, e2, bn_s, show nI (10 + i) + (1 : Int32) = nI (10 + (i + 1)) from nI_add (10 + i) 1, bnd_e]
    exact (ih (i + 1) m _ M2 (by omega) (by omega) h2).o ((mQ_o (aV_Q a1)).tr (eq_o q2))
theorem m_dg61 (hS : SI F k) (hl : l ≤ 60) : ∀ (c t m : Nat) (h : Int64) (M : Mem), t + c = k → c < m → HM M F n Sv l B h → De (f_X7_digest_61 m (nI t) M) M F n Sv l B (fo B l 0 (mx ((31 : Int64) * (dgC F k (dgB F k (tnL F k c t h))) + (shF F k).toInt64) (nI l))) := by
  have hk := hS.1
  intro c
  induction c with
  | zero =>
    intro t m h M ht hm hH
    obtain ⟨m, rfl, -⟩ := suc hm
    obtain rfl : t = k := by omega
    have hmm := (hH.1.1.1 423 (by omega)).trans hS.2.1
    obtain ⟨M1, e1, a1⟩ := m_trades (w := 0) hS (Or.inl rfl) hH.1.1.1
    obtain ⟨M2, e2, h2, q2⟩ := m_add h (tdV F t 0) (hH.q (aV_Q a1))
    have e1' : f_X7_bestTradesOf 0 M = some (tdV F t 0, M1) := e1
    rw [f_X7_digest_61, show inb (423 : Int32) 3424 = true from rfl, chk_tt, show (423 : Int32).toNatClampNeg = 423 from rfl, hmm, if_pos (Int32.le_refl _), e1', bn_s, e2, bn_s]
    exact (m_dg97 hS hl 6 0 FU _ M2 rfl (by decide) h2).o ((mQ_o (aV_Q a1)).tr (eq_o q2))
  | succ c ih =>
    intro t m h M ht hm hH
    obtain ⟨m, rfl, -⟩ := suc hm
    have hmm := (hH.1.1.1 423 (by omega)).trans hS.2.1
    obtain ⟨M1, e1, h1, o1⟩ := m_addTown hS (show t < 6 by omega) hH
    rw [f_X7_digest_61, show inb (423 : Int32) 3424 = true from rfl, chk_tt, show (423 : Int32).toNatClampNeg = 423 from rfl, hmm, if_neg (by rw [nI_leI (by omega) (by omega)]; omega), e1, bn_s, show nI t + (1 : Int32) = nI (t + 1) from nI_add t 1, bnd_e]
    exact (ih (t + 1) m _ M1 (by omega) (by omega) h1).o o1
theorem m_dg33 (hS : SI F k) (hl : l ≤ 60) : ∀ (c i m : Nat) (h : Int64) (M : Mem), i + c = 3 → c < m → HM M F n Sv l B h → De (f_X7_digest_33 m (nI i) M) M F n Sv l B (fo B l 0 (mx ((31 : Int64) * (dgC F k (dgB F k (tnL F k k 0 (fo (fun i => F (420 + i)) c i h)))) + (shF F k).toInt64) (nI l))) := by
  have hk := hS.1
  intro c
  induction c with
  | zero =>
    intro i m h M hi hm hH
    obtain ⟨m, rfl, -⟩ := suc hm
    obtain rfl : i = 3 := by omega
    rw [f_X7_digest_33, if_pos (show (3 : Int32) ≤ nI 3 from Int32.le_refl _)]
    exact m_dg61 hS hl k 0 FU h M (Nat.zero_add k) (by show k < 100000; omega) hH
  | succ c ih =>
    intro i m h M hi hm hH
    obtain ⟨m, rfl, -⟩ := suc hm
    obtain ⟨M2, e2, h2, q2⟩ := m_add h (F (420 + i)) hH
    rw [f_X7_digest_33, if_neg (show ¬ (3 : Int32) ≤ nI i by rw [show (3 : Int32) = nI 3 from rfl, nI_leI (by omega) (by omega)]; omega), show (420 : Int32) + nI i = nI (420 + i) from nI_add 420 i, inb_n (by omega) (by omega), chk_tt, nI_clamp (by omega), hH.1.1.1 _ (by omega), e2, bn_s, show nI i + (1 : Int32) = nI (i + 1) from nI_add i 1, bnd_e]
    exact (ih (i + 1) m _ M2 (by omega) (by omega) h2).o (eq_o q2)
theorem m_dg9 (hS : SI F k) (hl : l ≤ 60) : ∀ (c i m : Nat) (h : Int64) (M : Mem), i + c = 11 → c < m → HM M F n Sv l B h → De (f_X7_digest_9 m (nI i) M) M F n Sv l B (fo B l 0 (mx ((31 : Int64) * (dgC F k (dgB F k (tnL F k k 0 (fo (fun i => F (420 + i)) 3 0 (fo (countF F k n) c i h))))) + (shF F k).toInt64) (nI l))) := by
  intro c
  induction c with
  | zero =>
    intro i m h M hi hm hH
    obtain ⟨m, rfl, -⟩ := suc hm
    obtain rfl : i = 11 := by omega
    rw [f_X7_digest_9, if_pos (show (11 : Int32) ≤ nI 11 from Int32.le_refl _)]
    exact m_dg33 hS hl 3 0 FU h M rfl (by decide) hH
  | succ c ih =>
    intro i m h M hi hm hH
    obtain ⟨m, rfl, -⟩ := suc hm
    obtain ⟨M2, e2, h2, q2⟩ := m_add h (countF F k n i) hH
    rw [f_X7_digest_9, if_neg (show ¬ (11 : Int32) ≤ nI i by rw [show (11 : Int32) = nI 11 from rfl, nI_leI (by omega) (by omega)]; omega), m_countOf hH.1.1.1 hS hH.1.1.2.1 (by omega), bn_s, e2, bn_s, show nI i + (1 : Int32) = nI (i + 1) from nI_add i 1, bnd_e]
    exact (ih (i + 1) m _ M2 (by omega) (by omega) h2).o (eq_o q2)
theorem m_digest (hS : SI F k) (hl : l ≤ 60) {M : Mem} (hM : JM M F n Sv l B) : De (f_X7_digest M) M F n Sv l B (dgH F k n l B) := by
  unfold f_X7_digest
  rw [bnd_e]
  exact (m_dg9 hS hl 11 0 FU (2357 : Int64) (ml M 0 (2357 : Int64)) rfl (by decide) ⟨hM.x (fun _ _ _ => rfl), rfl⟩).o (fun _ _ _ => rfl)
end DN
theorem o_digest {M : Mem} (h : Jt M) : ∃ v M1, f_X6_digest M = some (.inl v, M1) ∧ ∀ M1' : Mem, M1'.1 = M1.1 → ∃ M2, f_X7_digest M1' = some (v, M2) ∧ Jt M2 := by
  obtain ⟨F, k, n, Sv, l, B, hX, hM, hS⟩ := h
  obtain ⟨M1, e1, a1⟩ := x_digest hS.1 hS.2.2 hX
  refine ⟨_, M1, e1, fun M1' e => ?_⟩
  have hM1 : JM M1' F n Sv l B := hM.x (mX_aX a1 e (fun c i q => by unfold aX at q; unfold xQ; omega))
  have hX1 : JX M1' F n Sv l B := (hX.q a1).cp (fun c i _ => by rw [e])
  obtain ⟨M2, e2, h2, o2⟩ := m_digest hS.1 hS.2.2 hM1
  exact ⟨M2, e2, F, k, n, Sv, l, B, hX1.cp (fun c i q => o2 c i (by unfold aM; omega)), h2, hS⟩
