/-! ===== digest: the reference ===== -/
section DM
variable {F : Nat → Int32} {k n l : Nat} {Sv : Nat → Nat → Int32} {B : Nat → Int32}
/-- state and hash -/
def HM (M : Mem) (F : Nat → Int32) (n : Nat) (Sv : Nat → Nat → Int32) (l : Nat) (B : Nat → Int32) (h : Int64) : Prop := JM M F n Sv l B ∧ M.2 0 = h
def oM (M M' : Mem) : Prop := ∀ c i, aM c i → M'.1 c i = M.1 c i
theorem oM.rf {M : Mem} : oM M M := fun _ _ _ => rfl
theorem oM.tr {M M1 M2 : Mem} (h : oM M M1) (h' : oM M1 M2) : oM M M2 := fun c i q => (h' c i q).trans (h c i q)
theorem m_add {M : Mem} (h : Int64) (v : Int32) (hH : HM M F n Sv l B h) : ∃ M', f_X7_add v.toInt64 M = some ((), M') ∧ HM M' F n Sv l B (mx h v) ∧ M'.1 = M.1 := by
  refine ⟨ml M 0 ((31 : Int64) * (M.2 0) + v.toInt64), rfl, ⟨hH.1.x (fun _ _ _ => rfl), ?_⟩, rfl⟩
  rw [hH.2]
  rfl
theorem m_add64 {M : Mem} (h v : Int64) (hH : HM M F n Sv l B h) : ∃ M', f_X7_add v M = some ((), M') ∧ HM M' F n Sv l B ((31 : Int64) * h + v) ∧ M'.1 = M.1 := by
  refine ⟨ml M 0 ((31 : Int64) * (M.2 0) + v), rfl, ⟨hH.1.x (fun _ _ _ => rfl), ?_⟩, rfl⟩
  rw [hH.2]
  rfl
theorem HM.q {M M' : Mem} {h : Int64} (hH : HM M F n Sv l B h) (a : ag mQ M M') : HM M' F n Sv l B h := ⟨hH.1.q a, by rw [a.1]; exact hH.2⟩
theorem mQ_o {M M' : Mem} (a : ag mQ M M') : oM M M' := fun c i q => a.2 c i (by unfold aM at q; unfold mQ; omega)
theorem eq_o {M M' : Mem} (e : M'.1 = M.1) : oM M M' := fun c i _ => by rw [e]
/-- what a part of the digest does -/
def Dg (f : Option (Unit × Mem)) (M : Mem) (F : Nat → Int32) (n : Nat) (Sv : Nat → Nat → Int32) (l : Nat) (B : Nat → Int32) (h : Int64) : Prop := ∃ M', f = some ((), M') ∧ HM M' F n Sv l B h ∧ oM M M'
theorem m_at167 {t : Nat} (ht : t < 6) {P : PS} : ∀ (c s m : Nat) (h : Int64) (M : Mem), s + c = 24 → c < m → HM M F n Sv l B h → (∀ s, s < 24 → M.1 28 s = P.2.2.2.1 s) → Dg (f_X7_addTownOf_167 m (nI t) (nI s) M) M F n Sv l B (fo3 (drumF F t) (tuneF F t) P.2.2.2.1 c s h) := by
  intro c
  induction c with
  | zero =>
    intro s m h M hs hm hH hP
    obtain ⟨m, rfl, -⟩ := suc hm
    obtain rfl : s = 24 := by omega
    refine ⟨M, ?_, hH, oM.rf⟩
    rw [f_X7_addTownOf_167, if_pos (show (24 : Int32) ≤ nI 24 from Int32.le_refl _)]
  | succ c ih =>
    intro s m h M hs hm hH hP
    obtain ⟨m, rfl, -⟩ := suc hm
    have i1 : ((6 : Int32) + nI 24 * nI t) + nI s = nI (6 + 24 * t + s) := (show (nI 6 + nI 24 * nI t) + nI s = _ by rw [pk_mul, nI_add, nI_add])
    have i2 : ((150 : Int32) + nI 24 * nI t) + nI s = nI (150 + 24 * t + s) := (show (nI 150 + nI 24 * nI t) + nI s = _ by rw [pk_mul, nI_add, nI_add])
    obtain ⟨M1, e1, h1, q1⟩ := m_add (M := M) h (drumF F t s) hH
    obtain ⟨M2, e2, h2, q2⟩ := m_add (M := M1) _ (tuneF F t s) h1
    obtain ⟨M3, e3, h3, q3⟩ := m_add (M := M2) _ (P.2.2.2.1 s) h2
    obtain ⟨M4, e4, h4, o4⟩ := ih (s + 1) m _ M3 (by omega) (by omega) h3 (fun s hs => by rw [q3, q2, q1]; exact hP s hs)
    refine ⟨M4, ?_, h4, (((eq_o q1).tr (eq_o q2)).tr (eq_o q3)).tr o4⟩
    have d1 : M.1 25 (6 + 24 * t + s) = drumF F t s := hH.1.1.1 _ (by omega)
    have d2 : M1.1 25 (150 + 24 * t + s) = tuneF F t s := h1.1.1.1 _ (by omega)
    have d3 : M2.1 28 s = P.2.2.2.1 s := by rw [q2, q1]; exact hP s (by omega)
    rw [f_X7_addTownOf_167, if_neg (show ¬ (24 : Int32) ≤ nI s by rw [show (24 : Int32) = nI 24 from rfl, nI_leI (by omega) (by omega)]; omega), m_at, bn_s, i1, inb_n (by omega) (by omega), chk_tt, nI_clamp (by omega), d1, e1, bn_s, m_at, bn_s, i2, inb_n (by omega) (by omega), chk_tt, nI_clamp (by omega), d2, e2, bn_s, inb_n (by omega) (by omega), chk_tt, nI_clamp (by omega), d3, e3, bn_s, show nI s + (1 : Int32) = nI (s + 1) from nI_add s 1, bnd_e]
    exact e4
theorem m_at127 (hS : SI F k) {t : Nat} (ht : t < 6) : ∀ (c u m : Nat) (h : Int64) (M : Mem), u + c = k → c < m → HM M F n Sv l B h → Dg (f_X7_addTownOf_127 m (nI t) (nI u) M) M F n Sv l B (fo3 (drumF F t) (tuneF F t) (plF F t).2.2.2.1 24 0 (fo (fun u => F (366 + 6 * t + u)) c u h)) := by
  have hk := hS.1
  intro c
  induction c with
  | zero =>
    intro u m h M hu hm hH
    obtain ⟨m, rfl, -⟩ := suc hm
    obtain rfl : u = k := by omega
    have hmm := (hH.1.1.1 423 (by omega)).trans hS.2.1
    obtain ⟨M1, e1, p1, a1⟩ := m_try hH.1.1.1 hS ht
    obtain ⟨M2, e2, h2, o2⟩ := m_at167 (F := F) ht (P := plF F t) 24 0 FU h M1 rfl (by decide) (hH.q a1) p1.2.2.2.1
    refine ⟨M2, ?_, h2, (mQ_o a1).tr o2⟩
    rw [f_X7_addTownOf_127, show inb (423 : Int32) 3424 = true from rfl, chk_tt, show (423 : Int32).toNatClampNeg = 423 from rfl, hmm, if_pos (Int32.le_refl _), e1, bn_s]
    exact e2
  | succ c ih =>
    intro u m h M hu hm hH
    obtain ⟨m, rfl, -⟩ := suc hm
    have hmm := (hH.1.1.1 423 (by omega)).trans hS.2.1
    have ix : (nI 366 + nI 6 * nI t) + nI u = nI (366 + 6 * t + u) := by rw [pk_mul, nI_add, nI_add]
    obtain ⟨M1, e1, h1, q1⟩ := m_add (M := M) h (F (366 + 6 * t + u)) hH
    obtain ⟨M2, e2, h2, o2⟩ := ih (u + 1) m _ M1 (by omega) (by omega) h1
    refine ⟨M2, ?_, h2, (eq_o q1).tr o2⟩
    rw [f_X7_addTownOf_127, show inb (423 : Int32) 3424 = true from rfl, chk_tt, show (423 : Int32).toNatClampNeg = 423 from rfl, hmm, if_neg (by rw [nI_leI (by omega) (by omega)]; omega), m_owes, bn_s, ix, inb_n (by omega) (by omega), chk_tt, nI_clamp (by omega), hH.1.1.1 _ (by omega), e1, bn_s, show nI u + (1 : Int32) = nI (u + 1) from nI_add u 1, bnd_e]
    exact e2
theorem m_at93 (hS : SI F k) {t : Nat} (ht : t < 6) : ∀ (c u m : Nat) (h : Int64) (M : Mem), u + c = 12 → c < m → HM M F n Sv l B h → Dg (f_X7_addTownOf_93 m (nI t) (nI u) M) M F n Sv l B (fo3 (drumF F t) (tuneF F t) (plF F t).2.2.2.1 24 0 (fo (fun u => F (366 + 6 * t + u)) k 0 (fo (wearF F t) c u h))) := by
  have hk := hS.1
  intro c
  induction c with
  | zero =>
    intro u m h M hu hm hH
    obtain ⟨m, rfl, -⟩ := suc hm
    obtain rfl : u = 12 := by omega
    obtain ⟨M2, e2, h2, o2⟩ := m_at127 hS ht k 0 FU h M (Nat.zero_add k) (by show k < 100000; omega) hH
    refine ⟨M2, ?_, h2, o2⟩
    rw [f_X7_addTownOf_93, if_pos (show (12 : Int32) ≤ nI 12 from Int32.le_refl _)]
    exact e2
  | succ c ih =>
    intro u m h M hu hm hH
    obtain ⟨m, rfl, -⟩ := suc hm
    have ix : ((294 : Int32) + ((12 : Int32) * nI t)) + nI u = nI (294 + 12 * t + u) := (show (nI 294 + nI 12 * nI t) + nI u = _ by rw [pk_mul, nI_add, nI_add])
    obtain ⟨M1, e1, h1, q1⟩ := m_add (M := M) h (wearF F t u) hH
    obtain ⟨M2, e2, h2, o2⟩ := ih (u + 1) m _ M1 (by omega) (by omega) h1
    have d1 : M.1 25 (294 + 12 * t + u) = wearF F t u := hH.1.1.1 _ (by omega)
    refine ⟨M2, ?_, h2, (eq_o q1).tr o2⟩
    rw [f_X7_addTownOf_93, if_neg (show ¬ (12 : Int32) ≤ nI u by rw [show (12 : Int32) = nI 12 from rfl, nI_leI (by omega) (by omega)]; omega), ix, inb_n (by omega) (by omega), chk_tt, nI_clamp (by omega), d1, e1, bn_s, show nI u + (1 : Int32) = nI (u + 1) from nI_add u 1, bnd_e]
    exact e2
theorem m_at27 (hS : SI F k) {t : Nat} (ht : t < 6) : ∀ (c w m : Nat) (h : Int64) (M : Mem), w + c = 5 → c < m → HM M F n Sv l B h → Dg (f_X7_addTownOf_27 m (nI t) (nI w) M) M F n Sv l B (tnB F k t (mx (mx (mx (mx (fo (ifF F t) c w h) (lastsF F t)) (turnF F t 0)) (turnF F t 1)) (drumB F k t))) := by
  intro c
  induction c with
  | zero =>
    intro w m h M hw hm hH
    obtain ⟨m, rfl, -⟩ := suc hm
    obtain rfl : w = 5 := by omega
    obtain ⟨M1, e1, a1⟩ := m_lasts hH.1.1.1 hS ht
    have h1 := hH.q a1
    obtain ⟨M2, e2, h2, q2⟩ := m_add h (lastsF F t) h1
    obtain ⟨M3, e3, h3, q3⟩ := m_add _ (turnF F t 0) h2
    obtain ⟨M4, e4, h4, q4⟩ := m_add _ (turnF F t 1) h3
    obtain ⟨M5, e5, h5, q5⟩ := m_add _ (drumB F k t) h4
    obtain ⟨M6, e6, h6, o6⟩ := m_at93 hS ht 12 0 FU _ M5 rfl (by decide) h5
    refine ⟨M6, ?_, h6, (((((mQ_o a1).tr (eq_o q2)).tr (eq_o q3)).tr (eq_o q4)).tr (eq_o q5)).tr o6⟩
    rw [f_X7_addTownOf_27, if_pos (show (5 : Int32) ≤ nI 5 from Int32.le_refl _), e1, bn_s, e2, bn_s, show f_X7_bestTurnOf (nI t) 0 M2 = some (turnF F t 0, M2) from m_turnOf (w := 0) h2.1.1.1 ht (by omega), bn_s, e3, bn_s, show f_X7_bestTurnOf (nI t) 1 M3 = some (turnF F t 1, M3) from m_turnOf (w := 1) h3.1.1.1 ht (by omega), bn_s, e4, bn_s, m_drumOf h4.1.1.1 hS ht, bn_s, e5, bn_s]
    exact e6
  | succ c ih =>
    intro w m h M hw hm hH
    obtain ⟨m, rfl, -⟩ := suc hm
    obtain ⟨M1, e1, a1⟩ := m_ifP (w := w) hH.1.1.1 hS ht (by omega)
    obtain ⟨M2, e2, h2, q2⟩ := m_add h (ifF F t w) (hH.q a1)
    obtain ⟨M3, e3, h3, o3⟩ := ih (w + 1) m _ M2 (by omega) (by omega) h2
    refine ⟨M3, ?_, h3, ((mQ_o a1).tr (eq_o q2)).tr o3⟩
    rw [f_X7_addTownOf_27, if_neg (show ¬ (5 : Int32) ≤ nI w by rw [show (5 : Int32) = nI 5 from rfl, nI_leI (by omega) (by omega)]; omega), e1, bn_s, e2, bn_s, show nI w + (1 : Int32) = nI (w + 1) from nI_add w 1, bnd_e]
    exact e3
theorem m_at2 (hS : SI F k) {t : Nat} (ht : t < 6) : ∀ (c w m : Nat) (h : Int64) (M : Mem), w + c = 12 → c < m → HM M F n Sv l B h → Dg (f_X7_addTownOf_2 m (nI t) (nI w) M) M F n Sv l B (tnB F k t (mx (mx (mx (mx (fo (ifF F t) 5 0 (fo (townF F t) c w h)) (lastsF F t)) (turnF F t 0)) (turnF F t 1)) (drumB F k t))) := by
  intro c
  induction c with
  | zero =>
    intro w m h M hw hm hH
    obtain ⟨m, rfl, -⟩ := suc hm
    obtain rfl : w = 12 := by omega
    rw [f_X7_addTownOf_2, if_pos (show (12 : Int32) ≤ nI 12 from Int32.le_refl _)]
    exact m_at27 hS ht 5 0 FU h M rfl (by decide) hH
  | succ c ih =>
    intro w m h M hw hm hH
    obtain ⟨m, rfl, -⟩ := suc hm
    obtain ⟨M2, e2, h2, q2⟩ := m_add h (townF F t w) hH
    obtain ⟨M3, e3, h3, o3⟩ := ih (w + 1) m _ M2 (by omega) (by omega) h2
    refine ⟨M3, ?_, h3, (eq_o q2).tr o3⟩
    rw [f_X7_addTownOf_2, if_neg (show ¬ (12 : Int32) ≤ nI w by rw [show (12 : Int32) = nI 12 from rfl, nI_leI (by omega) (by omega)]; omega), m_townOf hH.1.1.1 ht (by omega), bn_s, e2, bn_s, show nI w + (1 : Int32) = nI (w + 1) from nI_add w 1, bnd_e]
    exact e3
theorem m_addTown (hS : SI F k) {t : Nat} (ht : t < 6) {h : Int64} {M : Mem} (hH : HM M F n Sv l B h) : Dg (f_X7_addTownOf (nI t) M) M F n Sv l B (tnB F k t (tnA F k t h)) := m_at2 hS ht 12 0 FU h M rfl (by decide) hH
end DM
