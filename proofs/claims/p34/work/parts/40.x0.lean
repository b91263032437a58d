/-! ===== the class: where a land lies ===== -/
def lc (i : Nat) : Nat := if i < 6 then 10 + 4 * i else if i < 150 then 11 + 4 * ((i - 6) / 24) else if i < 294 then 12 + 4 * ((i - 150) / 24) else if i < 366 then 13 + 4 * ((i - 294) / 12) else if i < 402 then 4 + (i - 366) / 6 else if i < 408 then 10 + 4 * (i - 402) else if i < 414 then 10 + 4 * (i - 408) else if i < 420 then 10 + 4 * (i - 414) else if i < 423 then 2 else 0
def lsl (i : Nat) : Nat := if i < 6 then 0 else if i < 150 then (i - 6) % 24 else if i < 294 then (i - 150) % 24 else if i < 366 then (i - 294) % 12 else if i < 402 then (i - 366) % 6 else if i < 408 then 4 else if i < 414 then 5 else if i < 420 then 6 else if i < 423 then i - 420 else [1, 4, 5, 6, 7].getD (i - 423) 0
/-- back from place to number -/
def liv (c s : Nat) : Nat := if c = 0 then (if s = 1 then 423 else 420 + s) else if c = 2 then 420 + s else if c < 10 then 366 + 6 * (c - 4) + s else if (c - 10) % 4 = 0 then (if s = 0 then (c - 10) / 4 else 378 + 6 * s + (c - 10) / 4) else if (c - 10) % 4 = 1 then 6 + 24 * ((c - 10) / 4) + s else if (c - 10) % 4 = 2 then 150 + 24 * ((c - 10) / 4) + s else 294 + 12 * ((c - 10) / 4) + s
theorem liv_ok : ∀ i, i < 428 → liv (lc i) (lsl i) = i ∧ lc i < 34 := by decide +kernel
theorem loc_inj {i j : Nat} (hi : i < 428) (hj : j < 428) (h1 : lc i = lc j) (h2 : lsl i = lsl j) : i = j := by
  rw [← (liv_ok i hi).1, ← (liv_ok j hj).1, h1, h2]
/-- the class's memory holds at L the land F -/
def LR (M : Mem) (L : Nat) (F : Nat → Int32) : Prop := ∀ i, i < 428 → M.1 (L + lc i) (lsl i) = F i
def isL (L : Nat) : Prop := ∃ n, n < 7 ∧ L = 34 * (n + 1)
theorem isL34 : isL 34 := ⟨0, by decide, rfl⟩
def tc (L t : Nat) : Nat := L + 10 + 4 * t
def rc (L f : Nat) : Nat := L + 4 + f
theorem tw_c {L t : Nat} (h : t < 2 ^ 31) : tw (L + 1) (nI t) = tc L t := by
  unfold tw tc; rw [nI_clamp h]
theorem tw_35 {t : Nat} (h : t < 2 ^ 31) : tw 35 (nI t) = tc 34 t := tw_c (L := 34) h
theorem rw_c {L t : Nat} (h : t < 2 ^ 31) : rw' (L + 3) (nI t) = rc L t := by
  unfold rw' rc; rw [nI_clamp h]
theorem rw_37 {t : Nat} (h : t < 2 ^ 31) : rw' 37 (nI t) = rc 34 t := rw_c (L := 34) h
theorem kd_all : ∀ n, n < 7 → kd (34 * (n + 1)) = 1 ∧ ∀ t, t < 6 → kd (34 * (n + 1) + 10 + 4 * t) = 2 ∧ kd (34 * (n + 1) + 4 + t) = 8 ∧ al (34 * (n + 1) + 4 + t) = 6 := by decide +kernel
theorem kL {L : Nat} (h : isL L) : kd L = 1 := by
  obtain ⟨n, hn, rfl⟩ := h
  exact (kd_all n hn).1
theorem kT {L t : Nat} (h : isL L) (ht : t < 6) : kd (tc L t) = 2 := by
  obtain ⟨n, hn, rfl⟩ := h
  exact ((kd_all n hn).2 t ht).1
theorem kR {L t : Nat} (h : isL L) (ht : t < 6) : kd (rc L t) = 8 := by
  obtain ⟨n, hn, rfl⟩ := h
  exact ((kd_all n hn).2 t ht).2.1
theorem alR {L t : Nat} (h : isL L) (ht : t < 6) : al (rc L t) = 6 := by
  obtain ⟨n, hn, rfl⟩ := h
  exact ((kd_all n hn).2 t ht).2.2
theorem kb_t {k c : Nat} (h : kd k = c) : kb k c = true := decide_eq_true h
theorem kbL {L : Nat} (h : isL L) : kb L 1 = true := kb_t (kL h)
theorem kbT {L t : Nat} (h : isL L) (ht : t < 6) : kb (tc L t) 2 = true := kb_t (kT h ht)
theorem kbD {L t : Nat} (h : isL L) (ht : t < 6) : kb (tc L t + 1) 8 = true := kb_t (kTd (kT h ht))
theorem alD {L t : Nat} (h : isL L) (ht : t < 6) : al (tc L t + 1) = 24 := aTd (kT h ht)
theorem kbU {L t : Nat} (h : isL L) (ht : t < 6) : kb (tc L t + 2) 8 = true := kb_t (kTt (kT h ht))
theorem alU {L t : Nat} (h : isL L) (ht : t < 6) : al (tc L t + 2) = 24 := aTt (kT h ht)
theorem kbW {L t : Nat} (h : isL L) (ht : t < 6) : kb (tc L t + 3) 8 = true := kb_t (kTw (kT h ht))
theorem alW {L t : Nat} (h : isL L) (ht : t < 6) : al (tc L t + 3) = 12 := aTw (kT h ht)
theorem kbS {L : Nat} (h : isL L) : kb (L + 2) 8 = true := kb_t (kLse (kL h))
theorem alS {L : Nat} (h : isL L) : al (L + 2) = 3 := aLse (kL h)
theorem kbR {L t : Nat} (h : isL L) (ht : t < 6) : kb (rc L t) 8 = true := kb_t (kR h ht)
-- reading
theorem LR.rd {M : Mem} {L : Nat} {F : Nat → Int32} (h : LR M L F) {c s : Nat} (i : Nat) (hi : i < 428) (hc : L + lc i = c) (hs : lsl i = s) : M.1 c s = F i := by
  rw [← hc, ← hs]; exact h i hi
theorem lc_dr : ∀ t, t < 6 → ∀ s, s < 24 → (lc (6 + 24 * t + s) = 11 + 4 * t ∧ lsl (6 + 24 * t + s) = s) ∧ lc (150 + 24 * t + s) = 12 + 4 * t ∧ lsl (150 + 24 * t + s) = s := by decide +kernel
theorem lc_we : ∀ t, t < 6 → ∀ s, s < 12 → lc (294 + 12 * t + s) = 13 + 4 * t ∧ lsl (294 + 12 * t + s) = s := by decide +kernel
theorem lc_de : ∀ t, t < 6 → ∀ s, s < 6 → lc (366 + 6 * t + s) = 4 + t ∧ lsl (366 + 6 * t + s) = s := by decide +kernel
theorem lc_to : ∀ t, t < 6 → (lc t = 10 + 4 * t ∧ lsl t = 0) ∧ (lc (402 + t) = 10 + 4 * t ∧ lsl (402 + t) = 4) ∧ (lc (408 + t) = 10 + 4 * t ∧ lsl (408 + t) = 5) ∧ lc (414 + t) = 10 + 4 * t ∧ lsl (414 + t) = 6 := by decide +kernel
section RD
variable {M : Mem} {L : Nat} {F : Nat → Int32}
theorem LR.drum (h : LR M L F) {t s : Nat} (ht : t < 6) (hs : s < 24) : M.1 (tc L t + 1) s = F (6 + 24 * t + s) := h.rd _ (by omega) (by rw [(lc_dr t ht s hs).1.1]; unfold tc; omega) (lc_dr t ht s hs).1.2
theorem LR.tune (h : LR M L F) {t s : Nat} (ht : t < 6) (hs : s < 24) : M.1 (tc L t + 2) s = F (150 + 24 * t + s) := h.rd _ (by omega) (by rw [(lc_dr t ht s hs).2.1]; unfold tc; omega) (lc_dr t ht s hs).2.2
theorem LR.wear (h : LR M L F) {t s : Nat} (ht : t < 6) (hs : s < 12) : M.1 (tc L t + 3) s = F (294 + 12 * t + s) := h.rd _ (by omega) (by rw [(lc_we t ht s hs).1]; unfold tc; omega) (lc_we t ht s hs).2
theorem LR.debt (h : LR M L F) {f t : Nat} (hf : f < 6) (ht : t < 6) : M.1 (rc L f) t = F (366 + 6 * f + t) := h.rd _ (by omega) (by rw [(lc_de f hf t ht).1]; unfold rc; omega) (lc_de f hf t ht).2
theorem LR.box (h : LR M L F) {t : Nat} (ht : t < 6) : M.1 (tc L t) 0 = F t := h.rd _ (by omega) (by rw [(lc_to t ht).1.1]; unfold tc; omega) (lc_to t ht).1.2
theorem LR.pld (h : LR M L F) {t : Nat} (ht : t < 6) : M.1 (tc L t) 4 = F (402 + t) := h.rd _ (by omega) (by rw [(lc_to t ht).2.1.1]; unfold tc; omega) (lc_to t ht).2.1.2
theorem LR.snd (h : LR M L F) {t : Nat} (ht : t < 6) : M.1 (tc L t) 5 = F (408 + t) := h.rd _ (by omega) (by rw [(lc_to t ht).2.2.1.1]; unfold tc; omega) (lc_to t ht).2.2.1.2
theorem LR.fell (h : LR M L F) {t : Nat} (ht : t < 6) : M.1 (tc L t) 6 = F (414 + t) := h.rd _ (by omega) (by rw [(lc_to t ht).2.2.2.1]; unfold tc; omega) (lc_to t ht).2.2.2.2
theorem LR.many (h : LR M L F) : M.1 L 1 = F 423 := h.rd 423 (by omega) rfl rfl
theorem LR.lent (h : LR M L F) : M.1 L 4 = F 424 := h.rd 424 (by omega) rfl rfl
theorem LR.repd (h : LR M L F) : M.1 L 5 = F 425 := h.rd 425 (by omega) rfl rfl
theorem LR.rings (h : LR M L F) : M.1 L 6 = F 426 := h.rd 426 (by omega) rfl rfl
theorem LR.less (h : LR M L F) : M.1 L 7 = F 427 := h.rd 427 (by omega) rfl rfl
theorem LR.set0 (h : LR M L F) : M.1 (L + 2) 0 = F 420 := h.rd 420 (by omega) rfl rfl
theorem LR.set1 (h : LR M L F) : M.1 (L + 2) 1 = F 421 := h.rd 421 (by omega) rfl rfl
theorem LR.set2 (h : LR M L F) : M.1 (L + 2) 2 = F 422 := h.rd 422 (by omega) rfl rfl
end RD
/-- a write at the place of number i -/
theorem LR.w {M : Mem} {L : Nat} {F : Nat → Int32} (h : LR M L F) {c s : Nat} (v : Int32) (i : Nat) (hi : i < 428) (hc : L + lc i = c) (hs : lsl i = s) : LR (mw M c s v) L (va_up F i v) := by
  intro j hj
  by_cases q : j = i
  · subst q
    rw [hc, hs, mw_eq, va_up_self]
  · rw [mwn, va_up_ne _ _ q]
    · exact h j hj
    · intro z
      exact q (loc_inj hj hi (by omega) (z.2.trans hs.symm))
/-- a write elsewhere -/
theorem LR.o {M : Mem} {L : Nat} {F : Nat → Int32} (h : LR M L F) {c s : Nat} (v : Int32) (hc : c < L ∨ L + 34 ≤ c) : LR (mw M c s v) L F := by
  intro j hj
  have := (liv_ok j hj).2
  rw [mwn (by omega)]
  exact h j hj
theorem LR.ag {P : Nat → Nat → Prop} {M M' : Mem} {L : Nat} {F : Nat → Int32} (h : LR M L F) (a : ag P M M') (hP : ∀ c i, L ≤ c → c < L + 34 → P c i) : LR M' L F := by
  intro j hj
  have := (liv_ok j hj).2
  rw [a.2 _ _ (hP _ _ (by omega) (by omega))]
  exact h j hj
theorem LR.cg {M : Mem} {L : Nat} {F F' : Nat → Int32} (h : LR M L F) (e : ∀ i, i < 428 → F i = F' i) : LR M L F' := fun i hi => (h i hi).trans (e i hi)
