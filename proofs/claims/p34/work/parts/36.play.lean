/-! ===== playing, as numbers; the reference plays so ===== -/
theorem mwn {M : Mem} {k i c j : Nat} {v : Int32} (h : ¬ (c = k ∧ j = i)) : (mw M k i v).1 c j = M.1 c j := if_neg h
/-- drum, wear, latest sounds (99: never), what is heard, five counts: sounds, right sounds, stays, falls, right falls -/
abbrev PS : Type := (Nat → Int32) × (Nat → Int32) × (Nat → Nat) × (Nat → Int32) × (Nat → Int32)
def goP (T : Nat → Int32) (du re : Int32) (s k : Nat) (P : PS) : PS :=
  if P.2.1 k < du then
    (if P.2.2.1 k = 99 ∨ re ≤ nI s - nI (P.2.2.1 k) then
      (P.1, va_up P.2.1 k (P.2.1 k + nI 1), va_up P.2.2.1 k s, va_up P.2.2.2.1 s (P.2.2.2.1 s ||| bit k), va_up (va_up P.2.2.2.2 0 (P.2.2.2.2 0 + nI 1)) 1 (P.2.2.2.2 1 + bitK (T s) k))
    else (P.1, P.2.1, P.2.2.1, P.2.2.2.1, va_up P.2.2.2.2 2 (P.2.2.2.2 2 + nI 1)))
  else (va_up P.1 s (P.1 s &&& nbit k), P.2.1, P.2.2.1, P.2.2.2.1, va_up (va_up P.2.2.2.2 3 (P.2.2.2.2 3 + nI 1)) 4 (P.2.2.2.2 4 + bitK (T s) k))
/-- the teeth from k on, of the pins p, at step s -/
def teethP (T : Nat → Int32) (du re : Int32) (p : Int32) (s : Nat) : Nat → Nat → PS → PS
  | 0, _, P => P
  | c + 1, k, P => teethP T du re p s c (k + 1) (if bitK p k = nI 0 then P else goP T du re s k P)
def stepsP (T : Nat → Int32) (du re : Int32) : Nat → Nat → PS → PS
  | 0, _, P => P
  | c + 1, s, P => stepsP T du re c (s + 1) (teethP T du re (P.1 s) s 12 0 P)
def startP (D W : Nat → Int32) : PS := (D, W, fun _ => 99, fun _ => nI 0, fun _ => nI 0)
def playP (T : Nat → Int32) (du re : Int32) (D W : Nat → Int32) : PS := stepsP T du re 24 0 (startP D W)
def lmm (l : Nat) : Int32 := if l = 99 then -100 else nI l
def Pm (M : Mem) (b t : Nat) (T : Nat → Int32) (du re : Int32) (hs : Nat) (P : PS) : Prop :=
  (∀ s, s < 24 → M.1 25 (b + 6 + 24 * t + s) = P.1 s) ∧ (∀ k, k < 12 → M.1 25 (b + 294 + 12 * t + k) = P.2.1 k) ∧ (∀ k, k < 12 → M.1 27 k = lmm (P.2.2.1 k)) ∧ (∀ s, s < hs → M.1 28 s = P.2.2.2.1 s) ∧
  (M.1 24 7 = P.2.2.2.2 0 ∧ M.1 24 8 = P.2.2.2.2 1 ∧ M.1 24 9 = P.2.2.2.2 2 ∧ M.1 24 10 = P.2.2.2.2 3 ∧ M.1 24 11 = P.2.2.2.2 4) ∧ (∀ s, s < 24 → M.1 25 (b + 150 + 24 * t + s) = T s) ∧ M.1 25 (b + 421) = du ∧ M.1 25 (b + 420) = re ∧ (∀ k, k < 12 → P.2.2.1 k = 99 ∨ P.2.2.1 k < 24)
def QP (b t : Nat) : Nat → Nat → Prop := fun c i => ¬ (c = 24 ∧ 7 ≤ i ∧ i ≤ 11) ∧ c ≠ 27 ∧ c ≠ 28 ∧ ¬ (c = 25 ∧ (b + 6 + 24 * t ≤ i ∧ i < b + 6 + 24 * t + 24 ∨ b + 294 + 12 * t ≤ i ∧ i < b + 294 + 12 * t + 12))
theorem sub_never {s : Nat} (hs : s < 24) {r : Nat} (hr : r ≤ 24) : nI r ≤ nI s - (-100) := by
  rw [show nI s - (-100) = nI (s + 100) by rw [← nI_add]; exact Int32.sub_neg, le_t (by omega) (by omega)]
  trivial
theorem goP_H {T : Nat → Int32} {du re : Int32} {s k : Nat} {P : PS} {i : Nat} (h : i ≠ s) : (goP T du re s k P).2.2.2.1 i = P.2.2.2.1 i := by
  unfold goP
  split
  · split
    · exact va_up_ne _ _ h
    · rfl
  · rfl
theorem teeth_H {T : Nat → Int32} {du re p : Int32} {s i : Nat} (h : i ≠ s) : ∀ (c k : Nat) (P : PS), (teethP T du re p s c k P).2.2.2.1 i = P.2.2.2.1 i := by
  intro c
  induction c with
  | zero => intros; rfl
  | succ c ih =>
    intro k P
    show (teethP T du re p s c (k + 1) _).2.2.2.1 i = _
    rw [ih]
    split
    · rfl
    · exact goP_H h
