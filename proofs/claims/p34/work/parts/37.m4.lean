/-! ===== the reference: what would be played; best turns and drums ===== -/
def drumF (F : Nat → Int32) (t : Nat) : Nat → Int32 := fun s => F (6 + 24 * t + s)
def tuneF (F : Nat → Int32) (t : Nat) : Nat → Int32 := fun s => F (150 + 24 * t + s)
def wearF (F : Nat → Int32) (t : Nat) : Nat → Int32 := fun k => F (294 + 12 * t + k)
/-- what playing town t's drum does -/
def plF (F : Nat → Int32) (t : Nat) : PS := playP (tuneF F t) (F 421) (F 420) (drumF F t) (wearF F t)
def dullW (W : Nat → Int32) (du : Int32) : Int32 := sumI (fun k => if W k < du then nI 0 else nI 1) 12
def ifF (F : Nat → Int32) (t w : Nat) : Int32 := match w with
  | 0 => (plF F t).2.2.2.2 0
  | 1 => (plF F t).2.2.2.2 2
  | 2 => (plF F t).2.2.2.2 3
  | 3 => (plF F t).2.2.2.2 1
  | _ => dullW (plF F t).2.1 (F 421)
/-- the reference's scratch: what its questions leave as it was -/
def mQ : Nat → Nat → Prop := fun c i => ¬ (27 ≤ c ∧ c < 34) ∧ ¬ (c = 24 ∧ 7 ≤ i) ∧ ¬ (c = 25 ∧ 2996 ≤ i)
theorem Mo.ag {M M' : Mem} {F : Nat → Int32} (h : Mo M F) (a : ag mQ M M') : Mo M' F := fun i hi => by
  rw [a.2 25 i (by unfold mQ; omega)]
  exact h i hi
/-- how often town t's drum can be played until a right pin falls out: c more playings are looked at -/
def lastsL (T : Nat → Int32) (du re : Int32) : Nat → Nat → (Nat → Int32) → (Nat → Int32) → Int32
  | 0, _, _, _ => -nI 1
  | c + 1, y, D, W => if (playP T du re D W).2.2.2.2 4 ≤ nI 0 then lastsL T du re c (y + 1) (playP T du re D W).1 (playP T du re D W).2.1 else nI y
def lastsF (F : Nat → Int32) (t : Nat) : Int32 := lastsL (tuneF F t) (F 421) (F 420) 200 1 (drumF F t) (wearF F t)
def stepF (F : Nat → Int32) (t s w : Nat) : Int32 := match w with
  | 0 => F (6 + 24 * t + s)
  | 1 => F (150 + 24 * t + s)
  | _ => (plF F t).2.2.2.1 s
/-- the best turn of those that c more are looked at, from y on -/
def bestT (F : Nat → Int32) (t : Nat) : Nat → Nat → Nat → Nat
  | 0, _, b => b
  | c + 1, y, b => bestT F t c (y + 1) (if rightF F t t y ≤ rightF F t t b then b else y)
theorem bestT_lt {F : Nat → Int32} {t : Nat} : ∀ (c y b : Nat), y + c = 24 → b < 24 → bestT F t c y b < 24 := by
  intro c
  induction c with
  | zero => intro y b _ h; exact h
  | succ c ih =>
    intro y b h hb
    refine ih (y + 1) _ (by omega) ?_
    split <;> omega
def turnF (F : Nat → Int32) (t w : Nat) : Int32 := match w with
  | 0 => nI (bestT F t 23 1 0)
  | _ => rightF F t t (bestT F t 23 1 0)
/-- the best drum of those of c more towns, from u on; 9: none yet -/
def bestD (F : Nat → Int32) (t : Nat) : Nat → Nat → Nat → Nat
  | 0, _, b => b
  | c + 1, u, b => bestD F t c (u + 1) (if u = t then b else if b = 9 then u else if rightF F u t 0 ≤ rightF F b t 0 then b else u)
def drumB (F : Nat → Int32) (k t : Nat) : Int32 := if bestD F t k 0 9 = 9 then -nI 1 else nI (bestD F t k 0 9)
theorem nI_m1 {a : Nat} (h : a < 2 ^ 31) : (nI a = -nI 1) = False := eq_false (fun q => by
  have := congrArg Int32.toInt q
  rw [nI_toInt h] at this
  have h1 : (-nI 1).toInt = -1 := by decide
  omega)
