/-! ===== the first memory; where its cells lie; its world out of the constructor's block ===== -/
def FF : Nat → Int32 := upd (upd (upd (fun _ => 0) 420 (nI 2)) 421 (nI 10)) 422 (nI 200)
def M0 : Mem := (fun c => if c = 1 then (fun i => nI (i + 2)) else if c % 34 = 2 ∧ 34 < c then fvT else fun _ => 0, fun _ => 0)
def pos (k : Nat) : Nat := if k = 0 then 0 else if k = 1 then 35 else if k < 34 then 238 + k else if k < 68 then k - 33 else k - 32
def posI (j : Nat) : Nat := if j = 0 then 0 else if j < 35 then j + 33 else if j = 35 then 1 else if j < 240 then j + 32 else j - 238
theorem pos_I : ∀ k, k < 272 → posI (pos k) = k := by decide +kernel
abbrev GE (a : Nat) (D : va_G) (ca : Nat → ClassId) : GM := (a, fun k => a + pos k, D, ca)
theorem GE_ok {a : Nat} {D : va_G} {ca : Nat → ClassId} : GG (GE a D ca) := ⟨fun k _ => Nat.le_add_right _ _, fun i j hi hj h => by
  have h1 : pos i = pos j := Nat.add_left_cancel h
  rw [← pos_I i hi, ← pos_I j hj, h1]⟩
theorem arrV_ext {c : ClassId} {n : Nat} {f g : Nat → Value} (h : ∀ i, i < n → f i = g i) : arrV c n f = arrV c n g := by
  unfold arrV
  congr 1
  apply Array.ext
  · simp
  · intro i h1 h2
    simp at h1 ⊢
    exact h i (by simpa using h1)
theorem at_q {D : va_G} {cl : List vw_C} {q n : Nat} {c : ClassId} {f g : Nat → Option Nat} {H : Heap} (h : va_at D cl (q, .inl (c, n, .inr (.inr (.inr (.inr f))))) H) (e : ∀ i, i < n → f i = g i) : va_at D cl (q, .inl (c, n, .inr (.inr (.inr (.inr g))))) H := by
  have h' : H[q]? = some (arrV c n (fun j => va_rf (f j))) := h
  show H[q]? = some (arrV c n (fun j => va_rf (g j)))
  rw [h', arrV_ext (fun i hi => by rw [e i hi])]
def eAll (G : GM) (a : Nat) : Nat → va_E := fun j => eX6 G a j
set_option maxRecDepth 100000 in
set_option maxHeartbeats 8000000 in
theorem fa_0 {a : Nat} {D : va_G} {ca : Nat → ClassId} {H : Heap} (h : Bs (GE a D ca) a 261 (eAll (GE a D ca) a) H) : ∀ r, r < 23 → va_at D vwCl (gA (GE a D ca) (0 + r), ce (GE a D ca) M0 (0 + r)) H := fun r hr => match r, hr with
  | 0, _ => h.2 0 (Nat.le_of_ble_eq_true rfl)
  | 1, _ => at_q (f := _) (h.2 35 (Nat.le_of_ble_eq_true rfl)) (fun i hi => match i, hi with | 0, _ => rfl | 1, _ => rfl | 2, _ => rfl | 3, _ => rfl | 4, _ => rfl | 5, _ => rfl | i + 6, h => absurd h (Nat.not_lt.mpr (Nat.le_add_left _ _)))
  | 2, _ => h.2 240 (Nat.le_of_ble_eq_true rfl)
  | 3, _ => h.2 241 (Nat.le_of_ble_eq_true rfl)
  | 4, _ => h.2 242 (Nat.le_of_ble_eq_true rfl)
  | 5, _ => h.2 243 (Nat.le_of_ble_eq_true rfl)
  | 6, _ => h.2 244 (Nat.le_of_ble_eq_true rfl)
  | 7, _ => h.2 245 (Nat.le_of_ble_eq_true rfl)
  | 8, _ => h.2 246 (Nat.le_of_ble_eq_true rfl)
  | 9, _ => h.2 247 (Nat.le_of_ble_eq_true rfl)
  | 10, _ => h.2 248 (Nat.le_of_ble_eq_true rfl)
  | 11, _ => h.2 249 (Nat.le_of_ble_eq_true rfl)
  | 12, _ => h.2 250 (Nat.le_of_ble_eq_true rfl)
  | 13, _ => at_q (f := _) (h.2 251 (Nat.le_of_ble_eq_true rfl)) (fun i hi => match i, hi with | 0, _ => rfl | 1, _ => rfl | 2, _ => rfl | 3, _ => rfl | 4, _ => rfl | 5, _ => rfl | i + 6, h => absurd h (Nat.not_lt.mpr (Nat.le_add_left _ _)))
  | 14, _ => h.2 252 (Nat.le_of_ble_eq_true rfl)
  | 15, _ => h.2 253 (Nat.le_of_ble_eq_true rfl)
  | 16, _ => h.2 254 (Nat.le_of_ble_eq_true rfl)
  | 17, _ => h.2 255 (Nat.le_of_ble_eq_true rfl)
  | 18, _ => h.2 256 (Nat.le_of_ble_eq_true rfl)
  | 19, _ => h.2 257 (Nat.le_of_ble_eq_true rfl)
  | 20, _ => h.2 258 (Nat.le_of_ble_eq_true rfl)
  | 21, _ => h.2 259 (Nat.le_of_ble_eq_true rfl)
  | 22, _ => h.2 260 (Nat.le_of_ble_eq_true rfl)
  | r + 23, h => absurd h (Nat.not_lt.mpr (Nat.le_add_left _ _))
set_option maxRecDepth 100000 in
set_option maxHeartbeats 8000000 in
theorem fa_34 {a : Nat} {D : va_G} {ca : Nat → ClassId} {H : Heap} (h : Bs (GE a D ca) a 261 (eAll (GE a D ca) a) H) : ∀ r, r < 34 → va_at D vwCl (gA (GE a D ca) (34 + r), ce (GE a D ca) M0 (34 + r)) H := fun r hr => match r, hr with
  | 0, _ => h.2 1 (Nat.le_of_ble_eq_true rfl)
  | 1, _ => at_q (f := _) (h.2 2 (Nat.le_of_ble_eq_true rfl)) (fun i hi => match i, hi with | 0, _ => rfl | 1, _ => rfl | 2, _ => rfl | 3, _ => rfl | 4, _ => rfl | 5, _ => rfl | i + 6, h => absurd h (Nat.not_lt.mpr (Nat.le_add_left _ _)))
  | 2, _ => h.2 3 (Nat.le_of_ble_eq_true rfl)
  | 3, _ => at_q (f := _) (h.2 4 (Nat.le_of_ble_eq_true rfl)) (fun i hi => match i, hi with | 0, _ => rfl | 1, _ => rfl | 2, _ => rfl | 3, _ => rfl | 4, _ => rfl | 5, _ => rfl | i + 6, h => absurd h (Nat.not_lt.mpr (Nat.le_add_left _ _)))
  | 4, _ => h.2 5 (Nat.le_of_ble_eq_true rfl)
  | 5, _ => h.2 6 (Nat.le_of_ble_eq_true rfl)
  | 6, _ => h.2 7 (Nat.le_of_ble_eq_true rfl)
  | 7, _ => h.2 8 (Nat.le_of_ble_eq_true rfl)
  | 8, _ => h.2 9 (Nat.le_of_ble_eq_true rfl)
  | 9, _ => h.2 10 (Nat.le_of_ble_eq_true rfl)
  | 10, _ => h.2 11 (Nat.le_of_ble_eq_true rfl)
  | 11, _ => h.2 12 (Nat.le_of_ble_eq_true rfl)
  | 12, _ => h.2 13 (Nat.le_of_ble_eq_true rfl)
  | 13, _ => h.2 14 (Nat.le_of_ble_eq_true rfl)
  | 14, _ => h.2 15 (Nat.le_of_ble_eq_true rfl)
  | 15, _ => h.2 16 (Nat.le_of_ble_eq_true rfl)
  | 16, _ => h.2 17 (Nat.le_of_ble_eq_true rfl)
  | 17, _ => h.2 18 (Nat.le_of_ble_eq_true rfl)
  | 18, _ => h.2 19 (Nat.le_of_ble_eq_true rfl)
  | 19, _ => h.2 20 (Nat.le_of_ble_eq_true rfl)
  | 20, _ => h.2 21 (Nat.le_of_ble_eq_true rfl)
  | 21, _ => h.2 22 (Nat.le_of_ble_eq_true rfl)
  | 22, _ => h.2 23 (Nat.le_of_ble_eq_true rfl)
  | 23, _ => h.2 24 (Nat.le_of_ble_eq_true rfl)
  | 24, _ => h.2 25 (Nat.le_of_ble_eq_true rfl)
  | 25, _ => h.2 26 (Nat.le_of_ble_eq_true rfl)
  | 26, _ => h.2 27 (Nat.le_of_ble_eq_true rfl)
  | 27, _ => h.2 28 (Nat.le_of_ble_eq_true rfl)
  | 28, _ => h.2 29 (Nat.le_of_ble_eq_true rfl)
  | 29, _ => h.2 30 (Nat.le_of_ble_eq_true rfl)
  | 30, _ => h.2 31 (Nat.le_of_ble_eq_true rfl)
  | 31, _ => h.2 32 (Nat.le_of_ble_eq_true rfl)
  | 32, _ => h.2 33 (Nat.le_of_ble_eq_true rfl)
  | 33, _ => h.2 34 (Nat.le_of_ble_eq_true rfl)
  | r + 34, h => absurd h (Nat.not_lt.mpr (Nat.le_add_left _ _))
set_option maxRecDepth 100000 in
set_option maxHeartbeats 8000000 in
theorem fa_68 {a : Nat} {D : va_G} {ca : Nat → ClassId} {H : Heap} (h : Bs (GE a D ca) a 261 (eAll (GE a D ca) a) H) : ∀ r, r < 34 → va_at D vwCl (gA (GE a D ca) (68 + r), ce (GE a D ca) M0 (68 + r)) H := fun r hr => match r, hr with
  | 0, _ => h.2 36 (Nat.le_of_ble_eq_true rfl)
  | 1, _ => at_q (f := _) (h.2 37 (Nat.le_of_ble_eq_true rfl)) (fun i hi => match i, hi with | 0, _ => rfl | 1, _ => rfl | 2, _ => rfl | 3, _ => rfl | 4, _ => rfl | 5, _ => rfl | i + 6, h => absurd h (Nat.not_lt.mpr (Nat.le_add_left _ _)))
  | 2, _ => h.2 38 (Nat.le_of_ble_eq_true rfl)
  | 3, _ => at_q (f := _) (h.2 39 (Nat.le_of_ble_eq_true rfl)) (fun i hi => match i, hi with | 0, _ => rfl | 1, _ => rfl | 2, _ => rfl | 3, _ => rfl | 4, _ => rfl | 5, _ => rfl | i + 6, h => absurd h (Nat.not_lt.mpr (Nat.le_add_left _ _)))
  | 4, _ => h.2 40 (Nat.le_of_ble_eq_true rfl)
  | 5, _ => h.2 41 (Nat.le_of_ble_eq_true rfl)
  | 6, _ => h.2 42 (Nat.le_of_ble_eq_true rfl)
  | 7, _ => h.2 43 (Nat.le_of_ble_eq_true rfl)
  | 8, _ => h.2 44 (Nat.le_of_ble_eq_true rfl)
  | 9, _ => h.2 45 (Nat.le_of_ble_eq_true rfl)
  | 10, _ => h.2 46 (Nat.le_of_ble_eq_true rfl)
  | 11, _ => h.2 47 (Nat.le_of_ble_eq_true rfl)
  | 12, _ => h.2 48 (Nat.le_of_ble_eq_true rfl)
  | 13, _ => h.2 49 (Nat.le_of_ble_eq_true rfl)
  | 14, _ => h.2 50 (Nat.le_of_ble_eq_true rfl)
  | 15, _ => h.2 51 (Nat.le_of_ble_eq_true rfl)
  | 16, _ => h.2 52 (Nat.le_of_ble_eq_true rfl)
  | 17, _ => h.2 53 (Nat.le_of_ble_eq_true rfl)
  | 18, _ => h.2 54 (Nat.le_of_ble_eq_true rfl)
  | 19, _ => h.2 55 (Nat.le_of_ble_eq_true rfl)
  | 20, _ => h.2 56 (Nat.le_of_ble_eq_true rfl)
  | 21, _ => h.2 57 (Nat.le_of_ble_eq_true rfl)
  | 22, _ => h.2 58 (Nat.le_of_ble_eq_true rfl)
  | 23, _ => h.2 59 (Nat.le_of_ble_eq_true rfl)
  | 24, _ => h.2 60 (Nat.le_of_ble_eq_true rfl)
  | 25, _ => h.2 61 (Nat.le_of_ble_eq_true rfl)
  | 26, _ => h.2 62 (Nat.le_of_ble_eq_true rfl)
  | 27, _ => h.2 63 (Nat.le_of_ble_eq_true rfl)
  | 28, _ => h.2 64 (Nat.le_of_ble_eq_true rfl)
  | 29, _ => h.2 65 (Nat.le_of_ble_eq_true rfl)
  | 30, _ => h.2 66 (Nat.le_of_ble_eq_true rfl)
  | 31, _ => h.2 67 (Nat.le_of_ble_eq_true rfl)
  | 32, _ => h.2 68 (Nat.le_of_ble_eq_true rfl)
  | 33, _ => h.2 69 (Nat.le_of_ble_eq_true rfl)
  | r + 34, h => absurd h (Nat.not_lt.mpr (Nat.le_add_left _ _))
set_option maxRecDepth 100000 in
set_option maxHeartbeats 8000000 in
theorem fa_102 {a : Nat} {D : va_G} {ca : Nat → ClassId} {H : Heap} (h : Bs (GE a D ca) a 261 (eAll (GE a D ca) a) H) : ∀ r, r < 34 → va_at D vwCl (gA (GE a D ca) (102 + r), ce (GE a D ca) M0 (102 + r)) H := fun r hr => match r, hr with
  | 0, _ => h.2 70 (Nat.le_of_ble_eq_true rfl)
  | 1, _ => at_q (f := _) (h.2 71 (Nat.le_of_ble_eq_true rfl)) (fun i hi => match i, hi with | 0, _ => rfl | 1, _ => rfl | 2, _ => rfl | 3, _ => rfl | 4, _ => rfl | 5, _ => rfl | i + 6, h => absurd h (Nat.not_lt.mpr (Nat.le_add_left _ _)))
  | 2, _ => h.2 72 (Nat.le_of_ble_eq_true rfl)
  | 3, _ => at_q (f := _) (h.2 73 (Nat.le_of_ble_eq_true rfl)) (fun i hi => match i, hi with | 0, _ => rfl | 1, _ => rfl | 2, _ => rfl | 3, _ => rfl | 4, _ => rfl | 5, _ => rfl | i + 6, h => absurd h (Nat.not_lt.mpr (Nat.le_add_left _ _)))
  | 4, _ => h.2 74 (Nat.le_of_ble_eq_true rfl)
  | 5, _ => h.2 75 (Nat.le_of_ble_eq_true rfl)
  | 6, _ => h.2 76 (Nat.le_of_ble_eq_true rfl)
  | 7, _ => h.2 77 (Nat.le_of_ble_eq_true rfl)
  | 8, _ => h.2 78 (Nat.le_of_ble_eq_true rfl)
  | 9, _ => h.2 79 (Nat.le_of_ble_eq_true rfl)
  | 10, _ => h.2 80 (Nat.le_of_ble_eq_true rfl)
  | 11, _ => h.2 81 (Nat.le_of_ble_eq_true rfl)
  | 12, _ => h.2 82 (Nat.le_of_ble_eq_true rfl)
  | 13, _ => h.2 83 (Nat.le_of_ble_eq_true rfl)
  | 14, _ => h.2 84 (Nat.le_of_ble_eq_true rfl)
  | 15, _ => h.2 85 (Nat.le_of_ble_eq_true rfl)
  | 16, _ => h.2 86 (Nat.le_of_ble_eq_true rfl)
  | 17, _ => h.2 87 (Nat.le_of_ble_eq_true rfl)
  | 18, _ => h.2 88 (Nat.le_of_ble_eq_true rfl)
  | 19, _ => h.2 89 (Nat.le_of_ble_eq_true rfl)
  | 20, _ => h.2 90 (Nat.le_of_ble_eq_true rfl)
  | 21, _ => h.2 91 (Nat.le_of_ble_eq_true rfl)
  | 22, _ => h.2 92 (Nat.le_of_ble_eq_true rfl)
  | 23, _ => h.2 93 (Nat.le_of_ble_eq_true rfl)
  | 24, _ => h.2 94 (Nat.le_of_ble_eq_true rfl)
  | 25, _ => h.2 95 (Nat.le_of_ble_eq_true rfl)
  | 26, _ => h.2 96 (Nat.le_of_ble_eq_true rfl)
  | 27, _ => h.2 97 (Nat.le_of_ble_eq_true rfl)
  | 28, _ => h.2 98 (Nat.le_of_ble_eq_true rfl)
  | 29, _ => h.2 99 (Nat.le_of_ble_eq_true rfl)
  | 30, _ => h.2 100 (Nat.le_of_ble_eq_true rfl)
  | 31, _ => h.2 101 (Nat.le_of_ble_eq_true rfl)
  | 32, _ => h.2 102 (Nat.le_of_ble_eq_true rfl)
  | 33, _ => h.2 103 (Nat.le_of_ble_eq_true rfl)
  | r + 34, h => absurd h (Nat.not_lt.mpr (Nat.le_add_left _ _))
set_option maxRecDepth 100000 in
set_option maxHeartbeats 8000000 in
theorem fa_136 {a : Nat} {D : va_G} {ca : Nat → ClassId} {H : Heap} (h : Bs (GE a D ca) a 261 (eAll (GE a D ca) a) H) : ∀ r, r < 34 → va_at D vwCl (gA (GE a D ca) (136 + r), ce (GE a D ca) M0 (136 + r)) H := fun r hr => match r, hr with
  | 0, _ => h.2 104 (Nat.le_of_ble_eq_true rfl)
  | 1, _ => at_q (f := _) (h.2 105 (Nat.le_of_ble_eq_true rfl)) (fun i hi => match i, hi with | 0, _ => rfl | 1, _ => rfl | 2, _ => rfl | 3, _ => rfl | 4, _ => rfl | 5, _ => rfl | i + 6, h => absurd h (Nat.not_lt.mpr (Nat.le_add_left _ _)))
  | 2, _ => h.2 106 (Nat.le_of_ble_eq_true rfl)
  | 3, _ => at_q (f := _) (h.2 107 (Nat.le_of_ble_eq_true rfl)) (fun i hi => match i, hi with | 0, _ => rfl | 1, _ => rfl | 2, _ => rfl | 3, _ => rfl | 4, _ => rfl | 5, _ => rfl | i + 6, h => absurd h (Nat.not_lt.mpr (Nat.le_add_left _ _)))
  | 4, _ => h.2 108 (Nat.le_of_ble_eq_true rfl)
  | 5, _ => h.2 109 (Nat.le_of_ble_eq_true rfl)
  | 6, _ => h.2 110 (Nat.le_of_ble_eq_true rfl)
  | 7, _ => h.2 111 (Nat.le_of_ble_eq_true rfl)
  | 8, _ => h.2 112 (Nat.le_of_ble_eq_true rfl)
  | 9, _ => h.2 113 (Nat.le_of_ble_eq_true rfl)
  | 10, _ => h.2 114 (Nat.le_of_ble_eq_true rfl)
  | 11, _ => h.2 115 (Nat.le_of_ble_eq_true rfl)
  | 12, _ => h.2 116 (Nat.le_of_ble_eq_true rfl)
  | 13, _ => h.2 117 (Nat.le_of_ble_eq_true rfl)
  | 14, _ => h.2 118 (Nat.le_of_ble_eq_true rfl)
  | 15, _ => h.2 119 (Nat.le_of_ble_eq_true rfl)
  | 16, _ => h.2 120 (Nat.le_of_ble_eq_true rfl)
  | 17, _ => h.2 121 (Nat.le_of_ble_eq_true rfl)
  | 18, _ => h.2 122 (Nat.le_of_ble_eq_true rfl)
  | 19, _ => h.2 123 (Nat.le_of_ble_eq_true rfl)
  | 20, _ => h.2 124 (Nat.le_of_ble_eq_true rfl)
  | 21, _ => h.2 125 (Nat.le_of_ble_eq_true rfl)
  | 22, _ => h.2 126 (Nat.le_of_ble_eq_true rfl)
  | 23, _ => h.2 127 (Nat.le_of_ble_eq_true rfl)
  | 24, _ => h.2 128 (Nat.le_of_ble_eq_true rfl)
  | 25, _ => h.2 129 (Nat.le_of_ble_eq_true rfl)
  | 26, _ => h.2 130 (Nat.le_of_ble_eq_true rfl)
  | 27, _ => h.2 131 (Nat.le_of_ble_eq_true rfl)
  | 28, _ => h.2 132 (Nat.le_of_ble_eq_true rfl)
  | 29, _ => h.2 133 (Nat.le_of_ble_eq_true rfl)
  | 30, _ => h.2 134 (Nat.le_of_ble_eq_true rfl)
  | 31, _ => h.2 135 (Nat.le_of_ble_eq_true rfl)
  | 32, _ => h.2 136 (Nat.le_of_ble_eq_true rfl)
  | 33, _ => h.2 137 (Nat.le_of_ble_eq_true rfl)
  | r + 34, h => absurd h (Nat.not_lt.mpr (Nat.le_add_left _ _))
set_option maxRecDepth 100000 in
set_option maxHeartbeats 8000000 in
theorem fa_170 {a : Nat} {D : va_G} {ca : Nat → ClassId} {H : Heap} (h : Bs (GE a D ca) a 261 (eAll (GE a D ca) a) H) : ∀ r, r < 34 → va_at D vwCl (gA (GE a D ca) (170 + r), ce (GE a D ca) M0 (170 + r)) H := fun r hr => match r, hr with
  | 0, _ => h.2 138 (Nat.le_of_ble_eq_true rfl)
  | 1, _ => at_q (f := _) (h.2 139 (Nat.le_of_ble_eq_true rfl)) (fun i hi => match i, hi with | 0, _ => rfl | 1, _ => rfl | 2, _ => rfl | 3, _ => rfl | 4, _ => rfl | 5, _ => rfl | i + 6, h => absurd h (Nat.not_lt.mpr (Nat.le_add_left _ _)))
  | 2, _ => h.2 140 (Nat.le_of_ble_eq_true rfl)
  | 3, _ => at_q (f := _) (h.2 141 (Nat.le_of_ble_eq_true rfl)) (fun i hi => match i, hi with | 0, _ => rfl | 1, _ => rfl | 2, _ => rfl | 3, _ => rfl | 4, _ => rfl | 5, _ => rfl | i + 6, h => absurd h (Nat.not_lt.mpr (Nat.le_add_left _ _)))
  | 4, _ => h.2 142 (Nat.le_of_ble_eq_true rfl)
  | 5, _ => h.2 143 (Nat.le_of_ble_eq_true rfl)
  | 6, _ => h.2 144 (Nat.le_of_ble_eq_true rfl)
  | 7, _ => h.2 145 (Nat.le_of_ble_eq_true rfl)
  | 8, _ => h.2 146 (Nat.le_of_ble_eq_true rfl)
  | 9, _ => h.2 147 (Nat.le_of_ble_eq_true rfl)
  | 10, _ => h.2 148 (Nat.le_of_ble_eq_true rfl)
  | 11, _ => h.2 149 (Nat.le_of_ble_eq_true rfl)
  | 12, _ => h.2 150 (Nat.le_of_ble_eq_true rfl)
  | 13, _ => h.2 151 (Nat.le_of_ble_eq_true rfl)
  | 14, _ => h.2 152 (Nat.le_of_ble_eq_true rfl)
  | 15, _ => h.2 153 (Nat.le_of_ble_eq_true rfl)
  | 16, _ => h.2 154 (Nat.le_of_ble_eq_true rfl)
  | 17, _ => h.2 155 (Nat.le_of_ble_eq_true rfl)
  | 18, _ => h.2 156 (Nat.le_of_ble_eq_true rfl)
  | 19, _ => h.2 157 (Nat.le_of_ble_eq_true rfl)
  | 20, _ => h.2 158 (Nat.le_of_ble_eq_true rfl)
  | 21, _ => h.2 159 (Nat.le_of_ble_eq_true rfl)
  | 22, _ => h.2 160 (Nat.le_of_ble_eq_true rfl)
  | 23, _ => h.2 161 (Nat.le_of_ble_eq_true rfl)
  | 24, _ => h.2 162 (Nat.le_of_ble_eq_true rfl)
  | 25, _ => h.2 163 (Nat.le_of_ble_eq_true rfl)
  | 26, _ => h.2 164 (Nat.le_of_ble_eq_true rfl)
  | 27, _ => h.2 165 (Nat.le_of_ble_eq_true rfl)
  | 28, _ => h.2 166 (Nat.le_of_ble_eq_true rfl)
  | 29, _ => h.2 167 (Nat.le_of_ble_eq_true rfl)
  | 30, _ => h.2 168 (Nat.le_of_ble_eq_true rfl)
  | 31, _ => h.2 169 (Nat.le_of_ble_eq_true rfl)
  | 32, _ => h.2 170 (Nat.le_of_ble_eq_true rfl)
  | 33, _ => h.2 171 (Nat.le_of_ble_eq_true rfl)
  | r + 34, h => absurd h (Nat.not_lt.mpr (Nat.le_add_left _ _))
set_option maxRecDepth 100000 in
set_option maxHeartbeats 8000000 in
theorem fa_204 {a : Nat} {D : va_G} {ca : Nat → ClassId} {H : Heap} (h : Bs (GE a D ca) a 261 (eAll (GE a D ca) a) H) : ∀ r, r < 34 → va_at D vwCl (gA (GE a D ca) (204 + r), ce (GE a D ca) M0 (204 + r)) H := fun r hr => match r, hr with
  | 0, _ => h.2 172 (Nat.le_of_ble_eq_true rfl)
  | 1, _ => at_q (f := _) (h.2 173 (Nat.le_of_ble_eq_true rfl)) (fun i hi => match i, hi with | 0, _ => rfl | 1, _ => rfl | 2, _ => rfl | 3, _ => rfl | 4, _ => rfl | 5, _ => rfl | i + 6, h => absurd h (Nat.not_lt.mpr (Nat.le_add_left _ _)))
  | 2, _ => h.2 174 (Nat.le_of_ble_eq_true rfl)
  | 3, _ => at_q (f := _) (h.2 175 (Nat.le_of_ble_eq_true rfl)) (fun i hi => match i, hi with | 0, _ => rfl | 1, _ => rfl | 2, _ => rfl | 3, _ => rfl | 4, _ => rfl | 5, _ => rfl | i + 6, h => absurd h (Nat.not_lt.mpr (Nat.le_add_left _ _)))
  | 4, _ => h.2 176 (Nat.le_of_ble_eq_true rfl)
  | 5, _ => h.2 177 (Nat.le_of_ble_eq_true rfl)
  | 6, _ => h.2 178 (Nat.le_of_ble_eq_true rfl)
  | 7, _ => h.2 179 (Nat.le_of_ble_eq_true rfl)
  | 8, _ => h.2 180 (Nat.le_of_ble_eq_true rfl)
  | 9, _ => h.2 181 (Nat.le_of_ble_eq_true rfl)
  | 10, _ => h.2 182 (Nat.le_of_ble_eq_true rfl)
  | 11, _ => h.2 183 (Nat.le_of_ble_eq_true rfl)
  | 12, _ => h.2 184 (Nat.le_of_ble_eq_true rfl)
  | 13, _ => h.2 185 (Nat.le_of_ble_eq_true rfl)
  | 14, _ => h.2 186 (Nat.le_of_ble_eq_true rfl)
  | 15, _ => h.2 187 (Nat.le_of_ble_eq_true rfl)
  | 16, _ => h.2 188 (Nat.le_of_ble_eq_true rfl)
  | 17, _ => h.2 189 (Nat.le_of_ble_eq_true rfl)
  | 18, _ => h.2 190 (Nat.le_of_ble_eq_true rfl)
  | 19, _ => h.2 191 (Nat.le_of_ble_eq_true rfl)
  | 20, _ => h.2 192 (Nat.le_of_ble_eq_true rfl)
  | 21, _ => h.2 193 (Nat.le_of_ble_eq_true rfl)
  | 22, _ => h.2 194 (Nat.le_of_ble_eq_true rfl)
  | 23, _ => h.2 195 (Nat.le_of_ble_eq_true rfl)
  | 24, _ => h.2 196 (Nat.le_of_ble_eq_true rfl)
  | 25, _ => h.2 197 (Nat.le_of_ble_eq_true rfl)
  | 26, _ => h.2 198 (Nat.le_of_ble_eq_true rfl)
  | 27, _ => h.2 199 (Nat.le_of_ble_eq_true rfl)
  | 28, _ => h.2 200 (Nat.le_of_ble_eq_true rfl)
  | 29, _ => h.2 201 (Nat.le_of_ble_eq_true rfl)
  | 30, _ => h.2 202 (Nat.le_of_ble_eq_true rfl)
  | 31, _ => h.2 203 (Nat.le_of_ble_eq_true rfl)
  | 32, _ => h.2 204 (Nat.le_of_ble_eq_true rfl)
  | 33, _ => h.2 205 (Nat.le_of_ble_eq_true rfl)
  | r + 34, h => absurd h (Nat.not_lt.mpr (Nat.le_add_left _ _))
set_option maxRecDepth 100000 in
set_option maxHeartbeats 8000000 in
theorem fa_238 {a : Nat} {D : va_G} {ca : Nat → ClassId} {H : Heap} (h : Bs (GE a D ca) a 261 (eAll (GE a D ca) a) H) : ∀ r, r < 34 → va_at D vwCl (gA (GE a D ca) (238 + r), ce (GE a D ca) M0 (238 + r)) H := fun r hr => match r, hr with
  | 0, _ => h.2 206 (Nat.le_of_ble_eq_true rfl)
  | 1, _ => at_q (f := _) (h.2 207 (Nat.le_of_ble_eq_true rfl)) (fun i hi => match i, hi with | 0, _ => rfl | 1, _ => rfl | 2, _ => rfl | 3, _ => rfl | 4, _ => rfl | 5, _ => rfl | i + 6, h => absurd h (Nat.not_lt.mpr (Nat.le_add_left _ _)))
  | 2, _ => h.2 208 (Nat.le_of_ble_eq_true rfl)
  | 3, _ => at_q (f := _) (h.2 209 (Nat.le_of_ble_eq_true rfl)) (fun i hi => match i, hi with | 0, _ => rfl | 1, _ => rfl | 2, _ => rfl | 3, _ => rfl | 4, _ => rfl | 5, _ => rfl | i + 6, h => absurd h (Nat.not_lt.mpr (Nat.le_add_left _ _)))
  | 4, _ => h.2 210 (Nat.le_of_ble_eq_true rfl)
  | 5, _ => h.2 211 (Nat.le_of_ble_eq_true rfl)
  | 6, _ => h.2 212 (Nat.le_of_ble_eq_true rfl)
  | 7, _ => h.2 213 (Nat.le_of_ble_eq_true rfl)
  | 8, _ => h.2 214 (Nat.le_of_ble_eq_true rfl)
  | 9, _ => h.2 215 (Nat.le_of_ble_eq_true rfl)
  | 10, _ => h.2 216 (Nat.le_of_ble_eq_true rfl)
  | 11, _ => h.2 217 (Nat.le_of_ble_eq_true rfl)
  | 12, _ => h.2 218 (Nat.le_of_ble_eq_true rfl)
  | 13, _ => h.2 219 (Nat.le_of_ble_eq_true rfl)
  | 14, _ => h.2 220 (Nat.le_of_ble_eq_true rfl)
  | 15, _ => h.2 221 (Nat.le_of_ble_eq_true rfl)
  | 16, _ => h.2 222 (Nat.le_of_ble_eq_true rfl)
  | 17, _ => h.2 223 (Nat.le_of_ble_eq_true rfl)
  | 18, _ => h.2 224 (Nat.le_of_ble_eq_true rfl)
  | 19, _ => h.2 225 (Nat.le_of_ble_eq_true rfl)
  | 20, _ => h.2 226 (Nat.le_of_ble_eq_true rfl)
  | 21, _ => h.2 227 (Nat.le_of_ble_eq_true rfl)
  | 22, _ => h.2 228 (Nat.le_of_ble_eq_true rfl)
  | 23, _ => h.2 229 (Nat.le_of_ble_eq_true rfl)
  | 24, _ => h.2 230 (Nat.le_of_ble_eq_true rfl)
  | 25, _ => h.2 231 (Nat.le_of_ble_eq_true rfl)
  | 26, _ => h.2 232 (Nat.le_of_ble_eq_true rfl)
  | 27, _ => h.2 233 (Nat.le_of_ble_eq_true rfl)
  | 28, _ => h.2 234 (Nat.le_of_ble_eq_true rfl)
  | 29, _ => h.2 235 (Nat.le_of_ble_eq_true rfl)
  | 30, _ => h.2 236 (Nat.le_of_ble_eq_true rfl)
  | 31, _ => h.2 237 (Nat.le_of_ble_eq_true rfl)
  | 32, _ => h.2 238 (Nat.le_of_ble_eq_true rfl)
  | 33, _ => h.2 239 (Nat.le_of_ble_eq_true rfl)
  | r + 34, h => absurd h (Nat.not_lt.mpr (Nat.le_add_left _ _))
theorem fa {a : Nat} {D : va_G} {ca : Nat → ClassId} {H : Heap} (h : Bs (GE a D ca) a 261 (eAll (GE a D ca) a) H) : va_P D vwCl (wd (GE a D ca) M0) H := by
  intro j q hk
  have h1 : j < 261 := by
    have := (List.getElem?_eq_some_iff.mp hk).1
    simpa [wd] using this
  rw [wd_at h1] at hk
  cases hk
  have hc : (iv_c j < 23) ∨ (34 ≤ iv_c j ∧ iv_c j < 272) := by
    unfold iv_c
    by_cases q : j < 23
    · rw [if_pos q]; omega
    · rw [if_neg q]; omega
  generalize iv_c j = k at hc ⊢
  have hd := Nat.div_add_mod k 34
  have hm := Nat.mod_lt k (show 0 < 34 by decide)
  have hq : k / 34 < 8 := by omega
  have h23 : k / 34 = 0 → k % 34 < 23 := by omega
  rw [← hd]
  generalize k / 34 = n at hq h23 ⊢
  generalize k % 34 = r at hm h23 ⊢
  match n, hq with
  | 0, _ => exact fa_0 h r (h23 rfl)
  | 1, _ => exact fa_34 h r hm
  | 2, _ => exact fa_68 h r hm
  | 3, _ => exact fa_102 h r hm
  | 4, _ => exact fa_136 h r hm
  | 5, _ => exact fa_170 h r hm
  | 6, _ => exact fa_204 h r hm
  | 7, _ => exact fa_238 h r hm
  | n + 8, h => exact absurd h (Nat.not_lt.mpr (Nat.le_add_left _ _))
theorem JX0 : JX M0 FF 0 (fun _ _ => 0) 0 (fun _ => 0) := by
  have hL : ∀ i, i < 428 → M0.1 (34 + lc i) (lsl i) = FF i := by decide +kernel
  exact ⟨⟨hL, fun j => j + 2, ⟨by decide, by decide, fun j hj => ⟨rfl, by show 2 ≤ j + 2; omega, by show j + 2 ≤ 7; omega⟩, fun i j _ _ h => by have h : i + 2 = j + 2 := h; omega⟩, fun j hj => absurd hj (Nat.not_lt_zero _)⟩, by decide, fun i hi => absurd hi (Nat.not_lt_zero _)⟩
theorem FF_0 : ∀ i, i < 420 → FF i = nI 0 := by decide +kernel
theorem SI0 : SI FF 0 := ⟨by decide, by decide, fun i h1 h2 => ⟨0, by decide, FF_0 i (by omega)⟩, ⟨2, by decide, by decide⟩, fun f t hf ht _ => FF_0 _ (by omega)⟩
theorem Iv0 : Iv FF 0 0 := ⟨SI0, fun t ht => ⟨0, FF_0 t (by omega), by omega⟩, fun i h1 h2 => ⟨0, FF_0 i (by omega), by omega⟩, ⟨10, by decide, by omega, by omega⟩, ⟨200, by decide, by omega⟩, fun i h1 h2 => ⟨0, FF_0 i (by omega), by omega⟩⟩
theorem Zf0 : Zf FF := fun i h1 h2 => FF_0 i (by omega)
