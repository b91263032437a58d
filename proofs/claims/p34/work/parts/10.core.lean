/-! ===== the memory that the walks speak of: a cell's number and a place in it; its layout; the world that it is in a heap ===== -/
abbrev Mem : Type := (Nat → Nat → Int32) × (Nat → Int64)
def mw (M : Mem) (k i : Nat) (v : Int32) : Mem := (fun a b => if a = k ∧ b = i then v else M.1 a b, M.2)
def ml (M : Mem) (i : Nat) (v : Int64) : Mem := (M.1, fun a => if a = i then v else M.2 a)
def mrw (M : Mem) (k : Nat) (f : Nat → Int32) : Mem := (fun a b => if a = k then f b else M.1 a b, M.2)
def bnd {α β : Type} (x : α) (B : α → β) : β := B x
def chk {β : Type} (b : Bool) (X : Option β) : Option β := match b with
  | true => X
  | false => none
def inb (i : Int32) (n : Nat) : Bool := !(decide (i < 0) || decide (n ≤ i.toNatClampNeg))
theorem inb_in {i : Int32} {n : Nat} (h : inb i n = true) : vp_in i n := by
  intro q
  simp only [inb, Bool.not_eq_true', Bool.or_eq_false_iff, decide_eq_false_iff_not] at h
  exact q.elim h.1 h.2
theorem inb_lt {i : Int32} {n : Nat} (h : inb i n = true) : i.toNatClampNeg < n := Nat.not_le.mp fun q => inb_in h (Or.inr q)
-- kinds: 0 DrumTowns, 1 Land, 2 Town, 3 Playing, 4 Ring, 5 Trades, 6 TuneText, 8 int[], 9 Town[], 10 Land[], 11 int[][]
def kdm : List Nat := [0, 10, 6, 8, 8, 3, 8, 8, 8, 8, 4, 8, 5, 11, 8, 8, 8, 8, 8, 8, 8, 8, 8, 99, 99, 99, 99, 99, 99, 99, 99, 99, 99, 99]
def alm : List Nat := [0, 6, 0, 60, 24, 0, 24, 12, 12, 24, 0, 6, 0, 6, 6, 6, 6, 6, 6, 6, 64, 6, 24, 0, 0, 0, 0, 0, 0, 0, 0, 0, 0, 0]
def kdl (r : Nat) : Nat := if r < 10 then [1, 9, 8, 11, 8, 8, 8, 8, 8, 8].getD r 8 else if (r - 10) % 4 = 0 then 2 else 8
def all' (r : Nat) : Nat := if r < 10 then [0, 6, 3, 6, 6, 6, 6, 6, 6, 6].getD r 0 else [0, 24, 24, 12].getD ((r - 10) % 4) 0
def kd (k : Nat) : Nat := if k < 34 then kdm.getD k 99 else if k < 272 then kdl (k % 34) else 99
def al (k : Nat) : Nat := if k < 34 then alm.getD k 0 else if k < 272 then all' (k % 34) else 0
theorem kd_lt {k c : Nat} (h : kd k = c) (hc : c < 99) : k < 272 := by
  rcases Nat.lt_or_ge k 272 with q | q
  · exact q
  · unfold kd at h
    rw [if_neg (by omega), if_neg (by omega)] at h
    omega
-- what lies behind a reference field: its kind (and length)
theorem k0a : ∀ k, k < 272 → kd k = 0 → k = 0 := by decide +kernel
theorem k1a : ∀ k, k < 272 → kd k = 1 → kd (k + 1) = 9 ∧ (kd (k + 2) = 8 ∧ al (k + 2) = 3) ∧ kd (k + 3) = 11 := by decide +kernel
theorem k2a : ∀ k, k < 272 → kd k = 2 → (kd (k + 1) = 8 ∧ al (k + 1) = 24) ∧ (kd (k + 2) = 8 ∧ al (k + 2) = 24) ∧ kd (k + 3) = 8 ∧ al (k + 3) = 12 := by decide +kernel
theorem k9a : ∀ k, k < 272 → kd k = 9 → ∀ i, i < 6 → kd (k + 9 + 4 * i) = 2 := by decide +kernel
theorem k11a : ∀ k, k < 272 → kd k = 11 → ∀ i, i < 6 → kd (k + 1 + i) = 8 ∧ al (k + 1 + i) = 6 := by decide +kernel
theorem kLs {k : Nat} (h : kd k = 1) : kd (k + 1) = 9 := (k1a k (kd_lt h (by decide)) h).1
theorem kLse {k : Nat} (h : kd k = 1) : kd (k + 2) = 8 := (k1a k (kd_lt h (by decide)) h).2.1.1
theorem aLse {k : Nat} (h : kd k = 1) : al (k + 2) = 3 := (k1a k (kd_lt h (by decide)) h).2.1.2
theorem kLd {k : Nat} (h : kd k = 1) : kd (k + 3) = 11 := (k1a k (kd_lt h (by decide)) h).2.2
theorem kTd {k : Nat} (h : kd k = 2) : kd (k + 1) = 8 := (k2a k (kd_lt h (by decide)) h).1.1
theorem aTd {k : Nat} (h : kd k = 2) : al (k + 1) = 24 := (k2a k (kd_lt h (by decide)) h).1.2
theorem kTt {k : Nat} (h : kd k = 2) : kd (k + 2) = 8 := (k2a k (kd_lt h (by decide)) h).2.1.1
theorem aTt {k : Nat} (h : kd k = 2) : al (k + 2) = 24 := (k2a k (kd_lt h (by decide)) h).2.1.2
theorem kTw {k : Nat} (h : kd k = 2) : kd (k + 3) = 8 := (k2a k (kd_lt h (by decide)) h).2.2.1
theorem aTw {k : Nat} (h : kd k = 2) : al (k + 3) = 12 := (k2a k (kd_lt h (by decide)) h).2.2.2
/-- the number of a town in the row of towns -/
def tw (k : Nat) (i : Int32) : Nat := k + 9 + 4 * i.toNatClampNeg
def rw' (k : Nat) (i : Int32) : Nat := k + 1 + i.toNatClampNeg
def sv (M : Mem) (k : Nat) (i : Int32) : Nat := 34 * (M.1 k i.toNatClampNeg).toNatClampNeg
theorem kTw' {k : Nat} {i : Int32} (h : kd k = 9) (hi : inb i 6 = true) : kd (tw k i) = 2 := k9a k (kd_lt h (by decide)) h _ (inb_lt hi)
theorem kRw {k : Nat} {i : Int32} (h : kd k = 11) (hi : inb i 6 = true) : kd (rw' k i) = 8 := (k11a k (kd_lt h (by decide)) h _ (inb_lt hi)).1
theorem aRw {k : Nat} {i : Int32} (h : kd k = 11) (hi : inb i 6 = true) : al (rw' k i) = 6 := (k11a k (kd_lt h (by decide)) h _ (inb_lt hi)).2
-- the world
abbrev GM : Type := Nat × (Nat → Nat) × va_G × (Nat → ClassId)
abbrev g0 (G : GM) : Nat := G.1
abbrev gA (G : GM) : Nat → Nat := G.2.1
abbrev gD (G : GM) : va_G := G.2.2.1
abbrev gC (G : GM) : Nat → ClassId := G.2.2.2
abbrev A0 (G : GM) : Nat → Prop := fun q => g0 G ≤ q
def obc (c : Nat) : Nat := [6, 0, 3, 1, 2, 4, 5, 7].getD c 9
def ob (G : GM) (M : Mem) (k c : Nat) : List Value := match c with
  | 0 => [.ref (gA G (k + 34)), .ref (gA G (k + 1)), .int (M.1 k 2), .ref (gA G (k + 2)), .ref (gA G (k + 5)), .ref (gA G (k + 10)), .ref (gA G (k + 12)), .ref (gA G (k + 22))]
  | 1 => [.ref (gA G (k + 1)), .int (M.1 k 1), .ref (gA G (k + 2)), .ref (gA G (k + 3)), .int (M.1 k 4), .int (M.1 k 5), .int (M.1 k 6), .int (M.1 k 7)]
  | 2 => [.int (M.1 k 0), .ref (gA G (k + 1)), .ref (gA G (k + 2)), .ref (gA G (k + 3)), .int (M.1 k 4), .int (M.1 k 5), .int (M.1 k 6)]
  | 3 => [.ref (gA G (k + 1)), .ref (gA G (k + 2)), .ref (gA G (k + 3)), .ref (gA G (k + 4)), .int (M.1 k 4), .int (M.1 k 5), .int (M.1 k 6), .int (M.1 k 7), .int (M.1 k 8), .int (M.1 k 9), .int (M.1 k 10)]
  | 4 => [.ref (gA G (k + 1)), .int (M.1 k 1), .int (M.1 k 2)]
  | 5 => [.ref (gA G (k + 1)), .ref (gA G (k + 8)), .ref (gA G (k + 9)), .int (M.1 k 3), .int (M.1 k 4)]
  | 6 => [.ref (gA G (k + 1)), .int (M.1 k 1), .ref (gA G (k + 2)), .int (M.1 k 3), .int (M.1 k 4), .int (M.1 k 5)]
  | _ => []
def ce (G : GM) (M : Mem) (k : Nat) : va_E := match kd k with
  | 8 => .inl (gC G 0, al k, .inl (M.1 k))
  | 9 => .inl (gC G 1, 6, .inr (.inr (.inr (.inr (fun i => some (gA G (k + 9 + 4 * i)))))))
  | 10 => .inl (gC G 2, 6, .inr (.inr (.inr (.inr (fun i => some (gA G (34 * (M.1 k i).toNatClampNeg)))))))
  | 11 => .inl (gC G 3, 6, .inr (.inr (.inr (.inr (fun i => some (gA G (k + 1 + i)))))))
  | c => .inr (obc c, ob G M k c)
/-- the world's places: the cells but for 23 to 33 -/
def iv_c (j : Nat) : Nat := if j < 23 then j else j + 11
def ix_c (k : Nat) : Nat := if k < 23 then k else k - 11
theorem ix_iv {j : Nat} : ix_c (iv_c j) = j := by
  unfold ix_c iv_c
  by_cases h : j < 23
  · rw [if_pos h, if_pos h]
  · rw [if_neg h, if_neg (by omega)]; omega
theorem iv_lt {j : Nat} (h : j < 261) : iv_c j < 272 := by
  unfold iv_c
  by_cases q : j < 23
  · rw [if_pos q]; omega
  · rw [if_neg q]; omega
theorem kd_ix0 : ∀ k, k < 272 → kd k < 99 → ix_c k < 261 ∧ iv_c (ix_c k) = k := by decide +kernel
theorem kd_ix {k : Nat} (h : kd k < 99) : ix_c k < 261 ∧ iv_c (ix_c k) = k := kd_ix0 k (kd_lt rfl h) h
def wd (G : GM) (M : Mem) : va_W := (List.range 261).map (fun j => (gA G (iv_c j), ce G M (iv_c j)))
theorem wd_at {G : GM} {M : Mem} {j : Nat} (hj : j < 261) : (wd G M)[j]? = some (gA G (iv_c j), ce G M (iv_c j)) := by
  simp [wd, hj]
theorem wd_get {G : GM} {M : Mem} {k : Nat} (hk : kd k < 99) : (wd G M)[ix_c k]? = some (gA G k, ce G M k) := by
  obtain ⟨h1, h2⟩ := kd_ix hk
  rw [wd_at h1, h2]
theorem wd_set {G : GM} {M M' : Mem} {k : Nat} {e : va_E} (hk : kd k < 99) (he : ce G M' k = e) (ho : ∀ j, j < 272 → j ≠ k → ce G M' j = ce G M j) : (wd G M).set (ix_c k) (gA G k, e) = wd G M' := by
  obtain ⟨h1, h2⟩ := kd_ix hk
  apply List.ext_getElem?
  intro j
  rcases Nat.lt_or_ge j 261 with hj | hj
  · by_cases hjk : j = ix_c k
    · subst hjk
      rw [List.getElem?_set_self (by simpa [wd] using hj), wd_at hj, h2, he]
    · rw [List.getElem?_set_ne (Ne.symm hjk), wd_at hj, wd_at hj, ho _ (iv_lt hj) (fun q => hjk (by rw [← q, ix_iv]))]
  · rw [List.getElem?_eq_none (by simpa [wd] using hj), List.getElem?_eq_none (by simpa [wd] using hj)]
theorem ob_other {G : GM} {M M' : Mem} {j c : Nat} (h1 : ∀ i, M'.1 j i = M.1 j i) : ob G M' j c = ob G M j c := by
  unfold ob
  split <;> simp only [h1]
theorem ce_other {G : GM} {M M' : Mem} {j : Nat} (h1 : ∀ i, M'.1 j i = M.1 j i) (h2 : M'.2 = M.2) : ce G M' j = ce G M j := by
  have h3 : M'.1 j = M.1 j := funext h1
  unfold ce
  split
  · rw [h3]
  · rfl
  · simp only [h1]
  · rfl
  · rw [ob_other h1]
theorem wd_i {G : GM} {M : Mem} {k : Nat} (h : kd k = 8) : (wd G M)[ix_c k]? = some (gA G k, .inl (gC G 0, al k, .inl (M.1 k))) := by
  rw [wd_get (by rw [h]; decide)]; simp only [ce, h]
theorem wd_t {G : GM} {M : Mem} {k : Nat} (h : kd k = 9) : (wd G M)[ix_c k]? = some (gA G k, .inl (gC G 1, 6, .inr (.inr (.inr (.inr (fun i => some (gA G (k + 9 + 4 * i)))))))) := by
  rw [wd_get (by rw [h]; decide)]; simp only [ce, h]
theorem wd_s {G : GM} {M : Mem} {k : Nat} (h : kd k = 10) : (wd G M)[ix_c k]? = some (gA G k, .inl (gC G 2, 6, .inr (.inr (.inr (.inr (fun i => some (gA G (34 * (M.1 k i).toNatClampNeg)))))))) := by
  rw [wd_get (by rw [h]; decide)]; simp only [ce, h]
theorem wd_r {G : GM} {M : Mem} {k : Nat} (h : kd k = 11) : (wd G M)[ix_c k]? = some (gA G k, .inl (gC G 3, 6, .inr (.inr (.inr (.inr (fun i => some (gA G (k + 1 + i)))))))) := by
  rw [wd_get (by rw [h]; decide)]; simp only [ce, h]
theorem ce_o {G : GM} {M : Mem} {k c : Nat} (h : kd k = c) (hc : c < 8) : ce G M k = .inr (obc c, ob G M k c) := by
  unfold ce
  rw [h]
  match c, hc with
  | 0, _ => rfl
  | 1, _ => rfl
  | 2, _ => rfl
  | 3, _ => rfl
  | 4, _ => rfl
  | 5, _ => rfl
  | 6, _ => rfl
  | 7, _ => rfl
theorem wd_o {G : GM} {M : Mem} {k c : Nat} (h : kd k = c) (hc : c < 8) : (wd G M)[ix_c k]? = some (gA G k, .inr (obc c, ob G M k c)) := by
  rw [wd_get (by omega), ce_o h hc]
theorem mw_ne {M : Mem} {k i a b : Nat} {v : Int32} (h : a ≠ k) : (mw M k i v).1 a b = M.1 a b := by
  show (if a = k ∧ b = i then v else M.1 a b) = _
  rw [if_neg (fun q => h q.1)]
theorem mw_ne2 {M : Mem} {k i a b : Nat} {v : Int32} (h : b ≠ i) : (mw M k i v).1 a b = M.1 a b := by
  show (if a = k ∧ b = i then v else M.1 a b) = _
  rw [if_neg (fun q => h q.2)]
theorem mw_eq {M : Mem} {k i : Nat} {v : Int32} : (mw M k i v).1 k i = v := by
  show (if k = k ∧ i = i then v else M.1 k i) = _
  rw [if_pos ⟨rfl, rfl⟩]
theorem mw_row {M : Mem} {k i : Nat} {v : Int32} : (mw M k i v).1 k = upd (M.1 k) i v := by
  funext b
  by_cases h : b = i
  · subst h; rw [mw_eq]; simp [upd]
  · rw [mw_ne2 h]; simp [upd, h]
theorem mrw_ne {M : Mem} {k a b : Nat} {f : Nat → Int32} (h : a ≠ k) : (mrw M k f).1 a b = M.1 a b := if_neg h
theorem mrw_eq {M : Mem} {k : Nat} {f : Nat → Int32} : (mrw M k f).1 k = f := funext fun _ => if_pos rfl
/-- a write into an int[] -/
theorem wd_mwi {G : GM} {M : Mem} {k i : Nat} {v : Int32} (h : kd k = 8) : (wd G M).set (ix_c k) (gA G k, .inl (gC G 0, al k, .inl (upd (M.1 k) i v))) = wd G (mw M k i v) :=
  wd_set (by rw [h]; decide) (by simp only [ce, h, mw_row]) (fun j _ hj => ce_other (fun b => mw_ne hj) rfl)
theorem wd_mrw {G : GM} {M : Mem} {k : Nat} {f : Nat → Int32} (h : kd k = 8) : (wd G M).set (ix_c k) (gA G k, .inl (gC G 0, al k, .inl f)) = wd G (mrw M k f) :=
  wd_set (by rw [h]; decide) (by simp only [ce, h, mrw_eq]) (fun j _ hj => ce_other (fun b => mrw_ne hj) rfl)
/-- a write into an int field -/
theorem wd_mwo {G : GM} {M : Mem} {k c j : Nat} {v : Int32} (h : kd k = c) (hc : c < 8) (hf : ob G (mw M k j v) k c = (ob G M k c).set j (.int v)) : (wd G M).set (ix_c k) (gA G k, .inr (obc c, (ob G M k c).set j (.int v))) = wd G (mw M k j v) :=
  wd_set (by omega) (by rw [ce_o h hc, hf]) (fun j _ hj => ce_other (fun b => mw_ne hj) rfl)
theorem k10a : ∀ k, k < 272 → kd k = 10 → k = 1 := by decide +kernel