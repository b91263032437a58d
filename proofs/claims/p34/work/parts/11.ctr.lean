/-! ===== contracts over that memory ===== -/
def isNst : Cond → Bool
  | .fieldLinkNest .. => true
  | .methodLinkNest .. => true
  | .castable .. => true
  | .declares .. => true
  | _ => false
def exI : String := "java/lang/IndexOutOfBoundsException"
def exA : String := "java/lang/IllegalArgumentException"
def exS : String := "java/lang/IllegalStateException"
def ncW : List (String × String) := [(exI, exA), (exI, exS), (exA, exI), (exA, exS), (exS, exI), (exS, exA)]
def wsA : List Cond := lw_tbl.filter goodWord
theorem goodA {w : Cond} (h : w ∈ wsA) : goodWord w = true := (List.mem_filter.mp h).2
theorem inA {w : Cond} (h : w ∈ lw_tbl) (g : goodWord w = true) : w ∈ wsA := List.mem_filter.mpr ⟨h, g⟩
theorem ginA {ws : List Cond} (h : ∀ w ∈ ws, w ∈ wsA) : GoodIn wsA ws := fun w hw => ⟨h w hw, good_of_word (goodA (h w hw))⟩
theorem allA {a : Cond} {ws : List Cond} (h : a ∈ wsA) (t : ∀ w ∈ ws, w ∈ wsA) : ∀ w ∈ a :: ws, w ∈ wsA := fun w hw => (List.mem_cons.mp hw).elim (fun e => e ▸ h) (t w)
abbrev tysG (G : GM) : List (ClassId × FieldType) := [(gC G 0, .int), (gC G 1, .object "DrumTowns$Town"), (gC G 2, .object "DrumTowns$Land"), (gC G 3, .array .int)]
def lvT : Nat → Int32 := fun j => [0, 1, 1].getD j 0
def gvT : Nat → Int32 := fun j => [24, 100, 999].getD j 0
def fvT : Nat → Int32 := fun j => [2, 10, 200].getD j 0
def StA (n : String) (f : Nat → Int32) (A : Nat → Prop) (U : State) (H : Heap) : Prop := ∃ t : Nat, va_Z "DrumTowns" n "[I" (.ref t) A U H ∧ va_T .int t 3 (fun j => .int (f j)) A U H
/-- what the tables and the statics say, over the heap H -/
def KS (G : GM) (U : State) (H : Heap) : Prop :=
  va_K (gD G) vwCl (tysG G) U ∧ (∀ w ∈ lw_tbl, isNst w = true → va_Nw w U) ∧ StA "LEAST_VALUES" lvT (A0 G) U H ∧ StA "GREATEST_VALUES" gvT (A0 G) U H ∧ StA "FIRST_VALUES" fvT (A0 G) U H ∧
  vx_Zq Bundle.tN "UNASSIGNED_STACK" Bundle.steD (A0 G) U H ∧ vx_Zq Bundle.tN "SUPPRESSED_SENTINEL" Bundle.listD (A0 G) U H ∧ (∀ q ∈ strW, ∃ sa, vk_R "DrumTowns" q.1 q.2 sa U) ∧ (∀ q ∈ ncW, va_Nc q.1 q.2 U)
theorem StA.moved {n : String} {f : Nat → Int32} {A : Nat → Prop} {u U : State} {H : Heap} (hvm : u.vm.Alike U.vm) (h : StA n f A u H) : StA n f A U H := by
  obtain ⟨t, h1, h2⟩ := h
  exact ⟨t, h1.moved hvm, h2.moved hvm⟩
theorem StA.kept {n : String} {f : Nat → Int32} {A : Nat → Prop} {U : State} {H H1 : Heap} (h : StA n f A U H) (hq : ∀ a : Nat, a < H.size → ¬ A a → H1[a]? = H[a]?) : StA n f A U H1 := by
  obtain ⟨t, h1, h2⟩ := h
  exact ⟨t, h1.kept hq, h2.kept hq⟩
theorem KS.calling {G : GM} {U : State} (g : JFrame) (mk : MethodId) (a : Array Value) (h : KS G U U.heap) : KS G (U.calling g mk a) (U.calling g mk a).heap := by
  obtain ⟨h1, h2, h3, h4, h5, h6, h7, h8, h9⟩ := h
  have hv : U.vm.Alike (U.calling g mk a).vm := Vm.Alike.refl U.vm
  refine ⟨va_K.moved hv h1, fun w hw hn => ?_, h3.moved hv, h4.moved hv, h5.moved hv, h6.moved hv, h7.moved hv, fun q hq => ?_, fun q hq => (h9 q hq).moved hv⟩
  · cases w with
    | fieldLinkNest => exact va_Nw.same rfl (rfl : U.vm = (U.calling g mk a).vm) (h2 _ hw hn)
    | methodLinkNest => exact va_Nw.same rfl (rfl : U.vm = (U.calling g mk a).vm) (h2 _ hw hn)
    | castable => exact va_Nw.same rfl (rfl : U.vm = (U.calling g mk a).vm) (h2 _ hw hn)
    | declares => exact va_Nw.same rfl (rfl : U.vm = (U.calling g mk a).vm) (h2 _ hw hn)
    | _ => cases hn
  · obtain ⟨sa, hs⟩ := h8 q hq
    exact ⟨sa, vk_R.same (rfl : (U.calling g mk a).vm = U.vm) hs⟩
theorem KS.warm {G : GM} {s U : State} {H0 H : Heap} {locs : List Loc} (hW : s.WarmedH U.vm) (hS : va_S (A0 G) H0 H locs) (h : KS G s H0) : KS G U H := by
  obtain ⟨h1, h2, h3, h4, h5, h6, h7, h8, h9⟩ := h
  have hv := hW.alike
  have hq : ∀ a : Nat, a < H0.size → ¬ A0 G a → H[a]? = H0[a]? := hS.2.1
  refine ⟨va_K.moved hv h1, fun w hw hn => ?_, (h3.kept hq).moved hv, (h4.kept hq).moved hv, (h5.kept hq).moved hv, (h6.kept hq).moved hv, (h7.kept hq).moved hv, fun q hq => ?_, fun q hq => (h9 q hq).moved hv⟩
  · cases w with
    | fieldLinkNest => exact va_Nw.warmF hW (h2 _ hw hn)
    | methodLinkNest => exact va_Nw.warmM hW (h2 _ hw hn)
    | castable => exact va_Nw.warmC hW (h2 _ hw hn)
    | declares => exact va_Nw.warmD hW (h2 _ hw hn)
    | _ => cases hn
  · obtain ⟨sa, hs⟩ := h8 q hq
    exact ⟨sa, vk_R.warm hW hs⟩
def GG (G : GM) : Prop := (∀ k, k < 272 → g0 G ≤ gA G k) ∧ ∀ i j, i < 272 → j < 272 → gA G i = gA G j → i = j
theorem GG.D {G : GM} (h : GG G) (M : Mem) : va_D (A0 G) (wd G M) := by
  have hl : ∀ k q, (wd G M)[k]? = some q → k < 261 ∧ q.1 = gA G (iv_c k) := by
    intro k q hk
    have h1 : k < 261 := by
      have := (List.getElem?_eq_some_iff.mp hk).1
      simpa [wd] using this
    rw [wd_at h1] at hk
    cases hk
    exact ⟨h1, rfl⟩
  refine ⟨fun i j x y hi hj hxy => ?_, fun k q hk => ?_⟩
  · obtain ⟨a1, a2⟩ := hl i x hi
    obtain ⟨b1, b2⟩ := hl j y hj
    have e := h.2 (iv_c i) (iv_c j) (iv_lt a1) (iv_lt b1) (by rw [← a2, ← b2]; exact hxy)
    rw [← ix_iv (j := i), e, ix_iv]
  · obtain ⟨a1, a2⟩ := hl k q hk
    rw [a2]
    exact h.1 _ (iv_lt a1)
abbrev OC : Type := (Option Value ⊕ String) × Mem
def PcG (G : GM) (av : List Value) (M : Mem) : Array Value → State → Prop := va_Pc av (fun U => g0 G ≤ U.heap.size ∧ va_P (gD G) vwCl (wd G M) U.heap ∧ KS G U U.heap)
def QcR (G : GM) (v : Option Value) (M : Mem) : Array Value → State → Outcome → State → Prop := fun _ st oc t => (oc = .returned v ∧ va_P (gD G) vwCl (wd G M) t.heap) ∧ va_F (A0 G) st t
def QcF : Array Value → State → Outcome → State → Prop := fun _ _ _ _ => False
def XcT (G : GM) (E : String) (M : Mem) : String → State → State → Prop := fun E' st t => (E' = E ∧ va_P (gD G) vwCl (wd G M) t.heap) ∧ va_F (A0 G) st t
def XcF : String → State → State → Prop := fun _ _ _ => False
def QM (G : GM) (below : List Frame) (args : Array Value) (s : State) (o : OC) : State → Prop := match o with
  | (.inl v, M) => vx_MQ below (QcR G v M) XcF args s 0 0 (A0 G)
  | (.inr E, M) => vx_MQ below QcF (XcT G E M) args s 1 6 (A0 G)
def rmO (d : Nat) (o : OC) : Room := match o with
  | (.inl _, _) => { frames := d, cells := 0, slots := 0, locals := 64 * d }
  | (.inr _, _) => { frames := d, cells := 1, slots := 6, locals := 64 * d }
theorem rmO_f {d : Nat} {o : OC} : (rmO d o).frames = d := by
  obtain ⟨v | E, M⟩ := o <;> rfl
theorem rmO_l {d : Nat} {o : OC} : (rmO d o).locals = 64 * d := by
  obtain ⟨v | E, M⟩ := o <;> rfl
/-- the contract of a method, called with av in the memory M: its outcome is o -/
def Ctr (l : Launch) (G : GM) (y : MethodName) (ws : List Cond) (d : Nat) (av : List Value) (M : Mem) (o : OC) : Prop := match o with
  | (.inl v, M') => Met l y ws (rmO d o) (PcG G av M) (QcR G v M') 0 0 (A0 G)
  | (.inr E, M') => vx_Met l y ws (rmO d o) (PcG G av M) QcF (XcT G E M') 1 6 (A0 G)
