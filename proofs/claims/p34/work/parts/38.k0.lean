/-! ===== constructors: a block of new cells from the address a on ===== -/
def Bs (G : GM) (a n : Nat) (E : Nat → va_E) (H : Heap) : Prop := H.size = a + n ∧ ∀ j, j < n → va_at (gD G) vwCl (a + j, E j) H
def up9 (E : Nat → va_E) (k : Nat) (e : va_E) : Nat → va_E := fun j => if j = k then e else E j
def cat9 (E : Nat → va_E) (n : Nat) (E2 : Nat → va_E) : Nat → va_E := fun j => if j < n then E j else E2 (j - n)
abbrev Aa (a : Nat) : Nat → Prop := fun q => a ≤ q
theorem Bs.cell {G : GM} {a n : Nat} {E : Nat → va_E} {H : Heap} (h : Bs G a n E H) {j : Nat} {e : va_E} (hj : j < n) (he : E j = e) : va_at (gD G) vwCl (a + j, e) H := he ▸ h.2 j hj
theorem Bs.grow {G : GM} {a n : Nat} {E : Nat → va_E} {H H1 : Heap} {e : va_E} (h : Bs G a n E H) (hs : H1.size = H.size + 1) (ho : ∀ q : Nat, q < H.size → H1[q]? = H[q]?) (he : va_at (gD G) vwCl (a + n, e) H1) : Bs G a (n + 1) (up9 E n e) H1 := by
  refine ⟨by rw [hs, h.1]; rfl, fun j hj => ?_⟩
  unfold up9
  by_cases q : j = n
  · rw [if_pos q, q]; exact he
  · rw [if_neg q]
    exact va_at.kept (h.2 j (by omega)) (ho _ (by rw [h.1]; show a + j < a + n; omega))
theorem Bs.put {G : GM} {a n : Nat} {E : Nat → va_E} {H H1 : Heap} {j : Nat} {e : va_E} (h : Bs G a n E H) (hs : H1.size = H.size) (ho : ∀ q : Nat, q ≠ a + j → H1[q]? = H[q]?) (he : va_at (gD G) vwCl (a + j, e) H1) : Bs G a n (up9 E j e) H1 := by
  refine ⟨by rw [hs, h.1], fun i hi => ?_⟩
  unfold up9
  by_cases q : i = j
  · rw [if_pos q, q]; exact he
  · rw [if_neg q]
    exact va_at.kept (h.2 i hi) (ho _ (by show a + i ≠ a + j; omega))
theorem Bs.cat {G : GM} {a n k : Nat} {E E2 : Nat → va_E} {H H1 : Heap} (h : Bs G a n E H) (ho : ∀ q : Nat, q < a + n → H1[q]? = H[q]?) (h2 : Bs G (a + n) k E2 H1) : Bs G a (n + k) (cat9 E n E2) H1 := by
  refine ⟨by rw [h2.1]; omega, fun j hj => ?_⟩
  unfold cat9
  by_cases q : j < n
  · rw [if_pos q]
    exact va_at.kept (h.2 j q) (ho _ (by show a + j < a + n; omega))
  · rw [if_neg q]
    have := h2.2 (j - n) (by omega)
    rw [show a + n + (j - n) = a + j by omega] at this
    exact this
theorem Bs.to {G : GM} {a n : Nat} {E E2 : Nat → va_E} {H : Heap} (h : Bs G a n E H) (he : ∀ j, j < n → E j = E2 j) : Bs G a n E2 H := ⟨h.1, fun j hj => he j hj ▸ h.2 j hj⟩
theorem up9_eq {E : Nat → va_E} {k : Nat} {e : va_E} : up9 E k e k = e := if_pos rfl
theorem up9_ne {E : Nat → va_E} {k j : Nat} {e : va_E} (h : j ≠ k) : up9 E k e j = E j := if_neg h
theorem va_S.grow {A : Nat → Prop} {H0 H H1 : Heap} {locs : List Loc} (h : va_S A H0 H locs) (hs : H.size ≤ H1.size) (ho : ∀ q : Nat, q < H.size → H1[q]? = H[q]?) : va_S A H0 H1 locs := ⟨Nat.le_trans h.1 hs, fun q h1 h2 => (ho q (Nat.lt_of_lt_of_le h1 h.1)).trans (h.2.1 q h1 h2), h.2.2⟩
section RN
variable {G : GM} {p : Program} {l : Launch} {e : Env} {R : Room} {s : State} {m : MethodId} {args : Array Value} {below : List Frame} {meth : Method} {c : Code} {cc : ByteArray} {own : String} {nL : Nat} {ret : Option FieldType} {a9 n9 u9 w9 : Nat} {E9 : Nat → va_E} {Q : State → Prop}
/-- from here, with the block E9 of n9 cells, the machine comes to Q -/
def Rn (G : GM) (p : Program) (l : Launch) (e : Env) (R : Room) (s : State) (m : MethodId) (args : Array Value) (below : List Frame) (meth : Method) (c : Code) (nL a9 n9 : Nat) (E9 : Nat → va_E) (u9 w9 : Nat) (Q : State → Prop) (pc : Nat) (ls : List (Nat × Value)) (st : List Value) : Prop :=
  ∀ (H : Heap) (locs : List Loc) (la : Array Slot), Bs G a9 n9 E9 H → va_S (Aa a9) s.heap H locs → lv_has la nL ls →
    W p l e R s m args below meth c H locs u9 w9 Q (F0 m pc la st)
variable {pc : Nat} {ls : List (Nat × Value)} {st : List Value}
theorem n_to {E2 : Nat → va_E} (he : ∀ j, j < n9 → E9 j = E2 j) (K : Rn G p l e R s m args below meth c nL a9 n9 E2 u9 w9 Q pc ls st) : Rn G p l e R s m args below meth c nL a9 n9 E9 u9 w9 Q pc ls st := fun H locs la hB hS hl => K H locs la (hB.to he) hS hl
theorem n_iconst (F : Fy G p l s m args meth c cc own nL ret) {n : Int} {v : Int32} (hd : decode cc pc = .ok (.iconst n, 1)) (hv : Int32.ofInt n = v) (K : Rn G p l e R s m args below meth c nL a9 n9 E9 u9 w9 Q (pc + 1) ls (.int v :: st)) : Rn G p l e R s m args below meth c nL a9 n9 E9 u9 w9 Q pc ls (st) :=
  fun H locs la hB hS hl => lv_iconst F.x F.b hd hv (K H locs la hB hS hl)
theorem n_bipush (F : Fy G p l s m args meth c cc own nL ret) {n : Int} {v : Int32} (hd : decode cc pc = .ok (.bipush n, 2)) (hv : (Int8.ofInt n).toInt32 = v) (K : Rn G p l e R s m args below meth c nL a9 n9 E9 u9 w9 Q (pc + 2) ls (.int v :: st)) : Rn G p l e R s m args below meth c nL a9 n9 E9 u9 w9 Q pc ls (st) :=
  fun H locs la hB hS hl => lv_bipush F.x F.b hd hv (K H locs la hB hS hl)
theorem n_sipush (F : Fy G p l s m args meth c cc own nL ret) {n : Int} {v : Int32} (hd : decode cc pc = .ok (.sipush n, 3)) (hv : (Int16.ofInt n).toInt32 = v) (K : Rn G p l e R s m args below meth c nL a9 n9 E9 u9 w9 Q (pc + 3) ls (.int v :: st)) : Rn G p l e R s m args below meth c nL a9 n9 E9 u9 w9 Q pc ls (st) :=
  fun H locs la hB hS hl => lv_sipush F.x F.b hd hv (K H locs la hB hS hl)
theorem n_iload_n (F : Fy G p l s m args meth c cc own nL ret) {k : Fin 4} {i : Nat} {x : Int32} (j : Nat) (hd : decode cc pc = .ok (.iload_n k, 1)) (hi : (k : Nat) = i) (hj : ls[j]? = some (i, .int x)) (K : Rn G p l e R s m args below meth c nL a9 n9 E9 u9 w9 Q (pc + 1) ls (.int x :: st)) : Rn G p l e R s m args below meth c nL a9 n9 E9 u9 w9 Q pc ls (st) :=
  fun H locs la hB hS hl => lv_iload_n F.x F.b hd hi (lv_at hl j hj) (K H locs la hB hS hl)
theorem n_aload_n (F : Fy G p l s m args meth c cc own nL ret) {k : Fin 4} {i a : Nat} (j : Nat) (hd : decode cc pc = .ok (.aload_n k, 1)) (hi : (k : Nat) = i) (hj : ls[j]? = some (i, .ref a)) (K : Rn G p l e R s m args below meth c nL a9 n9 E9 u9 w9 Q (pc + 1) ls (.ref a :: st)) : Rn G p l e R s m args below meth c nL a9 n9 E9 u9 w9 Q pc ls (st) :=
  fun H locs la hB hS hl => lv_aload_n F.x F.b hd hi (lv_at hl j hj) (K H locs la hB hS hl)
theorem n_aload (F : Fy G p l s m args meth c cc own nL ret) {i a : Nat} (j : Nat) (hd : decode cc pc = .ok (.aload i, 2)) (hj : ls[j]? = some (i, .ref a)) (K : Rn G p l e R s m args below meth c nL a9 n9 E9 u9 w9 Q (pc + 2) ls (.ref a :: st)) : Rn G p l e R s m args below meth c nL a9 n9 E9 u9 w9 Q pc ls (st) :=
  fun H locs la hB hS hl => lv_aload F.x F.b hd (lv_at hl j hj) (K H locs la hB hS hl)
theorem n_istore_n (F : Fy G p l s m args meth c cc own nL ret) {k : Fin 4} {i : Nat} {x : Int32} {ls' : List (Nat × Value)} (hd : decode cc pc = .ok (.istore_n k, 1)) (hi : (k : Nat) = i) (hn : i < nL) (hl' : (i, Value.int x) :: ls.filter (fun q => !(q.1 == i) && !(q.1 + 1 == i && q.2.category == 2)) = ls') (K : Rn G p l e R s m args below meth c nL a9 n9 E9 u9 w9 Q (pc + 1) ls' st) : Rn G p l e R s m args below meth c nL a9 n9 E9 u9 w9 Q pc ls (.int x :: st) :=
  fun H locs la hB hS hl => lv_istore_n F.x F.b hd hi hl hn hl' (fun la hl => K H locs la hB hS hl)
theorem n_istore (F : Fy G p l s m args meth c cc own nL ret) {i : Nat} {x : Int32} {ls' : List (Nat × Value)} (hd : decode cc pc = .ok (.istore i, 2)) (hn : i < nL) (hl' : (i, Value.int x) :: ls.filter (fun q => !(q.1 == i) && !(q.1 + 1 == i && q.2.category == 2)) = ls') (K : Rn G p l e R s m args below meth c nL a9 n9 E9 u9 w9 Q (pc + 2) ls' st) : Rn G p l e R s m args below meth c nL a9 n9 E9 u9 w9 Q pc ls (.int x :: st) :=
  fun H locs la hB hS hl => lv_istore F.x F.b hd hl hn hl' (fun la hl => K H locs la hB hS hl)
theorem n_astore_n (F : Fy G p l s m args meth c cc own nL ret) {k : Fin 4} {i a : Nat} {ls' : List (Nat × Value)} (hd : decode cc pc = .ok (.astore_n k, 1)) (hi : (k : Nat) = i) (hn : i < nL) (hl' : (i, Value.ref a) :: ls.filter (fun q => !(q.1 == i) && !(q.1 + 1 == i && q.2.category == 2)) = ls') (K : Rn G p l e R s m args below meth c nL a9 n9 E9 u9 w9 Q (pc + 1) ls' st) : Rn G p l e R s m args below meth c nL a9 n9 E9 u9 w9 Q pc ls (.ref a :: st) :=
  fun H locs la hB hS hl => lv_astore_n F.x F.b hd hi hl hn hl' (fun la hl => K H locs la hB hS hl)
theorem n_dup (F : Fy G p l s m args meth c cc own nL ret) {va : Value} (hd : decode cc pc = .ok (.dup, 1)) (hva : va.category = 1) (K : Rn G p l e R s m args below meth c nL a9 n9 E9 u9 w9 Q (pc + 1) ls (va :: va :: st)) : Rn G p l e R s m args below meth c nL a9 n9 E9 u9 w9 Q pc ls (va :: st) :=
  fun H locs la hB hS hl => lv_dup F.x F.b hd hva (K H locs la hB hS hl)
theorem n_goto (F : Fy G p l s m args meth c cc own nL ret) {off : Int} {tgt : Nat} (hd : decode cc pc = .ok (.goto off, 3)) (ht : (pc : Int) + off = (tgt : Int)) (K : Rn G p l e R s m args below meth c nL a9 n9 E9 u9 w9 Q tgt ls st) : Rn G p l e R s m args below meth c nL a9 n9 E9 u9 w9 Q pc ls st :=
  fun H locs la hB hS hl => lv_goto F.x F.b hd ht (K H locs la hB hS hl)
theorem n_iinc (F : Fy G p l s m args meth c cc own nL ret) {i k : Nat} {n : Int} {x v : Int32} {ls' : List (Nat × Value)} (hd : decode cc pc = .ok (.iinc i n, 3)) (hk : ls[k]? = some (i, .int x)) (hv : x + Int32.ofInt n = v) (hn : i < nL) (hl' : (i, Value.int v) :: ls.filter (fun q => !(q.1 == i) && !(q.1 + 1 == i && q.2.category == 2)) = ls') (K : Rn G p l e R s m args below meth c nL a9 n9 E9 u9 w9 Q (pc + 3) ls' st) : Rn G p l e R s m args below meth c nL a9 n9 E9 u9 w9 Q pc ls st :=
  fun H locs la hB hS hl => lv_iinc F.x F.b hd hl hk hv hn hl' (fun la hl => K H locs la hB hS hl)
theorem n_icmp_geT (F : Fy G p l s m args meth c cc own nL ret) {x y : Int32} {off : Int} {tgt : Nat} (hd : decode cc pc = .ok (.if_icmp .ge off, 3)) (ht : (pc : Int) + off = (tgt : Int)) (h : y ≤ x) (K : Rn G p l e R s m args below meth c nL a9 n9 E9 u9 w9 Q tgt ls st) : Rn G p l e R s m args below meth c nL a9 n9 E9 u9 w9 Q pc ls (.int y :: .int x :: st) :=
  fun H locs la hB hS hl => lv_icmp_ge F.x F.b hd ht (fun _ => K H locs la hB hS hl) (fun q => absurd h q)
theorem n_icmp_geF (F : Fy G p l s m args meth c cc own nL ret) {x y : Int32} {off : Int} {tgt : Nat} (hd : decode cc pc = .ok (.if_icmp .ge off, 3)) (ht : (pc : Int) + off = (tgt : Int)) (h : ¬ y ≤ x) (K : Rn G p l e R s m args below meth c nL a9 n9 E9 u9 w9 Q (pc + 3) ls st) : Rn G p l e R s m args below meth c nL a9 n9 E9 u9 w9 Q pc ls (.int y :: .int x :: st) :=
  fun H locs la hB hS hl => lv_icmp_ge F.x F.b hd ht (fun q => absurd q h) (fun _ => K H locs la hB hS hl)
/-- newarray int -/
theorem n_newi (F : Fy G p l s m args meth c cc own nL ret) {v : Int32} {N : Nat} (hd : decode cc pc = .ok (.newarray .int, 2)) (hn : ¬ v < 0) (hN : v.toNatClampNeg = N) (hb : N * 4 ≤ 536870912) (hu : u9 + 1 ≤ R.cells ∧ w9 + N ≤ R.slots)
    (K : Rn G p l e R s m args below meth c nL a9 (n9 + 1) (up9 E9 n9 (.inl (gC G 0, N, .inl (fun _ => 0)))) (u9 + 1) (w9 + N) Q (pc + 2) ls (.ref (a9 + n9) :: st)) : Rn G p l e R s m args below meth c nL a9 n9 E9 u9 w9 Q pc ls (.int v :: st) := by
  intro H locs la hB hS hl
  refine va_newaK F.x F.b (F.ws _ ac_75) (atype := .int) rfl hd rfl hn hN hb hu.1 hu.2 hB.1 (fun H' cA e1 z1 o1 hAr hNm => ?_)
  have hcA : cA = gC G 0 := Option.some.inj (hNm.symm.trans (F.K.2 0 _ rfl).2)
  subst hcA
  exact K H' locs la (hB.grow (by rw [z1, hB.1]) (fun q hq => o1 q (by rw [← hB.1]; exact hq)) e1) (hS.grow (by rw [z1, hB.1]; exact Nat.le_succ _) (fun q hq => o1 q (by rw [← hB.1]; exact hq))) hl
/-- anewarray of Towns, of Lands -/
theorem n_anew (F : Fy G p l s m args meth c cc own nL ret) {v : Int32} {N ix t0 : Nat} {C : String} (hd : decode cc pc = .ok (.anewarray ix, 3)) (hcl : Cond.classLink own ix C ∈ wsA) (hao : va_AO C s) (ht : (tysG G)[t0]? = some (gC G t0, .object C)) (hn : ¬ v < 0) (hN : v.toNatClampNeg = N) (hb : N * 4 ≤ 536870912) (hu : u9 + 1 ≤ R.cells ∧ w9 + N ≤ R.slots)
    (K : Rn G p l e R s m args below meth c nL a9 (n9 + 1) (up9 E9 n9 (.inl (gC G t0, N, .inr (.inr (.inr (.inr (fun _ => none))))))) (u9 + 1) (w9 + N) Q (pc + 3) ls (.ref (a9 + n9) :: st)) : Rn G p l e R s m args below meth c nL a9 n9 E9 u9 w9 Q pc ls (.int v :: st) := by
  subst hN
  intro H locs la hB hS hl
  refine W.anew F.x F.b F.ow (F.ws _ hcl) (va_AO.use hao) rfl hd rfl hn hb hu.1 hu.2 fun cA kA comp f1 f2 f3 f4 => ?_
  obtain ⟨-, kA', comp', -, -, -, g4⟩ := F.K.2 t0 _ ht
  have hcA : cA = gC G t0 := Option.some.inj (f1.symm.trans g4)
  subst hcA
  generalize hH1 : H.push ({ cls := gC G t0, slots := Array.replicate v.toNatClampNeg .null, vm := .none } : Cell) = H1
  have z1 : H1.size = H.size + 1 := by rw [← hH1, Array.size_push]
  have e1 : H1[H.size]? = some (arrV (gC G t0) v.toNatClampNeg (fun _ => .null)) := by rw [← hH1, Array.getElem?_push_size, ← arrV_new]
  have o1 : ∀ q : Nat, q < H.size → H1[q]? = H[q]? := fun q hq => by rw [← hH1, Array.getElem?_push, if_neg (Nat.ne_of_lt hq)]
  have K1 := K H1 locs la (hB.grow z1 o1 (by rw [hB.1] at e1; exact e1)) (hS.grow (by rw [z1]; exact Nat.le_succ _) o1) hl
  rw [← hB.1] at K1
  exact K1
/-- multianewarray of ints, N rows of K' -/
theorem n_mna (F : Fy G p l s m args meth c cc own nL ret) {v w : Int32} {N K' ix : Nat} (hd : decode cc pc = .ok (.multianewarray ix 2, 4)) (hcl : Cond.classLink own ix "[[I" ∈ wsA) (hao : va_AOA .int s) (hn : ¬ v < 0) (hw : ¬ w < 0) (hN : v.toNatClampNeg = N) (hK : w.toNatClampNeg = K') (hb : N * 4 ≤ 536870912) (hb2 : K' * 4 ≤ 536870912) (hu : u9 + (1 + N) ≤ R.cells ∧ w9 + (N + N * K') ≤ R.slots)
    (K : Rn G p l e R s m args below meth c nL a9 (n9 + (1 + N)) (cat9 E9 n9 (fun j => if j = 0 then .inl (gC G 3, N, .inr (.inr (.inr (.inr (fun i => if i < N then some (a9 + n9 + 1 + i) else none))))) else .inl (gC G 0, K', .inl (fun _ => 0)))) (u9 + 1 + N) (w9 + N + N * K') Q (pc + 4) ls (.ref (a9 + n9) :: st)) : Rn G p l e R s m args below meth c nL a9 n9 E9 u9 w9 Q pc ls (.int w :: .int v :: st) := by
  subst hN
  subst hK
  intro H locs la hB hS hl T hT Xs
  obtain ⟨vm₁, cA, comp, -, fA, fC, hO, -, X', step⟩ := Xs.multianewarray2F F.x F.ow (ty := .int) (F.ws _ hcl) (va_AOA.use hao) (F.ws _ ac_75) (g := F0 m pc la (.int w :: .int v :: st)) rfl (by rw [F.b]; exact hd) rfl hn hw hb hb2 (by omega) rfl rfl hu.1 hu.2
  have hcA : cA = gC G 3 := Option.some.inj (fA.symm.trans (F.K.2 3 _ rfl).2)
  have hcm : comp = gC G 0 := Option.some.inj (fC.symm.trans (F.K.2 0 _ rfl).2)
  subst hcA
  subst hcm
  generalize hF : Jvm.Free.Multi.fill (T.setVm vm₁) (gC G 3) (gC G 0) v.toNatClampNeg w.toNatClampNeg (defaultValue .int) v.toNatClampNeg = F9 at X' step
  have hTh : (T.setVm vm₁).heap = H := hT
  obtain ⟨f1, f2, -, -⟩ := Jvm.Free.Multi.fill_facts (T.setVm vm₁) (gC G 3) (gC G 0) v.toNatClampNeg w.toNatClampNeg (defaultValue .int) v.toNatClampNeg
  rw [hF, hTh] at f1 f2
  have hold : ∀ x : Nat, x < H.size → F9.heap[x]? = H[x]? := fun x hx => by
    have := Jvm.Free.Multi.fill_old (T.setVm vm₁) (gC G 3) (gC G 0) v.toNatClampNeg w.toNatClampNeg (defaultValue .int) (a := x) (by rw [hTh]; exact hx) v.toNatClampNeg
    rw [hF, hTh] at this
    exact this
  have hrow : ∀ j : Nat, j < v.toNatClampNeg → F9.heap[H.size + 1 + j]? = some (vp_cell (gC G 0) (w.toNatClampNeg, .inl (fun _ => 0))) := fun j hj => by
    have := Jvm.Free.Multi.fill_inner (T.setVm vm₁) (gC G 3) (gC G 0) v.toNatClampNeg w.toNatClampNeg (defaultValue .int) v.toNatClampNeg j hj
    rw [hF, hTh] at this
    rw [this]
    exact congrArg some (arrV_new (gC G 0) w.toNatClampNeg (.int 0))
  have hout : Jvm.Free.Multi.outerC (gC G 3) v.toNatClampNeg H.size v.toNatClampNeg = vp_cell (gC G 3) (v.toNatClampNeg, .inr (.inr (.inr (.inr (fun i => if i < v.toNatClampNeg then some (H.size + 1 + i) else none))))) := by
    rw [vp_cell_q]
    exact vr_outer (gC G 3) v.toNatClampNeg H.size v.toNatClampNeg
  rw [hout] at f2
  have hTs : T.heap.size = a9 + n9 := by rw [hT]; exact hB.1
  have hB2 : Bs G a9 (n9 + (1 + v.toNatClampNeg)) (cat9 E9 n9 (fun j => if j = 0 then .inl (gC G 3, v.toNatClampNeg, .inr (.inr (.inr (.inr (fun i => if i < v.toNatClampNeg then some (a9 + n9 + 1 + i) else none))))) else .inl (gC G 0, w.toNatClampNeg, .inl (fun _ => 0)))) F9.heap := by
    rw [hB.1] at f1 f2 hrow
    refine hB.cat (fun q hq => hold q (by rw [hB.1]; exact hq)) ⟨by rw [f1]; omega, fun j hj => ?_⟩
    dsimp only
    by_cases q : j = 0
    · rw [if_pos q, q]; exact f2
    · rw [if_neg q]
      have := hrow (j - 1) (by omega)
      rw [show a9 + n9 + 1 + (j - 1) = a9 + n9 + j by omega] at this
      exact this
  obtain ⟨t, a1, b1⟩ := K F9.heap locs la hB2 (hS.grow (by rw [f1]; omega) hold) hl F9 rfl X'
  refine ⟨t, step t ?_, b1⟩
  rw [hTs]
  exact a1
/-- new C -/
theorem n_new {ci N ix : Nat} {C : String} {T : u_T} {fs : List Value} (F : Fy G p l s m args meth c cc own nL ret) (ty : Nat → FieldType) (hin : ∀ w ∈ u_ws C T N, w ∈ wsA) (hty : ∀ k, k < N → parseFieldDescriptor (T k).2.2.1 = some (ty k)) (hcl : Cond.classLink own ix C ∈ wsA) (hinst : Cond.instantiable C N ∈ wsA) (hini : Cond.initialized C ∈ wsA) (hc : vwCl[ci]? = some (C, T, N)) (hfs : ∀ j, j < N → defaultValue (ty j) = vp_V fs j) (hd : decode cc pc = .ok (.new ix, 3)) (hu : u9 + 1 ≤ R.cells ∧ w9 + N ≤ R.slots)
    (K : Rn G p l e R s m args below meth c nL a9 (n9 + 1) (up9 E9 n9 (.inr (ci, fs))) (u9 + 1) (w9 + N) Q (pc + 3) ls (.ref (a9 + n9) :: st)) : Rn G p l e R s m args below meth c nL a9 n9 E9 u9 w9 Q pc ls st := by
  intro H locs la hB hS hl
  have hKn := F.K.1 ci _ hc
  refine W.newcK F.x F.b F.ow (F.ws _ hcl) (F.ws _ hinst) (F.ws _ hini) rfl hd hu.1 hu.2 hKn.2.1 hB.1 fun H1 kC hkC e1 z1 o1 => ?_
  exact K H1 locs la (hB.grow (by rw [z1, hB.1]) (fun q hq => o1 q (by rw [← hB.1]; exact hq)) ⟨_, hc, (u_born ty F.ws hin hKn hkC e1 hty).to hfs⟩) (hS.grow (by rw [z1, hB.1]; exact Nat.le_succ _) (fun q hq => o1 q (by rw [← hB.1]; exact hq))) hl
/-- putfield of a final reference field, on the block's cell j -/
theorem n_putF {ci N ix : Nat} {C : String} {T : u_T} {fs : List Value} (F : Fy G p l s m args meth c cc own nL ret) (ty0 : Nat → FieldType) (hin : ∀ w ∈ u_ws C T N, w ∈ wsA) (hty : ∀ k, k < N → parseFieldDescriptor (T k).2.2.1 = some (ty0 k)) (hnm : ∀ a, a < N → ∀ b, b < N → a ≠ b → (T a).2.1 ≠ (T b).2.1) (hc : vwCl[ci]? = some (C, T, N)) (j : Nat) (hj : j < n9) (he : E9 j = .inr (ci, fs)) (k : Nat) (hk : k < N) (hlink : Cond.fieldLink own ix C (T k).2.1 (T k).2.2.1 ∈ wsA) (hown : (T k).1 = own) (hTC : (T k).1 = C) (hfin : (T k).2.2.2 = true) (hin2 : meth.name = "<init>") {ty : FieldType} {q9 : Nat} (hd : parseFieldDescriptor (T k).2.2.1 = some ty) (hn : narrow ty (.ref q9) = .ref q9) (hfit : fits ty (.ref q9) = true) (hl9 : k < fs.length) (hdg : decode cc pc = .ok (.putfield ix, 3))
    (K : Rn G p l e R s m args below meth c nL a9 n9 (up9 E9 j (.inr (ci, fs.set k (.ref q9)))) u9 w9 Q (pc + 3) ls st) : Rn G p l e R s m args below meth c nL a9 n9 E9 u9 w9 Q pc ls (.ref q9 :: .ref (a9 + j) :: st) := by
  intro H locs la hB hS hl
  have hap := va_apart (own := own) F.ws hin ty0 hty hnm F.K hc
  obtain ⟨r, h1, cell, q1, q2, q3, q4⟩ := hB.cell hj he
  have hr : r = (C, T, N) := Option.some.inj (h1.symm.trans hc)
  subst hr
  obtain ⟨hS9, hfc, kC, hkC, hkind⟩ := F.K.1 ci _ hc
  obtain ⟨cf, kf, fi, f, hi, hsl⟩ := hS9 k hk
  have hlay := F.ws _ (hin _ (u_in_lay hk))
  unfold u_lay at hlay
  rw [if_pos hfin] at hlay
  have hst := (u_facts hfc hkC (u_lays F.ws hin hk) hi).1
  have hcf : m.cls = cf := by
    obtain ⟨_, _, c', _, _, _, -, -, hf', -, -, -, hown2, -⟩ := Cond.laysFinal_spec hlay
    have e1 : c' = cf := by have := hi.symm.trans hf'; simp at this; exact this.1.symm
    rw [hown] at hown2
    rw [← e1]; exact Option.some.inj (F.ow.symm.trans hown2)
  have h6 := u_fits hfc hkC hkind (Or.inr hlay) hi hd hn hfit
  have hi' : s.fieldFound? C (T k).2.1 (T k).2.2.1 = some (cf, kf, fi, f) := by rw [← hTC]; exact hi
  refine W.putFinK F.x F.b F.ow (F.ws _ hlink) hi' hst hcf hin2 (by rw [q2]; exact h6) q1 q3 (by rw [hsl]; exact k2_hasslot (q4 k hk)) rfl rfl hdg fun H' e1 e2 e3 => ?_
  rw [hsl] at e1 ⊢
  exact K H' _ la (hB.put e2 e3 ⟨_, hc, t_OB.to (V := updV (vp_V fs) k (.ref q9)) ⟨_, e1, q2, q3, t_set q4 hap hk (.ref q9)⟩ (fun i _ => vp_updV_set hl9 (.ref q9) i)⟩) (hS.put e2 e3 (Nat.le_add_right _ _)) hl
/-- getfield of the block's cell j -/
theorem n_get {ci N ix : Nat} {C : String} {T : u_T} {fs : List Value} {v : Value} (F : Fy G p l s m args meth c cc own nL ret) (hin : ∀ w ∈ u_ws C T N, w ∈ wsA) (hc : vwCl[ci]? = some (C, T, N)) (j : Nat) (hj : j < n9) (he : E9 j = .inr (ci, fs)) (k : Nat) (hk : k < N) (hlink : Cond.fieldLink own ix C (T k).2.1 (T k).2.2.1 ∈ wsA) (hTC : (T k).1 = C) (hv : fs[k]? = some v) (hdg : decode cc pc = .ok (.getfield ix, 3))
    (K : Rn G p l e R s m args below meth c nL a9 n9 E9 u9 w9 Q (pc + 3) ls (v :: st)) : Rn G p l e R s m args below meth c nL a9 n9 E9 u9 w9 Q pc ls (.ref (a9 + j) :: st) :=
  fun H locs la hB hS hl => va_get (ws := [(a9 + j, .inr (ci, fs))]) F.x F.b F.ws hin F.ow F.K (fun k9 q hq => by
    have h0 : k9 < 1 := (List.getElem?_eq_some_iff.mp hq).1
    rw [show k9 = 0 by omega] at hq
    cases hq
    exact hB.cell hj he) 0 rfl hc k hk (F.ws _ hlink) (fun x h => by rw [← hTC]; exact h) hv hdg (K H locs la hB hS hl)
/-- Object's own constructor -/
theorem n_obj (F : Fy G p l s m args meth c cc own nL ret) {ix : Nat} {q9 : Nat} (hl : Cond.methodLink own ix Lib.objectInit ∈ wsA) (hd : decode cc pc = .ok (.invokespecial ix, 3)) (hR : 1 ≤ R.frames ∧ (st.map fun v => v.category).sum + 12 ≤ R.locals)
    (K : Rn G p l e R s m args below meth c nL a9 n9 E9 u9 w9 Q (pc + 3) ls st) : Rn G p l e R s m args below meth c nL a9 n9 E9 u9 w9 Q pc ls (.ref q9 :: st) :=
  fun H locs la hB hS hla => W.objInit F.x F.b F.ow (F.ws _ hl) (F.ws _ im_init) (F.ws _ cd_objinit) rfl (hla.1.trans F.ml.symm) rfl hd hR.1 (by show 2 * 0 + _ + 12 ≤ _; rw [Nat.mul_zero, Nat.zero_add]; exact hR.2) (K H locs la hB hS hla)
/-- an int into the block's int[] -/
theorem n_iast (F : Fy G p l s m args meth c cc own nL ret) {i v : Int32} {N : Nat} {f : Nat → Int32} (hdg : decode cc pc = .ok (.iastore, 1)) (j : Nat) (hj : j < n9) (he : E9 j = .inl (gC G 0, N, .inl f)) (hi : inb i N = true)
    (K : Rn G p l e R s m args below meth c nL a9 n9 (up9 E9 j (.inl (gC G 0, N, .inl (upd f i.toNatClampNeg v)))) u9 w9 Q (pc + 1) ls st) : Rn G p l e R s m args below meth c nL a9 n9 E9 u9 w9 Q pc ls (.int v :: .int i :: .ref (a9 + j) :: st) := by
  intro H locs la hB hS hl
  have hin := inb_in hi
  have hlt := inb_lt hi
  have hcell : H[a9 + j]? = some (arrV (gC G 0) N (fun q => .int (f q))) := hB.cell hj he
  have ha : a9 + j < H.size := (Array.getElem?_eq_some_iff.mp hcell).1
  refine W.iast F.x F.b hcell ((F.K.2 0 _ rfl).1 N _) (fun q => by cases q) (by show ¬ (i < 0 ∨ (arrV _ _ _).slots.size ≤ _); rw [arrV_size]; exact hin) rfl rfl hdg fun H1 e1 z1 o1 => ?_
  refine K H1 _ la (hB.put z1 o1 ?_) (hS.put z1 o1 (Nat.le_add_right _ _)) hl
  show H1[a9 + j]? = some (vp_cell _ _)
  rw [e1, vp_cell_i, arrV_store]
  congr 2
  funext q
  by_cases hq : q = i.toNatClampNeg
  · subst hq
    simp [updV, upd]
  · simp [updV, upd, hq]
/-- an object of the block into the block's array of references -/
theorem n_aast (F : Fy G p l s m args meth c cc own nL ret) {t0 ci N : Nat} {i : Int32} {f : Nat → Option Nat} {vs : List Value} {r : vw_C} (hdg : decode cc pc = .ok (.aastore, 1)) (j : Nat) (hj : j < n9) (he : E9 j = .inl (gC G t0, N, .inr (.inr (.inr (.inr f))))) (ht : (tysG G)[t0]? = some (gC G t0, .object r.1)) (jv : Nat) (hjv : jv < n9) (hev : E9 jv = .inr (ci, vs)) (hc : vwCl[ci]? = some r) (hi : inb i N = true)
    (K : Rn G p l e R s m args below meth c nL a9 n9 (up9 E9 j (.inl (gC G t0, N, .inr (.inr (.inr (.inr (va_up f i.toNatClampNeg (some (a9 + jv))))))))) u9 w9 Q (pc + 1) ls st) : Rn G p l e R s m args below meth c nL a9 n9 E9 u9 w9 Q pc ls (.ref (a9 + jv) :: .int i :: .ref (a9 + j) :: st) := by
  intro H locs la hB hS hl
  have hin := inb_in hi
  have hlt := inb_lt hi
  have h0 : ¬ i < 0 := fun q => hin (Or.inl q)
  have hcell : H[a9 + j]? = some (arrV (gC G t0) N (fun q => va_rf (f q))) := hB.cell hj he
  obtain ⟨r', hr', cellV, g1, g2, g3, -⟩ := hB.cell hjv hev
  have hcls := (F.K.1 ci r hc).2
  obtain ⟨kA, comp, k1, k2, k3, -⟩ := (F.K.2 t0 _ ht).2
  have hcomp : comp = (gD G).1 ci := Option.some.inj (k3.symm.trans hcls.1)
  subst hcomp
  obtain ⟨kC, hkC, -⟩ := hcls.2
  refine W.aast F.x F.b hcell (fun q h => by cases h) (fun h => by cases h) k1 k2 rfl hkC ⟨h0, by show _ < (arrV _ _ _).slots.size; rw [arrV_size]; exact hlt⟩ g1 (fun q h => by rw [g3] at h; cases h) (by rw [g2]; exact hkC) (by rw [g2]; exact va_assign hcls) rfl rfl hdg fun H1 e1 z1 o1 => ?_
  refine K H1 _ la (hB.put z1 o1 ?_) (hS.put z1 o1 (Nat.le_add_right _ _)) hl
  show H1[a9 + j]? = some (vp_cell _ _)
  rw [e1, vp_cell_q, arrV_store]
  congr 2
  funext q
  by_cases hq : q = i.toNatClampNeg
  · subst hq
    simp [updV, va_up, va_rf]
  · simp [updV, va_up, hq]
-- ===== what the constructors ask of the tables =====
theorem AOA_moved {u U : State} (hvm : u.vm.Alike U.vm) (h : va_AOA .int u) : va_AOA .int U := by
  obtain ⟨comp, c, k, h1, h2, h3, h4, h5⟩ := arrayOverA_spec h
  obtain ⟨k', hk', he⟩ := hvm.2.2 _ _ h3
  have e1 := va_idx_bare U.vm comp
  have e2 := va_idx_bare u.vm comp
  have e3 : u.vm.bare = U.vm.bare := by first | exact hvm.bare_eq | exact hvm.bare_eq.symm
  rw [e3] at e2
  have hi := (e1.symm.trans e2).trans h2
  have hkind : k'.kind = .array comp (.array .int) := by rw [he]; exact h4
  have f1 : U.vm.findClass (FieldType.array .int).toString = some comp := by rw [hvm.findClass]; exact h1
  have f2 : U.vm.findClass ("[" ++ (FieldType.array .int).toString) = some c := by rw [hvm.findClass]; exact h5
  unfold va_AOA Cond.before Cond.holds
  simp only [Cond.value]
  rw [f1, Option.bind_some]
  refine (congrArg (fun o : Option Nat => (o.bind (fun c => (U.vm.classes[c]?).map fun (k : Class) => match k.kind with | .array _ ty => decide (ty = FieldType.array .int) && decide (U.vm.findClass ("[" ++ (FieldType.array .int).toString) = some c) | _ => false) == some true)) hi).trans ?_
  simp [hk', hkind, f2]
def NA (U : State) : Prop := va_AO "DrumTowns$Town" U ∧ va_AO "DrumTowns$Land" U ∧ va_AOA .int U
theorem NA.moved {u U : State} (hvm : u.vm.Alike U.vm) (h : NA u) : NA U := ⟨h.1.moved hvm, h.2.1.moved hvm, AOA_moved hvm h.2.2⟩
/-- a constructor's start on the object e0 at a; its end with the block E of n cells -/
def PcN (G : GM) (a : Nat) (e0 : va_E) : Array Value → State → Prop := fun v U => v = ([Value.ref a] : List Value).toArray ∧ Bs G a 1 (fun _ => e0) U.heap ∧ g0 G ≤ a ∧ KS G U U.heap ∧ NA U
def QcN (G : GM) (a n : Nat) (E : Nat → va_E) : Array Value → State → Outcome → State → Prop := fun _ st oc t => (oc = .returned none ∧ Bs G a n E t.heap) ∧ va_F (Aa a) st t
theorem PcN_blind {a : Nat} {e0 : va_E} : FrameBlind (PcN G a e0) := fun a U g mk q => ⟨q.1, q.2.1, q.2.2.1, q.2.2.2.1.calling g mk a, q.2.2.2.2.moved (Vm.Alike.refl U.vm)⟩
def rmN (d mc ms : Nat) : Room := { frames := d, cells := mc, slots := ms, locals := 64 * d }
/-- a constructor's contract -/
abbrev CtrN (l : Launch) (G : GM) (y : MethodName) (cc : ByteArray) (nL d a : Nat) (e0 : va_E) (n : Nat) (E : Nat → va_E) (mc ms : Nat) : Prop := Met l y (.code y cc nL none :: wsA) (rmN d mc ms) (PcN G a e0) (QcN G a n E) mc ms (Aa a)
theorem met_N {l : Launch} {G : GM} {y : MethodName} {cc : ByteArray} {nL d a n mc ms : Nat} {e0 : va_E} {E : Nat → va_E} (hy : plainName y.cls = true) (hnm : y.name = "<init>") (hl : l.stackTraces = false) (hG : GG G) (hn : 1 ≤ nL)
    (body : ∀ (p : Program) (e : Env) (s : State) (m : MethodId) (args : Array Value) (below : List Frame) (meth : Method) (c : Code), Fy G p l s m args meth c cc y.cls nL none → meth.name = "<init>" → NA s → g0 G ≤ a → s.heap.size = a + 1 →
      Rn G p l e (rmN d mc ms) s m args below meth c nL a 1 (fun _ => e0) 0 0 (MQ below (QcN G a n E) args s mc ms (Aa a)) 0 [(0, .ref a)] []) : CtrN l G y cc nL d a e0 n E mc ms := by
  refine Met.ofW (cc := cc) (maxL := nL) (ret := none) hy rfl (fun p e s m args below meth c s₁ B hml hv => ?_)
  obtain ⟨rfl, hB, h0, hK, hN⟩ := hv
  have F : Fy G p l s m ([Value.ref a] : List Value).toArray meth c cc y.cls nL none := ⟨B.exec, B.bytes, B.returns, hml, findClass_of_methodNamed B.named, fun w hw => atoms_spec (ws := .code y cc nL none :: wsA) B.pre w (List.mem_cons_of_mem _ hw), B.notSynchronized, hK, by rw [hB.1]; exact Nat.le_trans h0 (Nat.le_succ _), hG, hl⟩
  have K := body p e s m ([Value.ref a] : List Value).toArray below meth c F ((name_of_methodNamed B.named B.method).1.trans hnm) hN h0 hB.1 s.heap [] _ hB va_S.rf (lv_entry [.ref a] (n := nL) hn)
  rw [lg_entry_eq]
  exact K
theorem n_ret (F : Fy G p l s m args meth c cc own nL none) (hd : decode cc pc = .ok (.return_, 1)) : Rn G p l e R s m args below meth c nL a9 n9 E9 u9 w9 (MQ below (QcN G a9 n9 E9) args s u9 w9 (Aa a9)) pc ls [] :=
  fun _ _ _ hB hS _ => W.vret F.x F.b F.r (fun t ht _ => ⟨⟨rfl, by rw [ht]; exact hB⟩, hS.F ht⟩) hS.2.2 hd F.lk
theorem n_wide {u2 w2 : Nat} (h1 : u9 ≤ u2) (h2 : w9 ≤ w2) (K : Rn G p l e R s m args below meth c nL a9 n9 E9 u2 w2 Q pc ls st) : Rn G p l e R s m args below meth c nL a9 n9 E9 u9 w9 Q pc ls st :=
  fun H locs la hB hS hl => W.widen h1 h2 (K H locs la hB hS hl)
variable {y : MethodName} {bytes : ByteArray} {maxL d' ix k9 mc ms : Nat} {e0 : va_E} {E2 : Nat → va_E}
theorem pre_okN {H : Heap} {locs : List Loc} {n8 : Nat} (F : Fy G p l s m args meth c cc own nL ret) (hN : NA s) (ha : g0 G ≤ a9) (hB : Bs G a9 (n8 + 1) E9 H) (he : E9 n8 = e0) (hS : va_S (Aa a9) s.heap H locs) : ∀ U : State, U.heap = H → s.WarmedH U.vm → PcN G (a9 + n8) e0 ([Value.ref (a9 + n8)] : List Value).toArray U := by
  intro U hU hW
  refine ⟨rfl, ⟨by rw [hU, hB.1]; omega, fun j hj => ?_⟩, Nat.le_trans ha (Nat.le_add_right _ _), F.ks.warm (locs := locs) hW ?_, hN.moved hW.alike⟩
  · rw [hU, show j = 0 by omega]
    exact hB.cell (Nat.lt_succ_self n8) he
  · rw [hU]
    exact ⟨hS.1, fun q h1 h2 => hS.2.1 q h1 (fun h3 => h2 (Nat.le_trans ha h3)), fun q hq => Nat.le_trans ha (hS.2.2 q hq)⟩
/-- behind a constructor's call -/
theorem go_N {H : Heap} {locs : List Loc} {la : Array Slot} {n8 : Nat} {st0 rest : List Value} {a : Array Value} (hr : va_Run p l e R s m args below meth c H locs u9 w9 mc ms (F0 m pc la st0) rest (QcN G (a9 + n8) k9 E2 a) (Aa (a9 + n8))) (hB : Bs G a9 (n8 + 1) E9 H) (hS : va_S (Aa a9) s.heap H locs) (hl : lv_has la nL ls)
    (K : Rn G p l e R s m args below meth c nL a9 (n8 + k9) (cat9 E9 n8 E2) (u9 + mc) (w9 + ms) Q (pc + 3) ls rest) : W p l e R s m args below meth c H locs u9 w9 Q (F0 m pc la st0) := by
  intro T hT X
  obtain ⟨v, st₀, t, T', L, h0, X', hL, e1, e2, ⟨⟨hv, hB2⟩, hF⟩, sg⟩ := hr T hT X
  cases hv
  have ho : ∀ q : Nat, q < a9 + n8 → T'.heap[q]? = H[q]? := fun q hq => by
    rw [e1, hF.2 q (by rw [h0, hB.1]; omega) (Nat.not_le.mpr hq), h0]
  have hB1 : Bs G a9 (n8 + k9) (cat9 E9 n8 E2) T'.heap := by
    refine ⟨by rw [e1, hB2.1]; omega, ?_⟩
    intro j hj
    unfold cat9
    by_cases q : j < n8
    · rw [if_pos q]
      exact va_at.kept (hB.2 j (by omega)) (ho _ (by show a9 + j < a9 + n8; omega))
    · rw [if_neg q]
      have := hB2.2 (j - n8) (by omega)
      rw [show a9 + n8 + (j - n8) = a9 + j by omega, ← e1] at this
      exact this
  obtain ⟨t2, a1, b1⟩ := K T'.heap (locs ++ L) la hB1 ⟨Nat.le_trans hS.1 (by rw [← h0, e1]; exact hF.1), fun q h1 h2 => by
      rw [ho q (by have : ¬ a9 ≤ q := h2; omega)]
      exact hS.2.1 q h1 h2, fun q hq => by
      rcases List.mem_append.mp hq with h | h
      · exact hS.2.2 q h
      · exact Nat.le_trans (Nat.le_add_right _ _) (hL q h)⟩ hl T' rfl X'
  exact ⟨t2, sg t2 a1, b1⟩
theorem n_initN {n8 : Nat} {host : String} (F : Fy G p l s m args meth c cc own nL ret) (hN : NA s) (ha : g0 G ≤ a9) (hC : CtrN l G y bytes maxL d' (a9 + n8) e0 k9 E2 mc ms) (hd : decode cc pc = .ok (.invokespecial ix, 3)) (hl : Cond.methodLinkNest own ix y host ∈ lw_tbl) (him : Cond.instanceMethod y ∈ wsA) (hini : Cond.initialized y.cls ∈ wsA) (hcd : Cond.code y bytes maxL none ∈ wsA) (hy : y.name = "<init>") (hds : y.cls ≠ "java/lang/invoke/MethodHandle" ∧ y.cls ≠ "java/lang/invoke/VarHandle" ∧ (parseMethodDescriptor y.desc).map (fun d => d.parameters.length) = some 0) (hR : d' + 1 ≤ R.frames ∧ 8 + (maxL + 11) + 64 * d' ≤ R.locals) (hu : u9 + mc ≤ R.cells ∧ w9 + ms ≤ R.slots) (he : E9 n8 = e0) (hst : (st.map fun v => v.category).sum ≤ 8)
    (K : Rn G p l e R s m args below meth c nL a9 (n8 + k9) (cat9 E9 n8 E2) (u9 + mc) (w9 + ms) Q (pc + 3) ls st) : Rn G p l e R s m args below meth c nL a9 (n8 + 1) E9 u9 w9 Q pc ls (.ref (a9 + n8) :: st) := by
  intro H locs la hB hS hla
  exact go_N (va_runIN (b := a9 + n8) (As := []) (rest := st) (cfy F) hC ⟨va_cnB 0 F.ws (ginA (subA hcd)) rfl rfl rfl (F.ks.2.1 _ hl rfl) (F.ws _ hini) hds hR, hy, F.ws _ him⟩ ⟨PcN_blind, pre_okN F hN ha hB he hS⟩ rfl rfl hla.1 rfl (by show 2 * 0 + _ ≤ 8; omega) hd hu) hB hS hla K
theorem n_init {n8 : Nat} (F : Fy G p l s m args meth c cc own nL ret) (hN : NA s) (ha : g0 G ≤ a9) (hC : CtrN l G y bytes maxL d' (a9 + n8) e0 k9 E2 mc ms) (hd : decode cc pc = .ok (.invokespecial ix, 3)) (hl : Cond.methodLink own ix y ∈ wsA) (him : Cond.instanceMethod y ∈ wsA) (hini : Cond.initialized y.cls ∈ wsA) (hcd : Cond.code y bytes maxL none ∈ wsA) (hy : y.name = "<init>") (hds : y.cls ≠ "java/lang/invoke/MethodHandle" ∧ y.cls ≠ "java/lang/invoke/VarHandle" ∧ (parseMethodDescriptor y.desc).map (fun d => d.parameters.length) = some 0) (hR : d' + 1 ≤ R.frames ∧ 8 + (maxL + 11) + 64 * d' ≤ R.locals) (hu : u9 + mc ≤ R.cells ∧ w9 + ms ≤ R.slots) (he : E9 n8 = e0) (hst : (st.map fun v => v.category).sum ≤ 8)
    (K : Rn G p l e R s m args below meth c nL a9 (n8 + k9) (cat9 E9 n8 E2) (u9 + mc) (w9 + ms) Q (pc + 3) ls st) : Rn G p l e R s m args below meth c nL a9 (n8 + 1) E9 u9 w9 Q pc ls (.ref (a9 + n8) :: st) := by
  intro H locs la hB hS hla
  exact go_N (va_runI (b := a9 + n8) (As := []) (rest := st) (cfy F) hC (cwI 0 F.ws (ginA (subA hcd)) rfl rfl rfl (F.ws _ hini) (F.ws _ hl) (F.ws _ him) hy hds hR) ⟨PcN_blind, pre_okN F hN ha hB he hS⟩ rfl rfl hla.1 rfl (by show 2 * 0 + _ ≤ 8; omega) hd hu) hB hS hla K
end RN
