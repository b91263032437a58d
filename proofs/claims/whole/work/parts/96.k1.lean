/-! ===== copyRow out of the static row ===== -/
theorem cp3 {cI : ClassId} {cs : Cell} (h : ∀ j : Nat, j < 3 → cs.slots[j]? = some (.int (fvT j))) : copied cs (vp_cell cI (3, .inl (fun _ => 0))) 0 0 3 = vp_cell cI (3, .inl fvT) := by
  have e : cs.stretch 0 3 = (List.range 3).map (fun i => .int (fvT (0 + i))) := by
    unfold Cell.stretch
    apply List.map_congr_left
    intro i hi
    have hi' := List.mem_range.mp hi
    rw [Array.getD_eq_getD_getElem?, h _ (by omega)]
    rfl
  show (arrV cI 3 (fun _ => .int 0)).storeRun 0 (cs.stretch 0 3) = arrV cI 3 (fun j => .int (fvT j))
  rw [e, Cell.storeRun, va_pairs]
  congr 1
  funext k
  simp only [List.length_map, List.length_range, Nat.add_zero, Nat.zero_add, Nat.zero_le, true_and, Nat.sub_zero]
  by_cases q : k < 3
  · rw [if_pos q, List.getD_eq_getElem?_getD, List.getElem?_map, List.getElem?_range q]
    rfl
  · rw [if_neg q]
    have : fvT k = 0 := by
      unfold fvT
      rw [List.getD_eq_getElem?_getD, List.getElem?_eq_none (by simpa using q)]
      rfl
    rw [this]
def PcC (G : GM) (t q : Nat) : Array Value → State → Prop := fun v U => v = ([Value.ref t, Value.ref q] : List Value).toArray ∧ U.heap[q]? = some (vp_cell (gC G 0) (3, .inl (fun _ => 0))) ∧ g0 G ≤ q ∧ g0 G ≤ U.heap.size ∧ va_T .int t 3 (fun j => .int (fvT j)) (A0 G) U U.heap ∧ KS G U U.heap
def QcC (G : GM) (q : Nat) : Array Value → State → Outcome → State → Prop := fun _ st oc t => oc = .returned none ∧ t.heap[q]? = some (vp_cell (gC G 0) (3, .inl fvT)) ∧ t.heap.size = st.heap.size ∧ ∀ x : Nat, x ≠ q → t.heap[x]? = st.heap[x]?
theorem PcC_blind {G : GM} {t q : Nat} : FrameBlind (PcC G t q) := fun a U g mk h => ⟨h.1, h.2.1, h.2.2.1, h.2.2.2.1, h.2.2.2.2.1, h.2.2.2.2.2.calling g mk a⟩
set_option maxHeartbeats 4000000 in
theorem c_cpy {l : Launch} {G : GM} (hl : l.stackTraces = false) (hG : GG G) (t9 q9 : Nat) : Met l yX6_copyRow (.code yX6_copyRow cX6_copyRow 2 none :: wsA) (rmN 2 0 0) (PcC G t9 q9) (QcC G q9) 0 0 (fun x => x = q9) := by
  refine Met.ofW (cc := cX6_copyRow) (maxL := 2) (ret := none) (by decide) rfl (fun p e s m args below meth c s₁ B hml hv => ?_)
  obtain ⟨rfl, hq, h0, hs0, hT, hK⟩ := hv
  have F : Fy G p l s m ([Value.ref t9, Value.ref q9] : List Value).toArray meth c cX6_copyRow RX6 2 none := ⟨B.exec, B.bytes, B.returns, hml, findClass_of_methodNamed B.named, fun w hw => atoms_spec (ws := .code yX6_copyRow cX6_copyRow 2 none :: wsA) B.pre w (List.mem_cons_of_mem _ hw), B.notSynchronized, hK, hs0, hG, hl⟩
  have hla := lv_entry [.ref t9, .ref q9] (n := 2) (Nat.le_of_ble_eq_true rfl)
  rw [lg_entry_eq]
  generalize ((lg_sl [.ref t9, .ref q9] ++ List.replicate (2 - (lg_sl [.ref t9, .ref q9]).length) Slot.unset).toArray) = la at hla ⊢
  refine lv_aload_n F.x F.b dX6_copyRow_0 rfl (lv_at hla 0 rfl) ?_
  refine lv_iconst F.x F.b (v := 0) dX6_copyRow_1 (by decide) ?_
  refine lv_aload_n F.x F.b dX6_copyRow_2 rfl (lv_at hla 1 rfl) ?_
  refine lv_iconst F.x F.b (v := 0) dX6_copyRow_3 (by decide) ?_
  refine lv_aload_n F.x F.b dX6_copyRow_4 rfl (lv_at hla 0 rfl) ?_
  refine va_tlen F.x F.b hT va_S.rf (v := 3) rfl dX6_copyRow_5 ?_
  refine lv_aload_n F.x F.b dX6_copyRow_6 rfl (lv_at hla 1 rfl) ?_
  refine W.alen (n := 3) F.x F.b (cell := vp_cell (gC G 0) (3, .inl (fun _ => 0))) hq ((F.K.2 0 _ rfl).1 3 _) (by show (arrV _ _ _).slots.size.toInt32 = 3; rw [arrV_size]; rfl) rfl rfl dX6_copyRow_7 ?_
  refine va_mmin F.x F.b (F.ml.trans hla.1.symm) F.ow (F.ws _ ml_X6_375) (F.ws _ sc_min) (F.ws _ ini_J9) (F.ws _ cd_min) (by decide) (Nat.le_of_ble_eq_true rfl) (Nat.le_refl _) (Nat.le_refl _) dX6_copyRow_8 ?_
  rw [if_neg (by decide : ¬ (3 : Int32) < 3)]
  have hT2 := hT
  obtain ⟨cs, t1, ⟨t2, ks, hks, cm, hsk⟩, t3, t4, t5, t6, t7⟩ := hT2
  obtain ⟨d2, kd9, hkd, dm, hdk⟩ := (F.K.2 0 _ rfl).1 3 (fun _ => Value.int 0)
  intro T hTh X
  obtain ⟨vm', X', step⟩ := X.arraycopy F.x F.ow (F.ws _ ml_X6_380) (F.ws _ na_arraycopy) (F.ws _ sc_arraycopy) (F.ws _ ini_J10) (src := t9) (dst := q9) (cs := cs) (cd := vp_cell (gC G 0) (3, .inl (fun _ => 0))) (srcPos := 0) (destPos := 0) (n := 3) (by rw [hTh]; exact t1) (by rw [hTh]; exact hq)
    t2 (fun _ h => by cases h) t3 (fun h => by cases h) hks hkd hsk hdk (by simp [refKind]) (by decide) (by decide) (by decide)
    (by show ¬ (3 : Int) > (cs.slots.size : Int); omega)
    (by show ¬ (3 : Int) > ((arrV (gC G 0) 3 (fun _ => Value.int 0)).slots.size : Int); rw [arrV_size]; decide)
    (fun vm₁ _ i hi => by
      have hi3 : i < 3 := hi
      have e1 : cs.slots.getD ((0 : Int32).toNatClampNeg + i) .null = .int (fvT i) := by
        rw [show (0 : Int32).toNatClampNeg + i = i from Nat.zero_add i, Array.getD_eq_getD_getElem?, t6 i hi3]
        rfl
      rw [e1]
      exact ⟨rfl, trivial⟩)
    (g := F0 m 11 la [.int 3, .int 0, .ref q9, .int 0, .ref t9]) rfl (hla.1.trans F.ml.symm) (rest := []) rfl (by rw [F.b]; exact dX6_copyRow_11) (by decide) (by have := nf9; show 2 * 0 + 0 + _ ≤ 64 * 2; omega)
  rw [cp3 t6] at X' step
  have hl9 : q9 < s.heap.size := (Array.getElem?_eq_some_iff.mp hq).1
  have hh : ((T.setVm vm').setCell q9 (vp_cell (gC G 0) (3, .inl fvT))).heap = s.heap.setIfInBounds q9 (vp_cell (gC G 0) (3, .inl fvT)) := by rw [← hTh]; rfl
  have hloc : ∀ z ∈ (([] : List Loc) ++ (cs.stretch (0 : Int32).toNatClampNeg (3 : Int32).toNatClampNeg).zipIdx.map fun q => (⟨q9, (0 : Int32).toNatClampNeg + q.2⟩ : Loc)), z.base = q9 := fun z hz => by
    obtain ⟨y, -, hy⟩ := List.mem_map.mp hz
    rw [← hy]
  have K : W p l e (rmN 2 0 0) s m ([Value.ref t9, Value.ref q9] : List Value).toArray below meth c (s.heap.setIfInBounds q9 (vp_cell (gC G 0) (3, .inl fvT))) (([] : List Loc) ++ (cs.stretch (0 : Int32).toNatClampNeg (3 : Int32).toNatClampNeg).zipIdx.map fun q => (⟨q9, (0 : Int32).toNatClampNeg + q.2⟩ : Loc)) 0 0 (MQ below (QcC G q9) ([Value.ref t9, Value.ref q9] : List Value).toArray s 0 0 (fun x => x = q9)) (F0 m 14 la []) := by
    refine W.vret F.x F.b F.r (fun t ht _ => ⟨rfl, ?_, ?_, fun x hx => ?_⟩) hloc dX6_copyRow_14 F.lk
    · rw [ht]; simp [Array.getElem?_setIfInBounds, hl9]
    · rw [ht]; simp
    · rw [ht]; simp [Array.getElem?_setIfInBounds, Ne.symm hx]
  obtain ⟨t, a1, b1⟩ := K _ hh X'
  exact ⟨t, step t a1, b1⟩
section RC
variable {G : GM} {p : Program} {l : Launch} {e : Env} {R : Room} {s : State} {m : MethodId} {args : Array Value} {below : List Frame} {meth : Method} {c : Code} {cc : ByteArray} {own : String} {nL : Nat} {ret : Option FieldType} {a9 n9 u9 w9 : Nat} {E9 : Nat → va_E} {Q : State → Prop}
variable {pc : Nat} {ls : List (Nat × Value)} {st : List Value}
/-- getstatic FIRST_VALUES; .. copyRow(it, the block's row j) -/
theorem n_first (F : Fy G p l s m args meth c cc own nL ret) (ha : g0 G ≤ a9) {i1 : Nat} (hd : decode cc pc = .ok (.getstatic i1, 3)) (hl : Cond.fieldLinkNest own i1 "DrumTowns" "FIRST_VALUES" "[I" "DrumTowns" ∈ lw_tbl)
    (K : ∀ t9 : Nat, va_T .int t9 3 (fun j => .int (fvT j)) (A0 G) s s.heap → Rn G p l e R s m args below meth c nL a9 n9 E9 u9 w9 Q (pc + 3) ls (.ref t9 :: st)) : Rn G p l e R s m args below meth c nL a9 n9 E9 u9 w9 Q pc ls st := by
  intro H locs la hB hS hla
  obtain ⟨t9, hz, ht⟩ := F.ks.2.2.2.2.1
  exact va_getsN F.x F.b (hz.narrow (fun q h => Nat.le_trans ha h)) hS F.ow (va_Nw.use rfl (F.ks.2.1 _ hl rfl)) (fun _ h => h) hd (K t9 ht H locs la hB hS hla)
theorem n_cpy (F : Fy G p l s m args meth c cc own nL ret) (ha : g0 G ≤ a9) {t9 ix : Nat} (ht : va_T .int t9 3 (fun j => .int (fvT j)) (A0 G) s s.heap) (hd : decode cc pc = .ok (.invokestatic ix, 3)) (hl : Cond.methodLinkNest own ix yX6_copyRow "DrumTowns" ∈ lw_tbl) (j : Nat) (hj : j < n9) (he : E9 j = .inl (gC G 0, 3, .inl (fun _ => 0))) (hR : 3 ≤ R.frames ∧ 8 + 13 + 128 ≤ R.locals) (hu : u9 ≤ R.cells ∧ w9 ≤ R.slots) (hst : (st.map fun v => v.category).sum ≤ 8)
    (K : Rn G p l e R s m args below meth c nL a9 n9 (up9 E9 j (.inl (gC G 0, 3, .inl fvT))) u9 w9 Q (pc + 3) ls st) : Rn G p l e R s m args below meth c nL a9 n9 E9 u9 w9 Q pc ls (.ref (a9 + j) :: .ref t9 :: st) := by
  intro H locs la hB hS hla
  have hq : H[a9 + j]? = some (vp_cell (gC G 0) (3, .inl (fun _ => 0))) := hB.cell hj he
  have hS0 : va_S (A0 G) s.heap H locs := ⟨hS.1, fun q h1 h2 => hS.2.1 q h1 (fun h3 => h2 (Nat.le_trans ha h3)), fun q hq => Nat.le_trans ha (hS.2.2 q hq)⟩
  have hpre : ∀ U : State, U.heap = H → s.WarmedH U.vm → PcC G t9 (a9 + j) ([Value.ref t9, Value.ref (a9 + j)] : List Value).toArray U := fun U hU hW =>
    ⟨rfl, by rw [hU]; exact hq, Nat.le_trans ha (Nat.le_add_right _ _), by rw [hU]; exact Nat.le_trans F.g0 hS0.1, by rw [hU]; exact (ht.kept hS0.2.1).moved hW.alike, by rw [hU]; exact F.ks.warm hW hS0⟩
  have hr := va_runSN (H := H) (locs := locs) (cells := u9) (slots := w9) (e := e) (below := below) (meth := meth) (g := F0 m pc la (.ref (a9 + j) :: .ref t9 :: st)) (As := [.ref t9, .ref (a9 + j)]) (rest := st) (cfy F) (c_cpy F.st F.gg t9 (a9 + j)) ⟨va_cnB 2 F.ws (ginA (subA cd_X6_copyRow)) rfl rfl rfl (F.ks.2.1 _ hl rfl) (F.ws _ ini_X6) ⟨by decide, by decide, by decide +kernel⟩ hR, F.ws _ sc_X6_copyRow, trivial⟩ ⟨PcC_blind, hpre⟩ rfl rfl hla.1 rfl (by show 2 * 0 + _ ≤ 8; omega) hd hu
  intro T hT X
  obtain ⟨v, st₀, t, T', L, h0, X', hL, e1, e2, ⟨hv, g1, g2, g3⟩, sg⟩ := hr T hT X
  cases hv
  have z1 : T'.heap.size = H.size := by rw [e1, g2, h0]
  have o1 : ∀ q : Nat, q ≠ a9 + j → T'.heap[q]? = H[q]? := fun q hq => by rw [e1, g3 q hq, h0]
  have hB1 := hB.put z1 o1 (e := .inl (gC G 0, 3, .inl fvT)) (by rw [e1]; exact g1)
  obtain ⟨t2, a1, b1⟩ := K T'.heap (locs ++ L) la hB1 ⟨by rw [z1]; exact hS.1, fun q h1 h2 => by
      rw [o1 q (fun h => h2 (by rw [h]; exact Nat.le_add_right _ _))]; exact hS.2.1 q h1 h2, fun q hq => by
      rcases List.mem_append.mp hq with h | h
      · exact hS.2.2 q h
      · rw [hL q h]; exact Nat.le_add_right _ _⟩ hla T' rfl X'
  exact ⟨t2, sg t2 a1, b1⟩
end RC
