/-! ===== what the tables and the statics say at the start ===== -/
abbrev narF : List Cond := flatC (Jvm.Cond.and given_1 narrow_1)
set_option maxRecDepth 100000 in
theorem nf_str : ∀ q ∈ strW, Cond.exactly (.string "DrumTowns" q.1) "java/lang/String" ∈ narF := by decide +kernel
set_option maxRecDepth 100000 in
theorem tb_str : ∀ q ∈ strW, Cond.stringRef "DrumTowns" q.1 q.2 ∈ lw_tbl := by decide +kernel
set_option maxRecDepth 100000 in
theorem nf_nc : ∀ q ∈ ncW, Cond.not (.castable q.1 q.2) ∈ narF := by decide +kernel
def stN : List (String × (Nat → Int32)) := [("LEAST_VALUES", lvT), ("GREATEST_VALUES", gvT), ("FIRST_VALUES", fvT)]
set_option maxRecDepth 100000 in
theorem nf_st : ∀ q ∈ stN, Cond.arrayOf (.static "DrumTowns" q.1 "[I") .int ∈ narF ∧ Cond.eq (.length (.static "DrumTowns" q.1 "[I")) (.int 3) ∈ narF ∧ Cond.laysStatic "DrumTowns" q.1 "[I" ∈ lw_tbl ∧ ∀ j, j < 3 → Cond.eq (.elem (.static "DrumTowns" q.1 "[I") (.int (Int32.ofNat j))) (.int (q.2 j)) ∈ narF := by decide +kernel
set_option maxRecDepth 100000 in
theorem nf_ref : Cond.isRef (.static Bundle.tN "UNASSIGNED_STACK" Bundle.steD) ∈ narF ∧ Cond.isRef (.static Bundle.tN "SUPPRESSED_SENTINEL" Bundle.listD) ∈ narF ∧ Cond.laysStatic Bundle.tN "UNASSIGNED_STACK" Bundle.steD ∈ lw_tbl ∧ Cond.laysStatic Bundle.tN "SUPPRESSED_SENTINEL" Bundle.listD ∈ lw_tbl := by decide +kernel
set_option maxRecDepth 100000 in
theorem tb_ao : Cond.arrayOver (.object "DrumTowns$Town") ∈ lw_tbl ∧ Cond.arrayOver (.object "DrumTowns$Land") ∈ lw_tbl ∧ Cond.arrayOver (.array .int) ∈ lw_tbl := by decide +kernel
theorem nst_w {w : Cond} {args : Array Value} {s : State} (h : w.before args s = true) (q : isNst w = true) : va_Nw w s := by
  cases w with
  | fieldLinkNest => exact va_tabs rfl rfl h
  | methodLinkNest => exact va_tabs rfl rfl h
  | castable => exact va_tabs rfl rfl h
  | declares => exact va_tabs rfl rfl h
  | _ => cases q
theorem arr_p {s : State} {args : Array Value} {ty : FieldType} (h : (Cond.arrayClass ty).before args s = true) (hr : ∀ cA, s.vm.findClass ("[" ++ ty.toString) = some cA → va_RA s cA ty) : ∃ cA, ArrOfT s cA ty ∧ va_RA s cA ty := by
  obtain ⟨c, k, comp, h1, h2, h3⟩ := Cond.arrayClass_spec h
  exact ⟨c, fun n z => ⟨fun k h => (by cases h), k, h2, comp, h3⟩, hr c h1⟩
theorem arr_o {s : State} {args : Array Value} {C : String} (h : (Cond.arrayOver (.object C)).before args s = true) : ∃ cA, ArrOfT s cA (.object C) ∧ va_RA s cA (.object C) := by
  obtain ⟨comp, c, k, h1, h2, h3, h4, h5⟩ := Cond.arrayOver_spec h
  exact ⟨c, fun n z => ⟨fun k h => (by cases h), k, h3, comp, h4⟩, k, comp, h3, h4, h1, h5⟩
theorem arr_a {s : State} {args : Array Value} (h : (Cond.arrayOver (.array .int)).before args s = true) : ∃ cA, ArrOfT s cA (.array .int) ∧ va_RA s cA (.array .int) := by
  obtain ⟨comp, c, k, h1, h2, h3, h4, h5⟩ := arrayOverA_spec h
  exact ⟨c, fun n z => ⟨fun k h => (by cases h), k, h3, comp, h4⟩, h5⟩
theorem ks_st {s : State} {args : Array Value} {a : Nat} (ha : a = s.heap.size) (hn : ∀ w ∈ narF, w.before args s = true) (ht : ∀ w ∈ lw_tbl, w.before args s = true) (q : String × (Nat → Int32)) (hq : q ∈ stN) : StA q.1 q.2 (fun x => a ≤ x) s s.heap := by
  obtain ⟨h1, h2, h3, h4⟩ := nf_st q hq
  have hA : ∀ x : Nat, x < s.heap.size → ¬ a ≤ x := fun x hx h => by omega
  obtain ⟨t, e1, e2⟩ := va_Tof (A := fun x => a ≤ x) (tm := .static "DrumTowns" q.1 "[I") (N := 3) (f := fun j => .int (q.2 j)) (by decide) (hn _ h1) (va_eqt (hn _ h2)) (fun j hj => va_eqt (hn _ (h4 j hj))) hA
  exact ⟨t, va_Zof (ht _ h3) (ht _ (List.mem_filter.mp ini_X6).1) e1 hA, e2⟩
/-- the start: a world's frame, and all that the walks ask -/
theorem ks_start {s : State} {args : Array Value} (hn : ∀ w ∈ narF, w.before args s = true) (ht : ∀ w ∈ lw_tbl, w.before args s = true) : ∃ (D : va_G) (ca : Nat → ClassId), KS (GE s.heap.size D ca) s s.heap ∧ NA s := by
  have hA : ∀ w ∈ wsA, w.before args s = true := fun w hw => ht w (List.mem_filter.mp hw).1
  obtain ⟨c0, i0, u0⟩ := u_known (C := RX0) (T := TX0) (N := 8) hA inA_X0 (hA _ in_X0)
  obtain ⟨c1, i1, u1⟩ := u_known (C := RX1) (T := TX1) (N := 11) hA inA_X1 (hA _ in_X1)
  obtain ⟨c2, i2, u2⟩ := u_known (C := RX2) (T := TX2) (N := 3) hA inA_X2 (hA _ in_X2)
  obtain ⟨c3, i3, u3⟩ := u_known (C := RX3) (T := TX3) (N := 7) hA inA_X3 (hA _ in_X3)
  obtain ⟨c4, i4, u4⟩ := u_known (C := RX4) (T := TX4) (N := 5) hA inA_X4 (hA _ in_X4)
  obtain ⟨c5, i5, u5⟩ := u_known (C := RX5) (T := TX5) (N := 6) hA inA_X5 (hA _ in_X5)
  obtain ⟨c6, i6, u6⟩ := u_known (C := RX6) (T := TX6) (N := 8) hA inA_X6 (hA _ in_X6)
  obtain ⟨a0, p0⟩ := arr_p (ty := .int) (hA _ ac_75) (fun cA h => h)
  obtain ⟨a1, p1⟩ := arr_o (ht _ tb_ao.1)
  obtain ⟨a2, p2⟩ := arr_o (ht _ tb_ao.2.1)
  obtain ⟨a3, p3⟩ := arr_a (ht _ tb_ao.2.2)
  have hz : ∀ x : Nat, x < s.heap.size → ¬ s.heap.size ≤ x := fun x hx h => by omega
  refine ⟨(fun c => [c0, c1, c2, c3, c4, c5, c6].getD c c0, fun c => [i0, i1, i2, i3, i4, i5, i6].getD c i0), fun j => [a0, a1, a2, a3].getD j a0, ⟨⟨fun c q hq => ?_, fun k q hq => ?_⟩, fun w hw q => nst_w (ht w hw) q, ?_, ?_, ?_, ?_, ?_, fun q hq => ?_, fun q hq => va_Nc.of (hn _ (nf_nc q hq))⟩, va_AO.of (ht _ tb_ao.1), va_AO.of (ht _ tb_ao.2.1), ht _ tb_ao.2.2⟩
  · match c, hq with
    | 0, hq => cases hq; exact u0
    | 1, hq => cases hq; exact u1
    | 2, hq => cases hq; exact u2
    | 3, hq => cases hq; exact u3
    | 4, hq => cases hq; exact u4
    | 5, hq => cases hq; exact u5
    | 6, hq => cases hq; exact u6
  · match k, hq with
    | 0, hq => cases hq; exact p0
    | 1, hq => cases hq; exact p1
    | 2, hq => cases hq; exact p2
    | 3, hq => cases hq; exact p3
  · exact ks_st rfl hn ht ("LEAST_VALUES", lvT) (by simp [stN])
  · exact ks_st rfl hn ht ("GREATEST_VALUES", gvT) (by simp [stN])
  · exact ks_st rfl hn ht ("FIRST_VALUES", fvT) (by simp [stN])
  · exact vx_Zqof (ht _ nf_ref.2.2.1) (hA _ ini_Throwable) (hn _ nf_ref.1) hz
  · exact vx_Zqof (ht _ nf_ref.2.2.2) (hA _ ini_Throwable) (hn _ nf_ref.2.1) hz
  · obtain ⟨a, c, cell, k, q1, -⟩ := Cond.exactly_spec (hn _ (nf_str q hq))
    exact ⟨a, vk_R.of (ht _ (tb_str q hq)) q1⟩
