/-! ===== the law's walk: rows further; cell ===== -/
section RB
variable {G : GM} {p : Program} {l : Launch} {e : Env} {R : Room} {s : State} {m : MethodId} {args : Array Value} {below : List Frame} {meth : Method} {c : Code} {cc : ByteArray} {own : String} {nL : Nat} {ret : Option FieldType} {u9 w9 : Nat} {Q : State → Prop}
variable {pc : Nat} {ls : List (Nat × Value)} {st : List Value} {M : Mem}
theorem w_icmp_eqT (F : Fy G p l s m args meth c cc own nL ret) {x y : Int32} {off : Int} {tgt : Nat} (hd : decode cc pc = .ok (.if_icmp .eq off, 3)) (ht : (pc : Int) + off = (tgt : Int)) (h : x = y) (K : Rw G p l e R s m args below meth c nL u9 w9 Q tgt ls st M) : Rw G p l e R s m args below meth c nL u9 w9 Q pc ls (.int y :: .int x :: st) M :=
  fun H locs la hP hS hl => lv_icmp_eq F.x F.b hd ht (fun _ => K H locs la hP hS hl) (fun q => absurd h q)
theorem w_icmp_eqF (F : Fy G p l s m args meth c cc own nL ret) {x y : Int32} {off : Int} {tgt : Nat} (hd : decode cc pc = .ok (.if_icmp .eq off, 3)) (ht : (pc : Int) + off = (tgt : Int)) (h : ¬ x = y) (K : Rw G p l e R s m args below meth c nL u9 w9 Q (pc + 3) ls st M) : Rw G p l e R s m args below meth c nL u9 w9 Q pc ls (.int y :: .int x :: st) M :=
  fun H locs la hP hS hl => lv_icmp_eq F.x F.b hd ht (fun q => absurd q h) (fun _ => K H locs la hP hS hl)
theorem w_if_eqT (F : Fy G p l s m args meth c cc own nL ret) {x : Int32} {off : Int} {tgt : Nat} (hd : decode cc pc = .ok (.ifCond .eq off, 3)) (ht : (pc : Int) + off = (tgt : Int)) (h : x = 0) (K : Rw G p l e R s m args below meth c nL u9 w9 Q tgt ls st M) : Rw G p l e R s m args below meth c nL u9 w9 Q pc ls (.int x :: st) M :=
  fun H locs la hP hS hl => lv_if_eq F.x F.b hd ht (fun _ => K H locs la hP hS hl) (fun q => absurd h q)
theorem w_if_eqF (F : Fy G p l s m args meth c cc own nL ret) {x : Int32} {off : Int} {tgt : Nat} (hd : decode cc pc = .ok (.ifCond .eq off, 3)) (ht : (pc : Int) + off = (tgt : Int)) (h : ¬ x = 0) (K : Rw G p l e R s m args below meth c nL u9 w9 Q (pc + 3) ls st M) : Rw G p l e R s m args below meth c nL u9 w9 Q pc ls (.int x :: st) M :=
  fun H locs la hP hS hl => lv_if_eq F.x F.b hd ht (fun q => absurd q h) (fun _ => K H locs la hP hS hl)
theorem w_icmp_neT (F : Fy G p l s m args meth c cc own nL ret) {x y : Int32} {off : Int} {tgt : Nat} (hd : decode cc pc = .ok (.if_icmp .ne off, 3)) (ht : (pc : Int) + off = (tgt : Int)) (h : ¬ x = y) (K : Rw G p l e R s m args below meth c nL u9 w9 Q tgt ls st M) : Rw G p l e R s m args below meth c nL u9 w9 Q pc ls (.int y :: .int x :: st) M :=
  fun H locs la hP hS hl => lv_icmp_ne F.x F.b hd ht (fun _ => K H locs la hP hS hl) (fun q => absurd q h)
theorem w_icmp_neF (F : Fy G p l s m args meth c cc own nL ret) {x y : Int32} {off : Int} {tgt : Nat} (hd : decode cc pc = .ok (.if_icmp .ne off, 3)) (ht : (pc : Int) + off = (tgt : Int)) (h : x = y) (K : Rw G p l e R s m args below meth c nL u9 w9 Q (pc + 3) ls st M) : Rw G p l e R s m args below meth c nL u9 w9 Q pc ls (.int y :: .int x :: st) M :=
  fun H locs la hP hS hl => lv_icmp_ne F.x F.b hd ht (fun q => absurd h q) (fun _ => K H locs la hP hS hl)
theorem w_if_neT (F : Fy G p l s m args meth c cc own nL ret) {x : Int32} {off : Int} {tgt : Nat} (hd : decode cc pc = .ok (.ifCond .ne off, 3)) (ht : (pc : Int) + off = (tgt : Int)) (h : ¬ x = 0) (K : Rw G p l e R s m args below meth c nL u9 w9 Q tgt ls st M) : Rw G p l e R s m args below meth c nL u9 w9 Q pc ls (.int x :: st) M :=
  fun H locs la hP hS hl => lv_if_ne F.x F.b hd ht (fun _ => K H locs la hP hS hl) (fun q => absurd q h)
theorem w_if_neF (F : Fy G p l s m args meth c cc own nL ret) {x : Int32} {off : Int} {tgt : Nat} (hd : decode cc pc = .ok (.ifCond .ne off, 3)) (ht : (pc : Int) + off = (tgt : Int)) (h : x = 0) (K : Rw G p l e R s m args below meth c nL u9 w9 Q (pc + 3) ls st M) : Rw G p l e R s m args below meth c nL u9 w9 Q pc ls (.int x :: st) M :=
  fun H locs la hP hS hl => lv_if_ne F.x F.b hd ht (fun q => absurd h q) (fun _ => K H locs la hP hS hl)
theorem w_icmp_ltT (F : Fy G p l s m args meth c cc own nL ret) {x y : Int32} {off : Int} {tgt : Nat} (hd : decode cc pc = .ok (.if_icmp .lt off, 3)) (ht : (pc : Int) + off = (tgt : Int)) (h : x < y) (K : Rw G p l e R s m args below meth c nL u9 w9 Q tgt ls st M) : Rw G p l e R s m args below meth c nL u9 w9 Q pc ls (.int y :: .int x :: st) M :=
  fun H locs la hP hS hl => lv_icmp_lt F.x F.b hd ht (fun _ => K H locs la hP hS hl) (fun q => absurd h q)
theorem w_icmp_ltF (F : Fy G p l s m args meth c cc own nL ret) {x y : Int32} {off : Int} {tgt : Nat} (hd : decode cc pc = .ok (.if_icmp .lt off, 3)) (ht : (pc : Int) + off = (tgt : Int)) (h : ¬ x < y) (K : Rw G p l e R s m args below meth c nL u9 w9 Q (pc + 3) ls st M) : Rw G p l e R s m args below meth c nL u9 w9 Q pc ls (.int y :: .int x :: st) M :=
  fun H locs la hP hS hl => lv_icmp_lt F.x F.b hd ht (fun q => absurd q h) (fun _ => K H locs la hP hS hl)
theorem w_if_ltT (F : Fy G p l s m args meth c cc own nL ret) {x : Int32} {off : Int} {tgt : Nat} (hd : decode cc pc = .ok (.ifCond .lt off, 3)) (ht : (pc : Int) + off = (tgt : Int)) (h : x < 0) (K : Rw G p l e R s m args below meth c nL u9 w9 Q tgt ls st M) : Rw G p l e R s m args below meth c nL u9 w9 Q pc ls (.int x :: st) M :=
  fun H locs la hP hS hl => lv_if_lt F.x F.b hd ht (fun _ => K H locs la hP hS hl) (fun q => absurd h q)
theorem w_if_ltF (F : Fy G p l s m args meth c cc own nL ret) {x : Int32} {off : Int} {tgt : Nat} (hd : decode cc pc = .ok (.ifCond .lt off, 3)) (ht : (pc : Int) + off = (tgt : Int)) (h : ¬ x < 0) (K : Rw G p l e R s m args below meth c nL u9 w9 Q (pc + 3) ls st M) : Rw G p l e R s m args below meth c nL u9 w9 Q pc ls (.int x :: st) M :=
  fun H locs la hP hS hl => lv_if_lt F.x F.b hd ht (fun q => absurd q h) (fun _ => K H locs la hP hS hl)
theorem w_icmp_geT (F : Fy G p l s m args meth c cc own nL ret) {x y : Int32} {off : Int} {tgt : Nat} (hd : decode cc pc = .ok (.if_icmp .ge off, 3)) (ht : (pc : Int) + off = (tgt : Int)) (h : y ≤ x) (K : Rw G p l e R s m args below meth c nL u9 w9 Q tgt ls st M) : Rw G p l e R s m args below meth c nL u9 w9 Q pc ls (.int y :: .int x :: st) M :=
  fun H locs la hP hS hl => lv_icmp_ge F.x F.b hd ht (fun _ => K H locs la hP hS hl) (fun q => absurd h q)
theorem w_icmp_geF (F : Fy G p l s m args meth c cc own nL ret) {x y : Int32} {off : Int} {tgt : Nat} (hd : decode cc pc = .ok (.if_icmp .ge off, 3)) (ht : (pc : Int) + off = (tgt : Int)) (h : ¬ y ≤ x) (K : Rw G p l e R s m args below meth c nL u9 w9 Q (pc + 3) ls st M) : Rw G p l e R s m args below meth c nL u9 w9 Q pc ls (.int y :: .int x :: st) M :=
  fun H locs la hP hS hl => lv_icmp_ge F.x F.b hd ht (fun q => absurd q h) (fun _ => K H locs la hP hS hl)
theorem w_if_geT (F : Fy G p l s m args meth c cc own nL ret) {x : Int32} {off : Int} {tgt : Nat} (hd : decode cc pc = .ok (.ifCond .ge off, 3)) (ht : (pc : Int) + off = (tgt : Int)) (h : 0 ≤ x) (K : Rw G p l e R s m args below meth c nL u9 w9 Q tgt ls st M) : Rw G p l e R s m args below meth c nL u9 w9 Q pc ls (.int x :: st) M :=
  fun H locs la hP hS hl => lv_if_ge F.x F.b hd ht (fun _ => K H locs la hP hS hl) (fun q => absurd h q)
theorem w_if_geF (F : Fy G p l s m args meth c cc own nL ret) {x : Int32} {off : Int} {tgt : Nat} (hd : decode cc pc = .ok (.ifCond .ge off, 3)) (ht : (pc : Int) + off = (tgt : Int)) (h : ¬ 0 ≤ x) (K : Rw G p l e R s m args below meth c nL u9 w9 Q (pc + 3) ls st M) : Rw G p l e R s m args below meth c nL u9 w9 Q pc ls (.int x :: st) M :=
  fun H locs la hP hS hl => lv_if_ge F.x F.b hd ht (fun q => absurd q h) (fun _ => K H locs la hP hS hl)
theorem w_icmp_gtT (F : Fy G p l s m args meth c cc own nL ret) {x y : Int32} {off : Int} {tgt : Nat} (hd : decode cc pc = .ok (.if_icmp .gt off, 3)) (ht : (pc : Int) + off = (tgt : Int)) (h : y < x) (K : Rw G p l e R s m args below meth c nL u9 w9 Q tgt ls st M) : Rw G p l e R s m args below meth c nL u9 w9 Q pc ls (.int y :: .int x :: st) M :=
  fun H locs la hP hS hl => lv_icmp_gt F.x F.b hd ht (fun _ => K H locs la hP hS hl) (fun q => absurd h q)
theorem w_icmp_gtF (F : Fy G p l s m args meth c cc own nL ret) {x y : Int32} {off : Int} {tgt : Nat} (hd : decode cc pc = .ok (.if_icmp .gt off, 3)) (ht : (pc : Int) + off = (tgt : Int)) (h : ¬ y < x) (K : Rw G p l e R s m args below meth c nL u9 w9 Q (pc + 3) ls st M) : Rw G p l e R s m args below meth c nL u9 w9 Q pc ls (.int y :: .int x :: st) M :=
  fun H locs la hP hS hl => lv_icmp_gt F.x F.b hd ht (fun q => absurd q h) (fun _ => K H locs la hP hS hl)
theorem w_if_gtT (F : Fy G p l s m args meth c cc own nL ret) {x : Int32} {off : Int} {tgt : Nat} (hd : decode cc pc = .ok (.ifCond .gt off, 3)) (ht : (pc : Int) + off = (tgt : Int)) (h : 0 < x) (K : Rw G p l e R s m args below meth c nL u9 w9 Q tgt ls st M) : Rw G p l e R s m args below meth c nL u9 w9 Q pc ls (.int x :: st) M :=
  fun H locs la hP hS hl => lv_if_gt F.x F.b hd ht (fun _ => K H locs la hP hS hl) (fun q => absurd h q)
theorem w_if_gtF (F : Fy G p l s m args meth c cc own nL ret) {x : Int32} {off : Int} {tgt : Nat} (hd : decode cc pc = .ok (.ifCond .gt off, 3)) (ht : (pc : Int) + off = (tgt : Int)) (h : ¬ 0 < x) (K : Rw G p l e R s m args below meth c nL u9 w9 Q (pc + 3) ls st M) : Rw G p l e R s m args below meth c nL u9 w9 Q pc ls (.int x :: st) M :=
  fun H locs la hP hS hl => lv_if_gt F.x F.b hd ht (fun q => absurd q h) (fun _ => K H locs la hP hS hl)
theorem w_icmp_leT (F : Fy G p l s m args meth c cc own nL ret) {x y : Int32} {off : Int} {tgt : Nat} (hd : decode cc pc = .ok (.if_icmp .le off, 3)) (ht : (pc : Int) + off = (tgt : Int)) (h : x ≤ y) (K : Rw G p l e R s m args below meth c nL u9 w9 Q tgt ls st M) : Rw G p l e R s m args below meth c nL u9 w9 Q pc ls (.int y :: .int x :: st) M :=
  fun H locs la hP hS hl => lv_icmp_le F.x F.b hd ht (fun _ => K H locs la hP hS hl) (fun q => absurd h q)
theorem w_icmp_leF (F : Fy G p l s m args meth c cc own nL ret) {x y : Int32} {off : Int} {tgt : Nat} (hd : decode cc pc = .ok (.if_icmp .le off, 3)) (ht : (pc : Int) + off = (tgt : Int)) (h : ¬ x ≤ y) (K : Rw G p l e R s m args below meth c nL u9 w9 Q (pc + 3) ls st M) : Rw G p l e R s m args below meth c nL u9 w9 Q pc ls (.int y :: .int x :: st) M :=
  fun H locs la hP hS hl => lv_icmp_le F.x F.b hd ht (fun q => absurd q h) (fun _ => K H locs la hP hS hl)
theorem w_if_leT (F : Fy G p l s m args meth c cc own nL ret) {x : Int32} {off : Int} {tgt : Nat} (hd : decode cc pc = .ok (.ifCond .le off, 3)) (ht : (pc : Int) + off = (tgt : Int)) (h : x ≤ 0) (K : Rw G p l e R s m args below meth c nL u9 w9 Q tgt ls st M) : Rw G p l e R s m args below meth c nL u9 w9 Q pc ls (.int x :: st) M :=
  fun H locs la hP hS hl => lv_if_le F.x F.b hd ht (fun _ => K H locs la hP hS hl) (fun q => absurd h q)
theorem w_if_leF (F : Fy G p l s m args meth c cc own nL ret) {x : Int32} {off : Int} {tgt : Nat} (hd : decode cc pc = .ok (.ifCond .le off, 3)) (ht : (pc : Int) + off = (tgt : Int)) (h : ¬ x ≤ 0) (K : Rw G p l e R s m args below meth c nL u9 w9 Q (pc + 3) ls st M) : Rw G p l e R s m args below meth c nL u9 w9 Q pc ls (.int x :: st) M :=
  fun H locs la hP hS hl => lv_if_le F.x F.b hd ht (fun q => absurd q h) (fun _ => K H locs la hP hS hl)
end RB
/-- the law's number of place j: the script's, or one made of j -/
def cellV (L : Nat) (xs : Nat → Int32) (j : Nat) : Int32 := if j < L then xs j else (7919 : Int32) * (nI j + nI 5) * (nI j + nI 17)
def rmC : Room := { frames := 2, cells := 0, slots := 0, locals := 128 }
def PcK (G : GM) (b L : Nat) (xs : Nat → Int32) (j : Nat) (M : Mem) : Array Value → State → Prop := va_Pc [.ref b, .int (nI j)] (fun U => (g0 G ≤ U.heap.size ∧ va_P (gD G) vwCl (wd G M) U.heap ∧ KS G U U.heap) ∧ va_X b L xs U U.heap ∧ b < U.heap.size ∧ ¬ A0 G b)
theorem PcK_blind {G : GM} {b L j : Nat} {xs : Nat → Int32} {M : Mem} : FrameBlind (PcK G b L xs j M) := fun a U g mk q => ⟨q.1, ⟨q.2.1.1, q.2.1.2.1, q.2.1.2.2.calling g mk a⟩, q.2.2.1.moved (Vm.Alike.refl U.vm), q.2.2.2.1, q.2.2.2.2⟩
theorem ys_L_cell : yS yL_cell cL_cell 2 (some .int) 2 := ⟨sc_L_cell, ini_L, cd_L_cell, ⟨by decide, by decide, by decide +kernel⟩, by decide⟩
theorem ys_L_acts : yS yL_acts cL_acts 7 (some .int) 2 := ⟨sc_L_acts, ini_L, cd_L_acts, ⟨by decide, by decide, by decide +kernel⟩, by decide⟩
set_option maxHeartbeats 4000000 in
theorem m_L_cell {l : Launch} {G : GM} (hl : l.stackTraces = false) (hG : GG G) {b L j : Nat} {xs : Nat → Int32} {M : Mem} (hj : j < 2 ^ 30) (hL : L ≤ 260) : Met l yL_cell (.code yL_cell cL_cell 2 (some .int) :: wsA) rmC (PcK G b L xs j M) (QcR G (some (.int (cellV L xs j))) M) 0 0 (A0 G) := by
  refine Met.ofW (cc := cL_cell) (maxL := 2) (ret := some .int) (by decide) rfl (fun p e s m args below meth c s₁ B hml hv => ?_)
  obtain ⟨rfl, ⟨h0, hP, hK⟩, hx, hb, hA⟩ := hv
  have F : Fy G p l s m ([Value.ref b, Value.int (nI j)] : List Value).toArray meth c cL_cell RL 2 (some .int) := ⟨B.exec, B.bytes, B.returns, hml, findClass_of_methodNamed B.named, fun w hw => atoms_spec (ws := .code yL_cell cL_cell 2 (some .int) :: wsA) B.pre w (List.mem_cons_of_mem _ hw), B.notSynchronized, hK, h0, hG, hl⟩
  have S : Sx G b L xs s := ⟨hx, hb, hA⟩
  have K : Rw G p l e rmC s m ([Value.ref b, Value.int (nI j)] : List Value).toArray below meth c 2 0 0 (MQ below (QcR G (some (.int (cellV L xs j))) M) ([Value.ref b, Value.int (nI j)] : List Value).toArray s 0 0 (A0 G)) 0 [(0, .ref b), (1, .int (nI j))] [] M := by
    refine w_iload_n F 1 dL_cell_0 rfl rfl ?_
    refine w_aload_n F 0 dL_cell_1 rfl rfl ?_
    refine w_slen F S dL_cell_2 ?_
    by_cases q : j < L
    · have e : cellV L xs j = xs j := if_pos q
      rw [e]
      refine w_icmp_geF (tgt := 12) F dL_cell_3 (by decide) (show ¬ nI L ≤ nI j by rw [nI_leI (by omega) (by omega)]; omega) ?_
      refine w_aload_n F 0 dL_cell_6 rfl rfl ?_
      refine w_iload_n F 1 dL_cell_7 rfl rfl ?_
      refine w_sld F S (vp_in_nI q (by omega)) dL_cell_8 ?_
      rw [nI_clamp (show j < 2 ^ 31 by omega)]
      refine w_goto (tgt := 24) F dL_cell_9 (by decide) ?_
      exact w_iret F dL_cell_24 rfl
    · have e : cellV L xs j = (7919 : Int32) * (nI j + nI 5) * (nI j + nI 17) := if_neg q
      rw [e]
      refine w_icmp_geT (tgt := 12) F dL_cell_3 (by decide) (show nI L ≤ nI j by rw [nI_leI (by omega) (by omega)]; omega) ?_
      refine w_sipush F dL_cell_12 (v := 7919) (by decide) ?_
      refine w_iload_n F 1 dL_cell_15 rfl rfl ?_
      refine w_iconst F dL_cell_16 (v := nI 5) (by decide) ?_
      refine w_iadd F dL_cell_17 ?_
      refine w_imul F dL_cell_18 ?_
      refine w_iload_n F 1 dL_cell_19 rfl rfl ?_
      refine w_bipush F dL_cell_20 (v := nI 17) (by decide) ?_
      refine w_iadd F dL_cell_22 ?_
      refine w_imul F dL_cell_23 ?_
      exact w_iret F dL_cell_24 rfl
  rw [lg_entry_eq]
  exact K s.heap [] _ hP va_S.rf (lv_entry [.ref b, .int (nI j)] (n := 2) (Nat.le_of_ble_eq_true rfl))
section RC
variable {G : GM} {p : Program} {l : Launch} {e : Env} {R : Room} {s : State} {m : MethodId} {args : Array Value} {below : List Frame} {meth : Method} {c : Code} {cc : ByteArray} {own : String} {nL : Nat} {ret : Option FieldType} {u9 w9 : Nat} {Q : State → Prop}
variable {pc : Nat} {ls : List (Nat × Value)} {st rest : List Value} {M : Mem}
variable {y : MethodName} {bytes : ByteArray} {maxL n ix : Nat} {ret' : Option FieldType} {As : List Value}
theorem w_cK (F : Fy G p l s m args meth c cc own nL ret) {b L j : Nat} {xs : Nat → Int32} (S : Sx G b L xs s) (hL : L ≤ 260) (hj : j < 2 ^ 30) (hd : decode cc pc = .ok (.invokestatic ix, 3)) (hl : Cond.methodLink own ix yL_cell ∈ wsA) (hR : 3 ≤ R.frames ∧ 8 + 13 + 128 ≤ R.locals) (hu : u9 ≤ R.cells ∧ w9 ≤ R.slots) (hW : (rest.map fun v => v.category).sum ≤ 8)
    (K : Rw G p l e R s m args below meth c nL u9 w9 Q (pc + 3) ls (.int (cellV L xs j) :: rest) M) : Rw G p l e R s m args below meth c nL u9 w9 Q pc ls (.int (nI j) :: .ref b :: rest) M := by
  intro H locs la hP hS hla
  have pre : ∀ U : State, U.heap = H → s.WarmedH U.vm → PcK G b L xs j M ([Value.ref b, Value.int (nI j)] : List Value).toArray U := fun U hU hW => ⟨rfl, (pre_okY (av := [.ref b, .int (nI j)]) F hP hS U hU hW).2, by rw [hU]; exact (S.1.kept (hS.2.1 b S.2.1 S.2.2)).moved hW.alike, by rw [hU]; exact Nat.lt_of_lt_of_le S.2.1 hS.1, S.2.2⟩
  refine go_run (va_runS (As := [.ref b, .int (nI j)]) (rest := rest) (cfy F) (m_L_cell F.st F.gg hj hL) (va_cwS 2 F.ws (gcS hl ys_L_cell) rfl rfl rfl ys_L_cell.2.2.2.1 ⟨hR.1, hR.2⟩) ⟨PcK_blind, pre⟩ rfl rfl hla.1 rfl (hWr hW) hd ⟨hu.1, hu.2⟩) hS fun H1 locs1 hP hS => ?_
  exact K H1 locs1 la hP hS hla
/-- the acts' call -/
theorem w_cA {v : Int32} {M' : Mem} {rm : Room} (F : Fy G p l s m args meth c cc own nL ret) (hC : Met l y (.code y bytes maxL ret' :: wsA) rm (PcG G As M) (QcR G (some (.int v)) M') 1 6 (A0 G)) (hd : decode cc pc = .ok (.invokestatic ix, 3)) (hl : Cond.methodLink own ix y ∈ wsA) (hy : yS y bytes maxL ret' n) (hn : As.length = n) (hrm : rm.cells = 1 ∧ rm.slots = 6) (hR : rm.frames + 1 ≤ R.frames ∧ 8 + (maxL + 11) + rm.locals ≤ R.locals) (hu : u9 + 1 ≤ R.cells ∧ w9 + 6 ≤ R.slots) (hst : st = As.reverse ++ rest) (hW : (rest.map fun v => v.category).sum ≤ 8)
    (K : Rw G p l e R s m args below meth c nL (u9 + 1) (w9 + 6) Q (pc + 3) ls (.int v :: rest) M') : Rw G p l e R s m args below meth c nL u9 w9 Q pc ls st M := by
  intro H locs la hP hS hla
  have hr := va_runS (H := H) (locs := locs) (cells := u9) (slots := w9) (e := e) (below := below) (meth := meth) (g := F0 m pc la st) (As := As) (rest := rest) (cfy F) hC (va_cwS n F.ws (gcS hl hy) rfl hrm.1 hrm.2 hy.2.2.2.1 hR) ⟨PcG_blind, pre_okY F hP hS⟩ rfl hn hla.1 hst (hWr hW) hd hu
  intro T hT X
  obtain ⟨v', st₀, t, T', L, h0, X', hL, e1, e2, ⟨⟨hv, hP2⟩, hF⟩, sg⟩ := hr T hT X
  cases hv
  obtain ⟨t2, a1, b1⟩ := K T'.heap (locs ++ L) la (by rw [e1]; exact hP2) ⟨Nat.le_trans hS.1 (by rw [← h0, e1]; exact hF.1), fun q h1 h2 => by
      rw [e1, hF.2 q (by rw [h0]; exact Nat.lt_of_lt_of_le h1 hS.1) h2, h0]; exact hS.2.1 q h1 h2, fun q hq => by
      rcases List.mem_append.mp hq with h | h
      · exact hS.2.2 q h
      · exact hL q h⟩ hla T' rfl X'
  exact ⟨t2, sg t2 a1, b1⟩
end RC
