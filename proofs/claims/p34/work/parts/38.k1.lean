/-! ===== the static row FIRST_VALUES, read in a constructor ===== -/
theorem fv3 : upd (upd (upd (fun _ => 0) (nI 0).toNatClampNeg (fvT (nI 0).toNatClampNeg)) (nI 1).toNatClampNeg (fvT (nI 1).toNatClampNeg)) (nI 2).toNatClampNeg (fvT (nI 2).toNatClampNeg) = fvT := by
  funext k
  match k with
  | 0 => rfl
  | 1 => rfl
  | 2 => rfl
  | k + 3 => rfl
section RC
variable {G : GM} {p : Program} {l : Launch} {e : Env} {R : Room} {s : State} {m : MethodId} {args : Array Value} {below : List Frame} {meth : Method} {c : Code} {cc : ByteArray} {own : String} {nL : Nat} {ret : Option FieldType} {a9 n9 u9 w9 : Nat} {E9 : Nat → va_E} {Q : State → Prop}
variable {pc : Nat} {ls : List (Nat × Value)} {st : List Value}
/-- getstatic FIRST_VALUES; iload_n; iaload -/
theorem n_fval (F : Fy G p l s m args meth c cc own nL ret) (ha : g0 G ≤ a9) {i1 : Nat} {k9 : Fin 4} {i9 : Nat} {i : Int32} (j : Nat) (hd : decode cc pc = .ok (.getstatic i1, 3)) (hl : Cond.fieldLinkNest own i1 "DrumTowns" "FIRST_VALUES" "[I" "DrumTowns" ∈ lw_tbl) (hd1 : decode cc (pc + 3) = .ok (.iload_n k9, 1)) (hd2 : decode cc (pc + 4) = .ok (.iaload, 1)) (hi9 : (k9 : Nat) = i9) (hj : ls[j]? = some (i9, .int i)) (hi : inb i 3 = true)
    (K : Rn G p l e R s m args below meth c nL a9 n9 E9 u9 w9 Q (pc + 5) ls (.int (fvT i.toNatClampNeg) :: st)) : Rn G p l e R s m args below meth c nL a9 n9 E9 u9 w9 Q pc ls st := by
  intro H locs la hB hS hla
  have hS0 : va_S (A0 G) s.heap H locs := ⟨hS.1, fun q h1 h2 => hS.2.1 q h1 (fun h3 => h2 (Nat.le_trans ha h3)), fun q hq => Nat.le_trans ha (hS.2.2 q hq)⟩
  obtain ⟨t9, hz, ht⟩ := F.ks.2.2.2.2.1
  refine va_getsN F.x F.b hz hS0 F.ow (va_Nw.use rfl (F.ks.2.1 _ hl rfl)) (fun _ h => h) hd ?_
  refine lv_iload_n F.x F.b hd1 hi9 (lv_at hla j hj) ?_
  exact va_ti F.x F.b ht hS0 (inb_in hi) rfl hd2 (K H locs la hB hS hla)
end RC
