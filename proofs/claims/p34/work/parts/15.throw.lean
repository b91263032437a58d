/-! ===== throw new E("text"), in DrumTowns ===== -/
abbrev exN : List String := ["java/lang/RuntimeException", "java/lang/Exception"]
def atOk (ic : Nat) (E : String) : Prop := (∀ w ∈ vx_atS RX6 ic E exN, w ∈ lw_tbl) ∧ (∀ w ∈ vx_atS RX6 ic E exN, (goodWord w || isNst w) = true) ∧ (∀ w ∈ vx_atS RX6 ic E exN, vx_ot w = true) ∧ Bundle.fit E = true
theorem atOk_of {ic : Nat} {E : String} (h1 : (vx_atS RX6 ic E exN).all (fun w => decide (w ∈ lw_tbl)) = true) (h2 : (vx_atS RX6 ic E exN).all (fun w => (goodWord w || isNst w) && vx_ot w) = true) (h3 : Bundle.fit E = true) : atOk ic E := by
  refine ⟨fun w hw => ?_, fun w hw => ?_, fun w hw => ?_, h3⟩
  · exact of_decide_eq_true (List.all_eq_true.mp h1 w hw)
  · have := List.all_eq_true.mp h2 w hw
    simp only [Bool.and_eq_true] at this
    exact this.1
  · have := List.all_eq_true.mp h2 w hw
    simp only [Bool.and_eq_true] at this
    exact this.2
theorem atI : atOk 359 exI := atOk_of (by decide +kernel) (by decide +kernel) (by decide +kernel)
theorem atA : atOk 56 exA := atOk_of (by decide +kernel) (by decide +kernel) (by decide +kernel)
theorem atS : atOk 67 exS := atOk_of (by decide +kernel) (by decide +kernel) (by decide +kernel)
section TH
variable {G : GM} {p : Program} {l : Launch} {e : Env} {s : State} {m : MethodId} {args : Array Value} {below : List Frame} {meth : Method} {c : Code} {cc : ByteArray} {nL : Nat} {ret : Option FieldType} {d : Nat}
theorem at_hat {ic : Nat} {E : String} (F : Fx G p l s m args meth c cc RX6 nL ret) (h : atOk ic E) : ∀ w ∈ vx_atS RX6 ic E exN, w.before args s = true := by
  intro w hw
  by_cases hg : goodWord w = true
  · exact F.ws w (inA (h.1 w hw) hg)
  · have hn : isNst w = true := by
      have := h.2.1 w hw
      simp only [Bool.or_eq_true] at this
      exact this.resolve_left hg
    refine F.n (h.1 w hw) hn ?_
    have := h.2.2.1 w hw
    simp only [vx_ot, Bool.or_eq_true] at this
    exact this.resolve_right hg
variable {γ : Type} {vf : γ → Option Value} {pc : Nat} {ls : List (Nat × Value)} {st : List Value} {M : Mem} {E : String} {ik ic is : Nat} {text : String}
theorem fitN : ∀ n ∈ exN, Bundle.fit n = true := by decide +kernel
theorem r_throw (F : Fx G p l s m args meth c cc RX6 nL ret) (h : atOk ic E) (hk : Cond.classLink RX6 ik E ∈ wsA) (hi : Cond.initialized E ∈ wsA) (hs : (is, text) ∈ strW)
    (d0 : decode cc pc = .ok (.new ik, 3)) (d3 : decode cc (pc + 3) = .ok (.dup, 1)) (d4 : decode cc (pc + 4) = .ok (.ldc is, 2)) (d6 : decode cc (pc + 6) = .ok (.invokespecial ic, 3)) (d9 : decode cc (pc + 9) = .ok (.athrow, 1)) (hd : 6 ≤ d) (hst : (st.map fun v => v.category).sum ≤ 8) :
    Rf G p l e s m args below meth c d nL (emT vf) (some (.inr E, M)) pc ls st M := by
  intro r hX H locs la hP hS hl
  cases hX
  obtain ⟨sa, hsa⟩ := F.ks.2.2.2.2.2.2.2.1 _ hs
  exact vx_throwS F.x F.b F.st F.ow h.2.2.2 fitN (F.ws _ hk) (F.ws _ hi) hsa (at_hat F h) (fun w hw => by
      rcases List.mem_cons.mp hw with rfl | hw
      · rfl
      · rcases List.mem_cons.mp hw with rfl | hw
        · rfl
        · exact h.2.2.1 w hw) F.ks.2.2.2.2.2.1 F.ks.2.2.2.2.2.2.1 hS (hl.1.trans F.ml.symm) d0 d3 d4 d6 d9 (fun x hx => (F.ex x hx).elim) (by show 5 < d; omega) (by show _ + 82 ≤ 64 * d; omega) (Nat.le_refl _) (Nat.le_refl _) F.lk
    (fun t hal hz hq => ⟨⟨rfl, hP.kept (fun k q hk => hq _ (hP k q hk).lt)⟩, Nat.le_trans hS.1 hz, fun q h1 h2 => by rw [hq q (Nat.lt_of_lt_of_le h1 hS.1)]; exact hS.2.1 q h1 h2⟩) hS.2.2 (Nat.le_refl _) (Nat.le_refl _)
theorem r_throwW (F : Fx G p l s m args meth c cc RX6 nL ret) (h : atOk ic E) (hk : Cond.classLink RX6 ik E ∈ wsA) (hi : Cond.initialized E ∈ wsA) (hs : (is, text) ∈ strW)
    (d0 : decode cc pc = .ok (.new ik, 3)) (d3 : decode cc (pc + 3) = .ok (.dup, 1)) (d4 : decode cc (pc + 4) = .ok (.ldc_w is, 3)) (d6 : decode cc (pc + 7) = .ok (.invokespecial ic, 3)) (d9 : decode cc (pc + 10) = .ok (.athrow, 1)) (hd : 6 ≤ d) (hst : (st.map fun v => v.category).sum ≤ 8) :
    Rf G p l e s m args below meth c d nL (emT vf) (some (.inr E, M)) pc ls st M := by
  intro r hX H locs la hP hS hl
  cases hX
  obtain ⟨sa, hsa⟩ := F.ks.2.2.2.2.2.2.2.1 _ hs
  exact vx_throwSW F.x F.b F.st F.ow h.2.2.2 fitN (F.ws _ hk) (F.ws _ hi) hsa (at_hat F h) (fun w hw => by
      rcases List.mem_cons.mp hw with rfl | hw
      · rfl
      · rcases List.mem_cons.mp hw with rfl | hw
        · rfl
        · exact h.2.2.1 w hw) F.ks.2.2.2.2.2.1 F.ks.2.2.2.2.2.2.1 hS (hl.1.trans F.ml.symm) d0 d3 d4 d6 d9 (fun x hx => (F.ex x hx).elim) (by show 5 < d; omega) (by show _ + 82 ≤ 64 * d; omega) (Nat.le_refl _) (Nat.le_refl _) F.lk
    (fun t hal hz hq => ⟨⟨rfl, hP.kept (fun k q hk => hq _ (hP k q hk).lt)⟩, Nat.le_trans hS.1 hz, fun q h1 h2 => by rw [hq q (Nat.lt_of_lt_of_le h1 hS.1)]; exact hS.2.1 q h1 h2⟩) hS.2.2 (Nat.le_refl _) (Nat.le_refl _)
end TH
