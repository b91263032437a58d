/-! ===== digest: the reference ===== -/
section DM
variable {F : Nat → Int32} {k n l : Nat} {Sv : Nat → Nat → Int32} {B : Nat → Int32}
/-- state and hash -/
def HM (M : Mem) (F : Nat → Int32) (n : Nat) (Sv : Nat → Nat → Int32) (l : Nat) (B : Nat → Int32) (h : Int64) : Prop := JM M F n Sv l B ∧ M.2 0 = h
def oM (M M' : Mem) : Prop := ∀ c i, aM c i → M'.1 c i = M.1 c i
theorem oM.rf {M : Mem} : oM M M := fun _ _ _ => rfl
theorem oM.tr {M M1 M2 : Mem} (h : oM M M1) (h' : oM M1 M2) : oM M M2 := fun c i q => (h' c i q).trans (h c i q)
theorem HM.q {M M' : Mem} {h : Int64} (hH : HM M F n Sv l B h) (a : ag mQ M M') : HM M' F n Sv l B h := ⟨hH.1.q a, by rw [a.1]; exact hH.2⟩
theorem mQ_o {M M' : Mem} (a : ag mQ M M') : oM M M' := fun c i q => a.2 c i (by unfold aM at q; unfold mQ; omega)
theorem eq_o {M M' : Mem} (e : M'.1 = M.1) : oM M M' := fun c i _ => by rw [e]
/-- what a part of the digest does -/
def Dg (f : Option (Unit × Mem)) (M : Mem) (F : Nat → Int32) (n : Nat) (Sv : Nat → Nat → Int32) (l : Nat) (B : Nat → Int32) (h : Int64) : Prop := ∃ M', f = some ((), M') ∧ HM M' F n Sv l B h ∧ oM M M'
end DM
