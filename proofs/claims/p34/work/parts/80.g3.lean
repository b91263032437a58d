/-! ===== digest, side by side ===== -/
section DN
variable {F : Nat → Int32} {k n l : Nat} {Sv : Nat → Nat → Int32} {B : Nat → Int32}
/-- the digest's end -/
def De (f : Option (Int64 × Mem)) (M : Mem) (F : Nat → Int32) (n : Nat) (Sv : Nat → Nat → Int32) (l : Nat) (B : Nat → Int32) (h : Int64) : Prop := ∃ M', f = some (h, M') ∧ JM M' F n Sv l B ∧ oM M M'
theorem De.o {f : Option (Int64 × Mem)} {M M1 : Mem} {h : Int64} (d : De f M1 F n Sv l B h) (o : oM M M1) : De f M F n Sv l B h := by
  obtain ⟨M', e, j, o'⟩ := d
  exact ⟨M', e, j, o.tr o'⟩
end DN
