/-! ===== texts: firstError, learn ===== -/
theorem xT_Q {M M' : Mem} (a : ag xT M M') : ag xQ M M' := a.mono (fun c i q => by unfold xQ at q; unfold xT; omega)
theorem mT_Q {M M' : Mem} (a : ag mT M M') : ag mQ M M' := a.mono (fun c i q => by unfold mQ at q; unfold mT; omega)
def lnD (σ : RS) : Nat → Int32 := fun i => if i < σ.1 then σ.2.2.2.2.2 i else nI 0
