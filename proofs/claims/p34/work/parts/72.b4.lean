/-! ===== bestTrades, side by side ===== -/
theorem aT_Q {M M' : Mem} (a : ag aT M M') : ag xQ M M' := a.mono (fun c i q => by unfold xQ at q; unfold aT; omega)
theorem aV_Q {M M' : Mem} (a : ag aV M M') : ag mQ M M' := a.mono (fun c i q => by unfold mQ at q; unfold aV; omega)
theorem x_trtell {M : Mem} {F : Nat → Int32} {k w : Nat} (hk : k ≤ 6) (h : trO M F k) (hw : w = 0 ∨ (10 ≤ w ∧ w < 16)) : f_X4_tell (nI w) M = some (tdV F k w, M) := by
  obtain ⟨h1, h2, h3⟩ := h
  unfold f_X4_tell tdV
  rcases hw with rfl | hw
  · rw [if_neg (show ¬ (10 : Int32) ≤ nI 0 by decide), h2]
    rfl
  · obtain ⟨i, rfl⟩ : ∃ i, w = 10 + i := ⟨w - 10, by omega⟩
    have e10 : nI (10 + i) - (10 : Int32) = nI i := (show nI (10 + i) - nI 10 = nI i by rw [pk_sub (by omega)]; congr 1; omega)
    rw [if_pos (show (10 : Int32) ≤ nI (10 + i) by rw [show (10 : Int32) = nI 10 from rfl, nI_leI (by omega) (by omega)]; omega), e10, bnd_e, h1, if_neg (show ¬ 10 + i = 0 by omega), show 10 + i - 10 = i by omega]
    unfold f_X4_tell_34
    by_cases q : i < k
    · rw [if_pos q, if_neg (by rw [nI_leI (by omega) (by omega)]; omega), inb_n (by omega) (by omega), chk_tt, nI_clamp (by omega), h3 i q]
    · rw [if_neg q, if_pos (by rw [nI_leI (by omega) (by omega)]; omega)]
      rfl
