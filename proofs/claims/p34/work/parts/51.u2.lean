theorem SI.add {F : Nat → Int32} {k : Nat} (h : SI F k) (hk : k < 6) (v : Int32) : SI (va_up (va_up F k v) 423 (nI (k + 1))) (k + 1) := by
  obtain ⟨g1, g2, g3, g4, g5⟩ := h
  refine ⟨by omega, va_up_self _ _ _, fun j a b => ?_, ?_, fun f t hf ht q => ?_⟩
  · rw [va_up_ne _ _ (by omega), va_up_ne _ _ (by omega)]; exact g3 j a b
  · rw [va_up_ne _ _ (by omega), va_up_ne _ _ (by omega)]; exact g4
  · rw [va_up_ne _ _ (by omega), va_up_ne _ _ (by omega)]; exact g5 f t hf ht (by omega)
