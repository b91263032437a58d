/-! ===== class and reference side by side ===== -/
def JX (M : Mem) (F : Nat → Int32) (n : Nat) (Sv : Nat → Nat → Int32) (l : Nat) (B : Nat → Int32) : Prop := Xs M F n Sv ∧ M.1 2 1 = nI l ∧ ∀ i, i < l → M.1 3 i = B i
def JM (M : Mem) (F : Nat → Int32) (n : Nat) (Sv : Nat → Nat → Int32) (l : Nat) (B : Nat → Int32) : Prop := Ms M F n Sv ∧ M.1 24 4 = nI l ∧ ∀ i, i < l → M.1 26 i = B i
def JS (F : Nat → Int32) (k n : Nat) (Sv : Nat → Nat → Int32) (l : Nat) : Prop := SI F k ∧ (∀ j, j < n → ∃ k', SI (Sv j) k') ∧ l ≤ 60
def Jt (M : Mem) : Prop := ∃ F k n Sv l B, JX M F n Sv l B ∧ JM M F n Sv l B ∧ JS F k n Sv l
def aX : Nat → Nat → Prop := fun c _ => 24 ≤ c ∧ c < 34
def aM : Nat → Nat → Prop := fun c _ => c < 24 ∨ 34 ≤ c
section JJ
variable {M M' : Mem} {F : Nat → Int32} {n l : Nat} {Sv : Nat → Nat → Int32} {B : Nat → Int32}
theorem Xs.cp (h : Xs M F n Sv) (e : ∀ c i, (c = 0 ∧ i = 2 ∨ c = 1 ∨ 34 ≤ c) → M'.1 c i = M.1 c i) : Xs M' F n Sv := by
  obtain ⟨hF, p, hp, hS⟩ := h
  refine ⟨fun i hi => by rw [e _ _ (by omega)]; exact hF i hi, p, ⟨hp.1, by rw [e _ _ (by omega)]; exact hp.2.1, fun j hj => by rw [e _ _ (by omega)]; exact hp.2.2.1 j hj, hp.2.2.2⟩, fun j hj i hi => ?_⟩
  have := hp.2.2.1 j (by have := hp.1; omega)
  rw [e _ _ (by omega)]
  exact hS j hj i hi
theorem JX.cp (h : JX M F n Sv l B) (e : ∀ c i, (c = 0 ∧ i = 2 ∨ c = 1 ∨ c = 3 ∨ c = 2 ∧ i = 1 ∨ 34 ≤ c) → M'.1 c i = M.1 c i) : JX M' F n Sv l B :=
  ⟨h.1.cp (fun c i q => e c i (by omega)), by rw [e _ _ (by omega)]; exact h.2.1, fun i hi => by rw [e _ _ (by omega)]; exact h.2.2 i hi⟩
theorem JM.cp (h : JM M F n Sv l B) (e : ∀ c i, (c = 24 ∧ (i = 1 ∨ i = 4) ∨ c = 25 ∧ i < 2996 ∨ c = 26) → M'.1 c i = M.1 c i) : JM M' F n Sv l B := by
  obtain ⟨⟨h1, h2, h3, h4⟩, h5, h6⟩ := h
  refine ⟨⟨fun i hi => by rw [e _ _ (by omega)]; exact h1 i hi, by rw [e _ _ (by omega)]; exact h2, h3, fun j i hj hi => by rw [e _ _ (by omega)]; exact h4 j i hj hi⟩, by rw [e _ _ (by omega)]; exact h5, fun i hi => by rw [e _ _ (by omega)]; exact h6 i hi⟩
theorem JX.q (h : JX M F n Sv l B) (a : ag xQ M M') : JX M' F n Sv l B := h.cp (fun c i q => a.2 c i (by unfold xQ; omega))
theorem JM.q (h : JM M F n Sv l B) (a : ag mQ M M') : JM M' F n Sv l B := h.cp (fun c i q => a.2 c i (by unfold mQ; omega))
theorem JX.m (h : JX M F n Sv l B) (a : ag aM M M') : JX M' F n Sv l B := h.cp (fun c i q => a.2 c i (by unfold aM; omega))
theorem JM.x (h : JM M F n Sv l B) (a : ∀ c i, aX c i → M'.1 c i = M.1 c i) : JM M' F n Sv l B := h.cp (fun c i q => a c i (by unfold aX; omega))
theorem JM.co (h : JM M F n Sv l B) (z : Int32) : JM (mw M 24 2 z) F n Sv l B := h.cp (fun c i q => mwn (by omega))
end JJ
/-- the class's answer and the reference's: the same, or the exception that the code names -/
def Rs (es : List String) (r : Int32 ⊕ String) (c v : Int32) : Prop := (r = .inl v ∧ c = nI 0) ∨ ∃ j E, es[j]? = some E ∧ r = .inr E ∧ c = nI (j + 1)
def Op (es : List String) (cl : Mem → Option ((Int32 ⊕ String) × Mem)) (md : Mem → Option (Int32 × Mem)) (M : Mem) : Prop :=
  ∃ r M1, cl M = some (r, M1) ∧ ∀ M1' : Mem, M1'.1 = M1.1 → ∃ v M2, md M1' = some (v, M2) ∧ Jt M2 ∧ Rs es r (M2.1 24 2) v ∧ M2.2 = M1'.2
theorem mX_aX {P : Nat → Nat → Prop} {M M1 M1' : Mem} (a : ag P M M1) (e : M1'.1 = M1.1) (hP : ∀ c i, aX c i → P c i) : ∀ c i, aX c i → M1'.1 c i = M.1 c i := fun c i q => by rw [e]; exact a.2 c i (hP c i q)
/-- a question: both leave the state -/
theorem Op.q {es : List String} {cl : Mem → Option ((Int32 ⊕ String) × Mem)} {md : Mem → Option (Int32 × Mem)} {M : Mem} {F : Nat → Int32} {k n l : Nat} {Sv : Nat → Nat → Int32} {B : Nat → Int32} {r : Int32 ⊕ String}
    (hX : JX M F n Sv l B) (hM : JM M F n Sv l B) (hS : JS F k n Sv l)
    (h1 : ∃ M1, cl M = some (r, M1) ∧ ag xQ M M1)
    (h2 : ∀ M1, JM M1 F n Sv l B → ∃ v c M2, md M1 = some (v, M2) ∧ ag mQ (mw M1 24 2 c) M2 ∧ Rs es r c v) : Op es cl md M := by
  obtain ⟨M1, e1, a1⟩ := h1
  refine ⟨r, M1, e1, fun M1' e => ?_⟩
  have hM1 : JM M1' F n Sv l B := hM.x (mX_aX a1 e (fun c i q => by unfold aX at q; unfold xQ; omega))
  obtain ⟨v, c, M2, e2, a2, hr⟩ := h2 M1' hM1
  refine ⟨v, M2, e2, ⟨F, k, n, Sv, l, B, ?_, (hM1.co c).q a2, hS⟩, ?_⟩
  · have hX1 : JX M1' F n Sv l B := (hX.q a1).cp (fun c i _ => by rw [e])
    exact hX1.cp (fun c i q => by rw [a2.2 c i (by unfold mQ; omega)]; exact mwn (by omega))
  · rw [a2.2 24 2 (by unfold mQ; omega), mw_eq]
    exact ⟨hr, a2.1⟩
theorem Rs.ok {es : List String} {v : Int32} : Rs es (.inl v) (nI 0) v := Or.inl ⟨rfl, rfl⟩
theorem Rs.e1 {E : String} {es : List String} {v : Int32} : Rs (E :: es) (.inr E) (nI 1) v := Or.inr ⟨0, E, rfl, rfl, rfl⟩
theorem Rs.e2 {E E' : String} {es : List String} {v : Int32} : Rs (E' :: E :: es) (.inr E) (nI 2) v := Or.inr ⟨1, E, rfl, rfl, rfl⟩
theorem Rs.e3 {E E' E'' : String} {es : List String} {v : Int32} : Rs (E' :: E'' :: E :: es) (.inr E) (nI 3) v := Or.inr ⟨2, E, rfl, rfl, rfl⟩
theorem ag.xP {M M' : Mem} (a : ag xP M M') : ag xQ M M' := a.mono (fun c i q => by unfold xQ at q; show c < 5 ∨ 10 ≤ c; omega)
