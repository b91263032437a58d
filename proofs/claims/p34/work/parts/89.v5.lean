/-! ===== the law's land: from the first one to the loop ===== -/
section BG
variable {M : Mem} {F : Nat → Int32} {k m n l t : Nat} {Sv : Nat → Nat → Int32} {B : Nat → Int32}
/-- while towns are added: no pin in any drum, no debt -/
def Zf (F : Nat → Int32) : Prop := ∀ i, 6 ≤ i → i < 150 → F i = nI 0
theorem pin_z {F : Nat → Int32} (h : Zf F) (ht : t < 6) : pinsF F 6 t = nI 0 := by
  rw [pins_d (D := fun _ => nI 0) (fun s hs => h _ (by omega) (by omega))]
  exact pin0
/-- a town is added: the wrapper -/
theorem l_add (hX : JX M F n Sv l B) (hI : Iv F k 0) (hZ : Zf F) (hk6 : k < 6) (h2 : F 422 = nI 200) {a : Nat} (ha : a ≤ 200) : ∃ M1 F1 n1 Sv1, f_L_addTown (nI a) M = some (nI k, M1) ∧ JX M1 F1 n1 Sv1 l B ∧ Iv F1 (k + 1) 0 ∧ Zf F1 ∧ F1 422 = nI 200 ∧ totF F1 (k + 1) = totF F k + nI a := by
  have hS := hI.1
  obtain ⟨M1, e1, x1, s1⟩ := y_add1 hX hS ha hk6 (by rw [h2, nI_leI (by omega) (by omega)]; exact ha)
  have o : ∀ i, i ≠ k → i ≠ 423 → addF F k (nI a) i = F i := fun i h1 h2 => by unfold addF; rw [va_up_ne _ _ h2, va_up_ne _ _ h1]
  have ek : addF F k (nI a) k = nI a := by unfold addF; rw [va_up_ne _ _ (by omega), va_up_self]
  refine ⟨M1, addF F k (nI a), nx n, pushS F n Sv, ?_, x1, ⟨s1, fun t ht => ?_, fun i h3 h4 => ?_, ?_, ?_, fun i h3 h4 => ?_⟩, fun i h3 h4 => ?_, ?_, ?_⟩
  · unfold f_L_addTown
    rw [e1]
    rfl
  · by_cases e : t = k
    · subst e; exact ⟨a, ek, by omega⟩
    · rw [o t e (by omega)]; exact hI.2.1 t ht
  · rw [o i (by omega) (by omega)]; exact hI.2.2.1 i h3 h4
  · rw [o _ (by omega) (by omega)]; exact hI.2.2.2.1
  · rw [o _ (by omega) (by omega)]; exact hI.2.2.2.2.1
  · rw [o i (by omega) (by omega)]; exact hI.2.2.2.2.2 i h3 h4
  · rw [o i (by omega) (by omega)]; exact hZ i h3 h4
  · rw [o _ (by omega) (by omega)]; exact h2
  · unfold totF
    rw [sumI_s]
    have hZ' : Zf (addF F k (nI a)) := fun i h3 h4 => by rw [o i (by omega) (by omega)]; exact hZ i h3 h4
    rw [ek, pin_z hZ' hk6, show nI a + nI 0 = nI a from Int32.add_zero _]
    congr 1
    exact sumI_congr (fun i hi => by rw [o i (by omega) (by omega), pin_z hZ (by omega), pin_z hZ' (by omega)])
/-- the tune is learnt, the wear of a dull tooth set -/
theorem learn_I (hI : Iv F k m) (ht : t < k) {σ : RS} (s : SI (putR F (150 + 24 * t) 24 (lnD σ)) k) : Iv (putR F (150 + 24 * t) 24 (lnD σ)) k m ∧ totF (putR F (150 + 24 * t) 24 (lnD σ)) k = totF F k := by
  have hk := hI.1.1
  refine ⟨⟨s, fun i hi => ?_, fun i h3 h4 => ?_, ?_, ?_, fun i h3 h4 => ?_⟩, tot_eq hk (fun i hi => putR_o (by omega))⟩
  · rw [putR_o (by omega)]; exact hI.2.1 i hi
  · rw [putR_o (by omega)]; exact hI.2.2.1 i h3 h4
  · rw [putR_o (by omega)]; exact hI.2.2.2.1
  · rw [putR_o (by omega)]; exact hI.2.2.2.2.1
  · rw [putR_o (by omega)]; exact hI.2.2.2.2.2 i h3 h4
/-- set(1, ..) of the law's beginning -/
theorem y_set1 (hX : JX M F n Sv l B) (hS : SI F k) {x : Nat} (h1 : 1 ≤ x) (h2 : x ≤ 100) : ∃ M1, f_X6_set 1 (nI x) M = some (.inl (F 421), M1) ∧ JX M1 (va_up F 421 (nI x)) (nx n) (pushS F n Sv) l B ∧ SI (va_up F 421 (nI x)) k := by
  obtain ⟨g1, g2, g3, g4⟩ := lv_e 1 (by omega)
  have z1 : ¬ nI x < nI (lvN 1) := by rw [nI_ltI (by omega) (by omega)]; have : lvN 1 = 1 := rfl; omega
  have z2 : nI x ≤ nI (gvN 1) := by rw [nI_leI (by omega) (by omega)]; exact h2
  have s2 : SI (va_up F (420 + 1) (nI x)) k := hS.up (by omega) (by omega) (by omega) (by omega)
  obtain ⟨M1, e1, x1, a1⟩ := hX.save
  have x2 := x1.w (nI x) (420 + 1) (by omega) (lc_set (t := 1) (by omega)).1 (lc_set (t := 1) (by omega)).2
  refine ⟨_, ?_, x2, s2⟩
  unfold f_X6_set
  rw [show f_X6_checkSetting 1 M = some (.inl (), M) from x_cz1 (t := 1) (by omega), bt_s]
  simp (disch := omega) only [bnd_e, chk_tt, bn_s, bt_s, bt_x, inb_n, nI_clamp, le_t, le_f, lt_t, lt_f, eq_f, nI_add, pk_mul, ne_eq, not_true_eq_false, not_false_eq_true, ↓reduceIte, L0_, L1_, L2_, L3_, L4_, L5_, L6_, L7_, L8_, L9_, L10_, L11_, L12_, L13_, L14_, L15_, L16_, L20_, L22_, L23_, L24_, L25_, L30_, L31_, L32_, L33_, L36_, L40_, L41_, L45_, L48_, L60_, L63_, L64_, L97_, L100_, L107_, L108_, L126_, L150_, L200_, L294_, L366_, L402_, L408_, L414_, L420_, L421_, L422_, L423_, L424_, L425_, L426_, L427_, L428_, L999_, L2568_, L2996_, g1, g2, z1, z2, e1]
  have : M1.1 36 1 = F (420 + 1) := x1.1.1.rd (420 + 1) (by omega) (lc_set (t := 1) (by omega)).1 (lc_set (t := 1) (by omega)).2
  rw [this]
theorem l_set1 (hX : JX M F n Sv l B) (hI : Iv F k 0) {x : Nat} (h1 : 1 ≤ x) (h2 : x ≤ 100) : ∃ v M1 F1 n1 Sv1, f_X6_set 1 (nI x) M = some (.inl v, M1) ∧ JX M1 F1 n1 Sv1 l B ∧ Iv F1 k 1 ∧ totF F1 k = totF F k := by
  have hk := hI.1.1
  obtain ⟨M1, e1, x1, s1⟩ := y_set1 hX hI.1 h1 h2
  refine ⟨_, M1, _, _, _, e1, x1, hI.ch s1 (fun i hi => Or.inl ?_) (fun i a b => Or.inl ?_) (Or.inr ⟨x, va_up_self _ _ _, h1, h2⟩) (Or.inl ?_) (fun i a b => Or.inl ?_), tot_eq hk (fun i hi => ?_)⟩
  all_goals rw [va_up_ne _ _ (by omega)]
end BG
