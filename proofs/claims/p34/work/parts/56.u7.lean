/-! ===== play, the text's ends ===== -/
def rowF (F : Nat → Int32) (t : Nat) (P : PS) : Nat → Int32 := putR (putR F (6 + 24 * t) 24 P.1) (294 + 12 * t) 12 P.2.1
def pyF (F : Nat → Int32) (t : Nat) (P : PS) : Nat → Int32 := va_up (va_up (va_up (va_up (rowF F t P) t (F t + P.2.2.2.2 3)) (402 + t) (F (402 + t) + nI 1)) (408 + t) (F (408 + t) + P.2.2.2.2 0)) (414 + t) (F (414 + t) + P.2.2.2.2 3)
theorem rowF_o {F : Nat → Int32} {t i : Nat} {P : PS} (ht : t < 6) (h : i < 6 ∨ 366 ≤ i) : rowF F t P i = F i := by
  unfold rowF
  rw [putR_o (by omega), putR_o (by omega)]
theorem SI.py {F : Nat → Int32} {k t : Nat} {P : PS} (h : SI F k) (ht : t < 6) (hP : ∀ s, s < 24 → msk (P.1 s)) : SI (pyF F t P) k :=
  (((((h.put (fun s hs _ _ => hP s hs) (by omega)).put (fun s hs _ _ => by omega) (by omega)).up (by omega) (by omega) (by omega) (by omega)).up (by omega) (by omega) (by omega) (by omega)).up (by omega) (by omega) (by omega) (by omega)).up (by omega) (by omega) (by omega) (by omega)
theorem lc_tw {t : Nat} (ht : t < 6) : (34 + lc (402 + t) = tc 34 t ∧ lsl (402 + t) = 4) ∧ (34 + lc (408 + t) = tc 34 t ∧ lsl (408 + t) = 5) ∧ 34 + lc (414 + t) = tc 34 t ∧ lsl (414 + t) = 6 := by
  obtain ⟨_, ⟨h1, h2⟩, ⟨h3, h4⟩, h5, h6⟩ := lc_to t ht
  unfold tc
  omega
theorem plF_msk {F : Nat → Int32} {k t : Nat} (hS : SI F k) (ht : t < 6) : ∀ s, s < 24 → msk ((plF F t).1 s) :=
  (ZP_steps (T := tuneF F t) (du := F 421) (re := F 420) 24 0 (startP (drumF F t) (wearF F t)) rfl ⟨fun s hs => hS.2.2.1 _ (by omega) (by omega), 0, by omega, rfl, fun _ => ⟨fun _ => rfl, fun i hi => by omega, fun j hj => by omega⟩⟩).1
theorem x_takeOver {M : Mem} {F : Nat → Int32} {t n l : Nat} {Sv : Nat → Nat → Int32} {B : Nat → Int32} {P : PS} {du re : Int32} (h : JX M F n Sv l B) (ht : t < 6) (hP : Px M du re P) : ∃ M', f_X3_takeOver (tc 34 t) M = some ((), M') ∧ JX M' (pyF F t P) n Sv l B ∧ M'.1 5 6 = P.2.2.2.2 0 ∧ ∀ c i, aX c i → M'.1 c i = M.1 c i := by
  obtain ⟨hD, hW, hL, hH, ⟨c0, c1, c2, c3, c4⟩, hdu, hre', hLb, hm⟩ := hP
  obtain ⟨M1, e1, a1, h1⟩ := x_copy (M := M) (a := 6) (b := tc 34 t + 1) (n := 24) rfl (kTd (kT isL34 ht)) rfl (alD isL34 ht) (by omega)
  obtain ⟨M2, e2, a2, h2⟩ := x_copy (M := M1) (a := 7) (b := tc 34 t + 3) (n := 12) rfl (kTw (kT isL34 ht)) rfl (alW isL34 ht) (by omega)
  have hc : 44 ≤ tc 34 t ∧ tc 34 t + 3 < 68 := by unfold tc; omega
  have r1 : LR M1 34 (putR F (6 + 24 * t) 24 P.1) := LR.putD h.1.1 ht (fun s hs => by rw [h1 s hs, hD s hs]) (fun c i _ _ q => a1.2 c i q)
  have r2 : LR M2 34 (rowF F t P) := LR.putW r1 ht (fun s hs => by rw [h2 s hs, a1.2 _ _ (by omega), hW s hs]) (fun c i _ _ q => a2.2 c i q)
  have x2 : JX M2 (rowF F t P) n Sv l B := h.set r2 (fun c i q => by rw [a2.2 c i (by omega), a1.2 c i (by omega)])
  have g5 : ∀ i, M2.1 5 i = M.1 5 i := fun i => by rw [a2.2 _ _ (by omega), a1.2 _ _ (by omega)]
  have x3 := (((x2.w (F t + P.2.2.2.2 3) t (by omega) (lc_box ht).1 (lc_box ht).2).w (F (402 + t) + nI 1) (402 + t) (by omega) (lc_tw ht).1.1 (lc_tw ht).1.2).w (F (408 + t) + P.2.2.2.2 0) (408 + t) (by omega) (lc_tw ht).2.1.1 (lc_tw ht).2.1.2).w (F (414 + t) + P.2.2.2.2 3) (414 + t) (by omega) (lc_tw ht).2.2.1 (lc_tw ht).2.2.2
  have v0 : M2.1 (tc 34 t) 0 = F t := (r2.box ht).trans (rowF_o ht (by omega))
  have v4 : M2.1 (tc 34 t) 4 = F (402 + t) := (r2.pld ht).trans (rowF_o ht (by omega))
  have v5 : M2.1 (tc 34 t) 5 = F (408 + t) := (r2.snd ht).trans (rowF_o ht (by omega))
  have v6 : M2.1 (tc 34 t) 6 = F (414 + t) := (r2.fell ht).trans (rowF_o ht (by omega))
  refine ⟨_, ?_, x3, ?_, fun c i q => ?_⟩
  · unfold f_X3_takeOver
    simp (disch := omega) only [bnd_e, chk_tt, bn_s, bt_s, bt_x, inb_n, nI_clamp, le_t, le_f, lt_t, lt_f, eq_f, nI_add, pk_mul, ne_eq, not_true_eq_false, not_false_eq_true, ↓reduceIte, L0_, L1_, L2_, L3_, L4_, L5_, L6_, L7_, L8_, L9_, L10_, L11_, L12_, L13_, L14_, L15_, L16_, L20_, L22_, L23_, L24_, L25_, L30_, L31_, L32_, L33_, L36_, L40_, L41_, L45_, L48_, L60_, L63_, L64_, L97_, L100_, L107_, L108_, L126_, L150_, L200_, L294_, L366_, L402_, L408_, L414_, L420_, L421_, L422_, L423_, L424_, L425_, L426_, L427_, L428_, L999_, L2568_, L2996_, kbT isL34 ht, e1, e2, mwn, v0, v4, v5, v6, g5, c0, c3]
  · rw [mwn (by omega), mwn (by omega), mwn (by omega), mwn (by omega), g5]; exact c0
  · unfold aX at q
    rw [mwn (by omega), mwn (by omega), mwn (by omega), mwn (by omega), a2.2 c i (by omega), a1.2 c i (by omega)]
/-- for what throws nothing -/
def OpN (cl md : Mem → Option (Int32 × Mem)) (M : Mem) : Prop := ∃ v M1, cl M = some (v, M1) ∧ ∀ M1' : Mem, M1'.1 = M1.1 → ∃ M2, md M1' = some (v, M2) ∧ Jt M2
