/-! ===== the law's loop ===== -/
theorem lt_gt5 {L t : Nat} (hL : L ≤ 2560) (ht : t ≤ 2565) (h : ¬ Int32.ofNat L - nI 5 < nI t) : t + 5 ≤ L := by
  have h1 : (nI L - nI 5).toInt = (L : Int) - (5 : Nat) := pk_sub_toInt (by omega) (by omega)
  have h2 : (nI t).toInt = (t : Int) := nI_toInt (by omega)
  have h3 : ¬ (nI L - nI 5).toInt < (nI t).toInt := fun q => h (Int32.lt_iff_toInt_lt.mpr q)
  rw [h1, h2] at h3
  omega
abbrev lzL (G : GM) (b : Nat) (i : Int32) : List (Nat × Value) := [(4, .int i), (0, .ref b), (1, .ref (gA G 0)), (2, .ref (gA G 24)), (3, .ref (gA G 23))]
theorem q_loop {G : GM} {p : Program} {l : Launch} {e : Env} {s : State} {m : MethodId} {args : Array Value} {below : List Frame} {meth : Method} {c : Code} {ret : Option FieldType} {Q : State → Prop} {b L : Nat} {xs : Nat → Int32} (F : Fy G p l s m args meth c cL_law RL 9 ret) (S : Sx G b L xs s) (hL : L ≤ 2560)
    (HE : ∀ (u w : Nat) (i : Int32) (M : Mem), u ≤ 601024 → w ≤ 7293034 → Rw G p l e room_1 s m args below meth c 9 u w Q 1984 (lzL G b i) [] M) :
    ∀ (n t u w : Nat) (M : Mem), L ≤ t + 5 * n → t ≤ 2565 → u + n ≤ 601024 → w + 6 * n ≤ 7293034 → Jt M → Rw G p l e room_1 s m args below meth c 9 u w Q 23 (lzL G b (nI t)) [] M := by
  intro n
  induction n with
  | zero =>
    intro t u w M h1 h2 h3 h4 hJ
    refine w_iload F 0 dL_law_23 rfl ?_
    refine w_aload_n F 1 dL_law_25 rfl rfl ?_
    refine w_slen F S dL_law_26 ?_
    refine w_iconst F dL_law_27 (v := nI 5) (by decide) ?_
    refine w_isub F dL_law_28 ?_
    refine w_icmp_gt (tgt := 1984) F dL_law_29 (by decide) (fun _ => HE u w _ M (by omega) (by omega)) (fun h => ?_)
    have := lt_gt5 hL h2 h
    omega
  | succ n ih =>
    intro t u w M h1 h2 h3 h4 hJ
    refine w_iload F 0 dL_law_23 rfl ?_
    refine w_aload_n F 1 dL_law_25 rfl rfl ?_
    refine w_slen F S dL_law_26 ?_
    refine w_iconst F dL_law_27 (v := nI 5) (by decide) ?_
    refine w_isub F dL_law_28 ?_
    refine w_icmp_gt (tgt := 1984) F dL_law_29 (by decide) (fun _ => HE u w _ M (by omega) (by omega)) (fun h => ?_)
    have h5 := lt_gt5 hL h2 h
    refine q_step F S (i := nI t) (fun j hj => ?_) hJ ⟨by omega, by omega⟩ (fun M' hJ' => ?_)
    · rw [nI_add]; exact vp_in_nI (by omega) (by omega)
    · refine w_iinc (v := nI (t + 5)) (k := 0) (ls' := lzL G b (nI (t + 5))) F dL_law_1978 rfl (by rw [show Int32.ofInt 5 = nI 5 from rfl, nI_add]) (by decide) rfl ?_
      refine w_goto (tgt := 23) F dL_law_1981 (by decide) ?_
      exact ih (t + 5) (u + 1) (w + 6) M' (by omega) (by omega) (by omega) (by omega) hJ'
