/-! ===== pure: tools ===== -/
theorem bnd_e {α β : Type} (x : α) (B : α → β) : bnd x B = B x := (Eq.refl (bnd x B)).trans (by unfold bnd; rfl)
theorem chk_t {β : Type} {b : Bool} {X : Option β} (h : b = true) : chk b X = X := by rw [h]; rfl
theorem chk_tt {β : Type} {X : Option β} : chk true X = X := rfl
theorem bn_s {α β : Type} (r : α) (M : Mem) (K : α → Mem → Option β) : bn (some (r, M)) K = K r M := rfl
theorem bt_s {α β : Type} (r : α) (M : Mem) (K : α → Mem → Option ((β ⊕ String) × Mem)) : bt (some (.inl r, M)) K = K r M := rfl
theorem bt_x {α β : Type} (E : String) (M : Mem) (K : α → Mem → Option ((β ⊕ String) × Mem)) : bt (some (.inr E, M)) K = some (.inr E, M) := rfl
theorem inb_n {j n : Nat} (h : j < n) (hn : j < 2 ^ 31) : inb (nI j) n = true := by
  have h1 : ¬ nI j < 0 := nI_pos (by omega)
  simp [inb, h1, nI_clamp (show j < 2 ^ 31 by omega), h]
theorem inb_ex {x : Int32} {n : Nat} (hn : n < 2 ^ 31) (h : inb x n = true) : ∃ j, j < n ∧ x = nI j := vp_in_of (inb_in h) hn
theorem inb_f {x : Int32} {n : Nat} (hn : n < 2 ^ 31) (h : inb x n = false) : x < 0 ∨ nI n ≤ x := by
  rcases pk_ix x hn with q | q | ⟨j, hj, rfl⟩
  · exact Or.inl q
  · exact Or.inr q
  · rw [inb_n hj (by omega)] at h; cases h
-- comparisons of numbers
theorem le_t {a b : Nat} (h : a ≤ b) (hb : b < 2 ^ 31) : (nI a ≤ nI b) = True := eq_true ((nI_leI (by omega) hb).mpr h)
theorem le_f {a b : Nat} (h : b < a) (ha : a < 2 ^ 31) : (nI a ≤ nI b) = False := eq_false (fun q => by have := (nI_leI ha (by omega)).mp q; omega)
theorem lt_t {a b : Nat} (h : a < b) (hb : b < 2 ^ 31) : (nI a < nI b) = True := eq_true ((nI_ltI (by omega) hb).mpr h)
theorem lt_f {a b : Nat} (h : b ≤ a) (ha : a < 2 ^ 31) : (nI a < nI b) = False := eq_false (fun q => by have := (nI_ltI ha (by omega)).mp q; omega)
theorem eq_f {a b : Nat} (h : a ≠ b) (ha : a < 2 ^ 31) (hb : b < 2 ^ 31) : (nI a = nI b) = False := eq_false (fun q => h ((nI_eq ha hb).mp q))
theorem L0_ : (0 : Int32) = nI 0 := rfl
theorem L1_ : (1 : Int32) = nI 1 := rfl
theorem L2_ : (2 : Int32) = nI 2 := rfl
theorem L3_ : (3 : Int32) = nI 3 := rfl
theorem L4_ : (4 : Int32) = nI 4 := rfl
theorem L5_ : (5 : Int32) = nI 5 := rfl
theorem L6_ : (6 : Int32) = nI 6 := rfl
theorem L7_ : (7 : Int32) = nI 7 := rfl
theorem L8_ : (8 : Int32) = nI 8 := rfl
theorem L9_ : (9 : Int32) = nI 9 := rfl
theorem L10_ : (10 : Int32) = nI 10 := rfl
theorem L11_ : (11 : Int32) = nI 11 := rfl
theorem L12_ : (12 : Int32) = nI 12 := rfl
theorem L13_ : (13 : Int32) = nI 13 := rfl
theorem L14_ : (14 : Int32) = nI 14 := rfl
theorem L15_ : (15 : Int32) = nI 15 := rfl
theorem L16_ : (16 : Int32) = nI 16 := rfl
theorem L20_ : (20 : Int32) = nI 20 := rfl
theorem L22_ : (22 : Int32) = nI 22 := rfl
theorem L23_ : (23 : Int32) = nI 23 := rfl
theorem L24_ : (24 : Int32) = nI 24 := rfl
theorem L25_ : (25 : Int32) = nI 25 := rfl
theorem L30_ : (30 : Int32) = nI 30 := rfl
theorem L31_ : (31 : Int32) = nI 31 := rfl
theorem L32_ : (32 : Int32) = nI 32 := rfl
theorem L33_ : (33 : Int32) = nI 33 := rfl
theorem L36_ : (36 : Int32) = nI 36 := rfl
theorem L40_ : (40 : Int32) = nI 40 := rfl
theorem L41_ : (41 : Int32) = nI 41 := rfl
theorem L45_ : (45 : Int32) = nI 45 := rfl
theorem L48_ : (48 : Int32) = nI 48 := rfl
theorem L60_ : (60 : Int32) = nI 60 := rfl
theorem L63_ : (63 : Int32) = nI 63 := rfl
theorem L64_ : (64 : Int32) = nI 64 := rfl
theorem L97_ : (97 : Int32) = nI 97 := rfl
theorem L100_ : (100 : Int32) = nI 100 := rfl
theorem L107_ : (107 : Int32) = nI 107 := rfl
theorem L108_ : (108 : Int32) = nI 108 := rfl
theorem L126_ : (126 : Int32) = nI 126 := rfl
theorem L150_ : (150 : Int32) = nI 150 := rfl
theorem L200_ : (200 : Int32) = nI 200 := rfl
theorem L294_ : (294 : Int32) = nI 294 := rfl
theorem L366_ : (366 : Int32) = nI 366 := rfl
theorem L402_ : (402 : Int32) = nI 402 := rfl
theorem L408_ : (408 : Int32) = nI 408 := rfl
theorem L414_ : (414 : Int32) = nI 414 := rfl
theorem L420_ : (420 : Int32) = nI 420 := rfl
theorem L421_ : (421 : Int32) = nI 421 := rfl
theorem L422_ : (422 : Int32) = nI 422 := rfl
theorem L423_ : (423 : Int32) = nI 423 := rfl
theorem L424_ : (424 : Int32) = nI 424 := rfl
theorem L425_ : (425 : Int32) = nI 425 := rfl
theorem L426_ : (426 : Int32) = nI 426 := rfl
theorem L427_ : (427 : Int32) = nI 427 := rfl
theorem L428_ : (428 : Int32) = nI 428 := rfl
theorem L999_ : (999 : Int32) = nI 999 := rfl
theorem L2568_ : (2568 : Int32) = nI 2568 := rfl
theorem L2996_ : (2996 : Int32) = nI 2996 := rfl
theorem Lm1 : (-1 : Int32) + 1 = 0 := rfl
theorem suc {n c : Nat} (h : c < n) : ∃ m, n = m + 1 ∧ c ≤ m := ⟨n - 1, by omega, by omega⟩
-- what is written, what stays
def ag (P : Nat → Nat → Prop) (M M' : Mem) : Prop := M'.2 = M.2 ∧ ∀ c i, P c i → M'.1 c i = M.1 c i
theorem ag.rf {P : Nat → Nat → Prop} {M : Mem} : ag P M M := ⟨rfl, fun _ _ _ => rfl⟩
theorem ag.tr {P : Nat → Nat → Prop} {M M1 M2 : Mem} (h : ag P M M1) (h' : ag P M1 M2) : ag P M M2 := ⟨h'.1.trans h.1, fun c i q => (h'.2 c i q).trans (h.2 c i q)⟩
theorem ag.mono {P P' : Nat → Nat → Prop} {M M1 : Mem} (h : ag P M M1) (q : ∀ c i, P' c i → P c i) : ag P' M M1 := ⟨h.1, fun c i r => h.2 c i (q c i r)⟩
theorem ag.w {P : Nat → Nat → Prop} {M M1 : Mem} (h : ag P M M1) {k i : Nat} (v : Int32) (hn : ¬ P k i) : ag P M (mw M1 k i v) := by
  refine ⟨h.1, fun c j q => ?_⟩
  show (if c = k ∧ j = i then v else M1.1 c j) = _
  have hz : ¬ (c = k ∧ j = i) := by
    rintro ⟨rfl, rfl⟩
    exact hn q
  rw [if_neg hz]
  exact h.2 c j q
theorem mwr {M : Mem} {k i c j : Nat} {v : Int32} : (mw M k i v).1 c j = if c = k ∧ j = i then v else M.1 c j := rfl
theorem mw2 {M : Mem} {k i : Nat} {v : Int32} : (mw M k i v).2 = M.2 := rfl
