/-! who is served there -/
theorem m1_split {x : Int32} (h : (-1 : Int32) ≤ x ∧ x ≤ 7) : x = -1 ∨ ∃ j, j ≤ 7 ∧ x = nI j := by
  by_cases c : 0 ≤ x
  · obtain ⟨j, -, h1, h2⟩ := lit_of (A := 0) (B := 7) rfl rfl (by omega) (by omega) ⟨c, h.2⟩
    exact Or.inr ⟨j, h1, h2⟩
  · left
    have h1 := h.1
    rw [Int32.le_iff_toInt_le] at c h1
    have e : (-1 : Int32).toInt = -1 := by decide
    have e0 : (0 : Int32).toInt = 0 := by decide
    exact Int32.toInt_inj.mp (by omega)
theorem n_eq {a b : Nat} (ha : a < 2 ^ 31) (hb : b < 2 ^ 31) : (nI a = nI b) ↔ a = b := by
  constructor
  · intro q
    have := congrArg Int32.toNatClampNeg q
    rw [nI_clamp ha, nI_clamp hb] at this
    exact this
  · intro q; rw [q]
theorem sv_rest {n a j : Nat} {W : Nat → Nat} {od dn row : Nat → Int32} (hn : n ≤ 8) (ha : a < 256) (hO : OrdM W n 0 (Oc W n)) (h0 : row 0 = nI n) (ho : ∀ p, p < n → od p = nI (Oc W n p)) (hj : j ≤ 7) (v : Int32) :
    ∀ (m p g : Nat), p + m = n → m < g → ∀ (c : Nat), j < c → c ≤ p → S_X7_goes_L37 (nI j) (nI a) od dn row g (nI c) v (nI p) = some (v, nI a, od, dn) := by
  intro m
  induction m with
  | zero =>
    intro p g hp hg c hc hcp
    obtain ⟨g, rfl⟩ : ∃ z, g = z + 1 := ⟨g - 1, by omega⟩
    obtain rfl : p = n := by omega
    rw [S_X7_goes_L37, h0, if_pos (nI_rf p)]
  | succ m ih =>
    intro p g hp hg c hc hcp
    obtain ⟨g, rfl⟩ : ∃ z, g = z + 1 := ⟨g - 1, by omega⟩
    obtain ⟨-, o2, -⟩ := hO p (by omega)
    have co := ho p (by omega)
    generalize Oc W n p = o at o2 co
    have hip := nin (n := p) (N := 8) (by omega) (by omega)
    have s1 := ih (p + 1) g (by omega) (by omega) c hc (by omega)
    have s2 := ih (p + 1) g (by omega) (by omega) (c + 1) (by omega) (by omega)
    have ne : ¬ nI c = nI j := fun q => by have := (n_eq (by omega) (by omega)).mp q; omega
    rw [S_X7_goes_L37, h0, if_neg (nI_ge (by omega) (by omega))]
    unfold jn
    dsimp only
    simp only [nI_clamp (show p < 2 ^ 31 by omega), hip, ↓reduceIte, co, nI_1, Int32.add_zero, ne, bit_h a ha o (by omega), one_ne, s1, s2]
    by_cases b : a.testBit o = true
    · simp only [b, ↓reduceIte]
    · simp only [show a.testBit o = false by simpa using b, Bool.false_eq_true, ↓reduceIte, show ¬ (0 : Int32) = 1 by decide]
theorem sv_loop {n a j : Nat} {W : Nat → Nat} {od od7 dn row : Nat → Int32} (hn : n ≤ 8) (ha : a < 256) (hO : OrdM W n 0 (Oc W n)) (h0 : row 0 = nI n) (ho : ∀ p, p < n → od p = nI (Oc W n p)) (ho7 : ∀ p, p < n → od7 p = nI (Oc W n p)) (hj : j ≤ 7) :
    ∀ (m p f g : Nat), p + m = n → m < f → m < g → ∀ (c : Nat), c ≤ j → c ≤ p → ∃ r, S_X0_servedThere_L4 (nI j) (nI n) (nI a) od f (nI c) (nI p) = some r ∧ S_X7_goes_L37 (nI j) (nI a) od7 dn row g (nI c) (-4) (nI p) = some (r, nI a, od7, dn) := by
  intro m
  induction m with
  | zero =>
    intro p f g hp hf hg c hc hcp
    obtain ⟨f, rfl⟩ : ∃ z, f = z + 1 := ⟨f - 1, by omega⟩
    obtain ⟨g, rfl⟩ : ∃ z, g = z + 1 := ⟨g - 1, by omega⟩
    obtain rfl : p = n := by omega
    rw [S_X7_goes_L37, S_X0_servedThere_L4, h0, if_pos (nI_rf p), if_pos (nI_rf p)]
    exact ⟨_, rfl, rfl⟩
  | succ m ih =>
    intro p f g hp hf hg c hc hcp
    obtain ⟨f, rfl⟩ : ∃ z, f = z + 1 := ⟨f - 1, by omega⟩
    obtain ⟨g, rfl⟩ : ∃ z, g = z + 1 := ⟨g - 1, by omega⟩
    obtain ⟨-, o2, -⟩ := hO p (by omega)
    have co := ho p (by omega)
    have co7 := ho7 p (by omega)
    have rest := fun v => sv_rest (dn := dn) hn ha hO h0 ho7 hj v m (p + 1) g (by omega) (by omega)
    generalize Oc W n p = o at o2 co co7
    have hip := nin (n := p) (N := 8) (by omega) (by omega)
    rw [S_X7_goes_L37, S_X0_servedThere_L4, h0, if_neg (nI_ge (by omega) (by omega)), if_neg (nI_ge (by omega) (by omega))]
    unfold jn
    dsimp only
    simp only [nI_clamp (show p < 2 ^ 31 by omega), hip, ↓reduceIte, co, co7, nI_1, Int32.add_zero, bit_h a ha o (by omega), isAw ha (show o < 8 by omega), Option.bind_some, one_ne]
    by_cases b : a.testBit o = true
    · simp only [b, ↓reduceIte, one_ne]
      by_cases e : c = j
      · subst e
        simp only [↓reduceIte]
        exact ⟨_, rfl, rest _ (c + 1) (by omega) (by omega)⟩
      · have ne : ¬ nI c = nI j := fun q => e ((n_eq (by omega) (by omega)).mp q)
        simp only [ne, ↓reduceIte]
        exact ih (p + 1) f g (by omega) (by omega) (by omega) (c + 1) (by omega) (by omega)
    · simp only [show a.testBit o = false by simpa using b, Bool.false_eq_true, ↓reduceIte, show ¬ (0 : Int32) = 1 by decide]
      exact ih (p + 1) f g (by omega) (by omega) (by omega) c (by omega) (by omega)
