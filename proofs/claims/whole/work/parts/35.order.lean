/-! in which order they are there: the class sorts, the reference counts -/
def cnt (P : Nat → Prop) [DecidablePred P] : Nat → Nat
  | 0 => 0
  | k + 1 => cnt P k + (if P k then 1 else 0)
theorem cnt_le {P Q : Nat → Prop} [DecidablePred P] [DecidablePred Q] : ∀ (n : Nat), (∀ j, j < n → P j → Q j) → cnt P n ≤ cnt Q n := by
  intro n
  induction n with
  | zero => intro _; exact Nat.le_refl _
  | succ n ih =>
    intro h
    have h1 := ih (fun j hj => h j (by omega))
    have h2 := h n (by omega)
    simp only [cnt]
    by_cases p : P n
    · rw [if_pos p, if_pos (h2 p)]; omega
    · rw [if_neg p]; split <;> omega
theorem cnt_eq {P Q : Nat → Prop} [DecidablePred P] [DecidablePred Q] (n : Nat) (h : ∀ j, j < n → (P j ↔ Q j)) : cnt P n = cnt Q n :=
  Nat.le_antisymm (cnt_le n (fun j hj => (h j hj).mp)) (cnt_le n (fun j hj => (h j hj).mpr))
theorem cnt_lt {P Q : Nat → Prop} [DecidablePred P] [DecidablePred Q] : ∀ (n : Nat), (∀ j, j < n → P j → Q j) → ∀ c, c < n → ¬ P c → Q c → cnt P n < cnt Q n := by
  intro n
  induction n with
  | zero => intro _ c hc; omega
  | succ n ih =>
    intro h c hc hp hq
    simp only [cnt]
    by_cases e : c = n
    · subst e
      have h1 := cnt_le (P := P) (Q := Q) c (fun j hj => h j (by omega))
      rw [if_neg hp, if_pos hq]; omega
    · have h1 := ih (fun j hj => h j (by omega)) c (by omega) hp hq
      have h2 := h n (by omega)
      by_cases p : P n
      · rw [if_pos p, if_pos (h2 p)]; omega
      · rw [if_neg p]; split <;> omega
/-- one more is counted -/
theorem cnt_add {P Q : Nat → Prop} [DecidablePred P] [DecidablePred Q] : ∀ (n c : Nat), c < n → ¬ P c → Q c → (∀ j, j < n → j ≠ c → (P j ↔ Q j)) → cnt Q n = cnt P n + 1 := by
  intro n
  induction n with
  | zero => intro c hc; omega
  | succ n ih =>
    intro c hc hp hq h
    simp only [cnt]
    by_cases e : c = n
    · subst e
      have h1 := cnt_eq (P := P) (Q := Q) c (fun j hj => h j (by omega) (by omega))
      rw [if_neg hp, if_pos hq, h1]
    · have h1 := ih c (by omega) hp hq (fun j hj => h j (by omega))
      have h2 := h n (by omega) (by omega)
      by_cases p : P n
      · rw [if_pos p, if_pos (h2.mp p)]; omega
      · rw [if_neg p, if_neg (fun q => p (h2.mpr q))]; omega
theorem cnt_from (m : Nat) : ∀ n, cnt (fun j => m ≤ j) n = n - m := by
  intro n
  induction n with
  | zero => simp [cnt]
  | succ n ih =>
    simp only [cnt, ih]
    split <;> omega
def ahd (W : Nat → Nat) (j i : Nat) : Prop := W j < W i ∨ (W j = W i ∧ i < j)
theorem ahd_ir {W : Nat → Nat} {i : Nat} : ¬ ahd W i i := by unfold ahd; omega
theorem ahd_tr {W : Nat → Nat} {i j k : Nat} (h1 : ahd W i j) (h2 : ahd W j k) : ahd W i k := by unfold ahd at *; omega
theorem ahd_tot {W : Nat → Nat} {i j : Nat} (h : i ≠ j) : ahd W i j ∨ ahd W j i := by unfold ahd; omega
def ahdP (W : Nat → Nat) (m i : Nat) : Nat → Prop := fun j => m ≤ j ∧ ahd W j i
def ahdD (W : Nat → Nat) (m i : Nat) : DecidablePred (ahdP W m i) := fun j => by unfold ahdP ahd; exact inferInstance
/-- how many of m .. n - 1 are ahead of i -/
def rk (W : Nat → Nat) (n m i : Nat) : Nat := @cnt (ahdP W m i) (ahdD W m i) n
theorem rk_lt {W : Nat → Nat} {n m i j : Nat} (hi : m ≤ i) (hin : i < n) (h : ahd W i j) : rk W n m i < rk W n m j := by
  refine @cnt_lt _ _ (ahdD W m i) (ahdD W m j) n ?_ i hin ?_ ?_
  · intro k hk hp
    exact ⟨hp.1, ahd_tr hp.2 h⟩
  · exact fun q => ahd_ir q.2
  · exact ⟨hi, h⟩
theorem rk_inj {W : Nat → Nat} {n m i j : Nat} (hi : m ≤ i) (hin : i < n) (hj : m ≤ j) (hjn : j < n) (h : rk W n m i = rk W n m j) : i = j := by
  by_cases e : i = j
  · exact e
  · rcases ahd_tot (W := W) e with q | q
    · have := rk_lt hi hin q; omega
    · have := rk_lt hj hjn q; omega
theorem rk_b {W : Nat → Nat} {n m i : Nat} (hi : m ≤ i) (hin : i < n) : rk W n m i < n - m := by
  have h := @cnt_lt (ahdP W m i) (fun j => m ≤ j) (ahdD W m i) _ n (fun j _ hp => hp.1) i hin (fun q => ahd_ir q.2) hi
  rw [cnt_from] at h
  exact h
/-- what holds of an order of m .. n - 1 -/
def OrdM (W : Nat → Nat) (n m : Nat) (o : Nat → Nat) : Prop := ∀ p, p < n - m → m ≤ o p ∧ o p < n ∧ rk W n m (o p) = p
theorem OrdM.sur {W : Nat → Nat} {n m : Nat} {o : Nat → Nat} (h : OrdM W n m o) {j : Nat} (hj : m ≤ j) (hjn : j < n) : o (rk W n m j) = j := by
  obtain ⟨h1, h2, h3⟩ := h _ (rk_b (W := W) hj hjn)
  exact rk_inj h1 h2 hj hjn h3
theorem OrdM.mono {W : Nat → Nat} {n m : Nat} {o : Nat → Nat} (h : OrdM W n m o) {p q : Nat} (hpq : p ≤ q) (hq : q < n - m) : W (o p) ≤ W (o q) := by
  rcases Nat.lt_or_ge (W (o q)) (W (o p)) with c | c
  · obtain ⟨a1, a2, a3⟩ := h p (by omega)
    obtain ⟨b1, b2, b3⟩ := h q hq
    have := rk_lt (W := W) (m := m) b1 b2 (Or.inl c)
    omega
  · exact c
/-- one more, i = m, put into its place q -/
theorem OrdM.ins {W : Nat → Nat} {n m : Nat} {o o' : Nat → Nat} (h : OrdM W n (m + 1) o) (hm : m < n) {q : Nat} (hq : q ≤ n - (m + 1)) (hlo : q = 0 ∨ W (o (q - 1)) ≤ W m) (hhi : q = n - (m + 1) ∨ W m < W (o q))
    (e1 : ∀ p, p < q → o' p = o p) (e2 : o' q = m) (e3 : ∀ p, q < p → p < n - m → o' p = o (p - 1)) : OrdM W n m o' := by
  have lo : ∀ p, p < q → W (o p) ≤ W m := fun p hp => by
    rcases hlo with r | r
    · omega
    · exact Nat.le_trans (h.mono (show p ≤ q - 1 by omega) (by omega)) r
  have hi : ∀ p, q ≤ p → p < n - (m + 1) → W m < W (o p) := fun p hp hpn => by
    rcases hhi with r | r
    · omega
    · exact Nat.lt_of_lt_of_le r (h.mono hp hpn)
  -- the others: counted anew
  have stay : ∀ i, m + 1 ≤ i → i < n → ¬ ahd W m i → rk W n m i = rk W n (m + 1) i := fun i hi1 hi2 hn => by
    refine @cnt_eq _ _ (ahdD W m i) (ahdD W (m + 1) i) n (fun j hj => ⟨fun q => ⟨?_, q.2⟩, fun q => ⟨by have := q.1; omega, q.2⟩⟩)
    rcases Nat.lt_or_ge m j with c | c
    · exact c
    · have : j = m := by have := q.1; omega
      subst this
      exact absurd q.2 hn
  have more : ∀ i, m + 1 ≤ i → i < n → ahd W m i → rk W n m i = rk W n (m + 1) i + 1 := fun i hi1 hi2 hn => by
    refine @cnt_add _ _ (ahdD W (m + 1) i) (ahdD W m i) n m hm (fun q => by have := q.1; omega) ⟨Nat.le_refl m, hn⟩ (fun j hj hjm => ⟨fun q => ⟨by have := q.1; omega, q.2⟩, fun q => ⟨by have := q.1; omega, q.2⟩⟩)
  intro p hp
  by_cases c1 : p < q
  · obtain ⟨b1, b2, b3⟩ := h p (by omega)
    rw [e1 p c1]
    refine ⟨by omega, b2, ?_⟩
    rw [stay _ b1 b2 (by have := lo p c1; unfold ahd; omega), b3]
  · by_cases c2 : p = q
    · subst c2
      rw [e2]
      refine ⟨Nat.le_refl m, hm, ?_⟩
      -- who is ahead of m among the others
      have key : ∀ j, m + 1 ≤ j → j < n → (ahd W j m ↔ rk W n (m + 1) j < p) := fun j j1 j2 => by
        have s := h.sur j1 j2
        have b := rk_b (W := W) j1 j2
        constructor
        · intro q
          rcases Nat.lt_or_ge (rk W n (m + 1) j) p with c | c
          · exact c
          · have := hi _ c b
            rw [s] at this
            unfold ahd at q; omega
        · intro c
          have := lo _ c
          rw [s] at this
          unfold ahd; omega
      rcases Nat.lt_or_ge p (n - (m + 1)) with c | c
      · obtain ⟨b1, b2, b3⟩ := h p c
        have : rk W n m m = rk W n (m + 1) (o p) := by
          refine @cnt_eq _ _ (ahdD W m m) (ahdD W (m + 1) (o p)) n (fun j hj => ?_)
          constructor
          · intro q
            have hj1 : m + 1 ≤ j := by
              rcases Nat.lt_or_ge m j with z | z
              · exact z
              · have : j = m := by have := q.1; omega
                subst this; exact absurd q.2 ahd_ir
            refine ⟨hj1, ?_⟩
            have r := (key j hj1 hj).mp q.2
            by_cases e : j = o p
            · rw [e, b3] at r; omega
            · rcases ahd_tot (W := W) e with z | z
              · exact z
              · have := rk_lt (W := W) b1 b2 z; omega
          · intro q
            refine ⟨by have := q.1; omega, (key j q.1 hj).mpr ?_⟩
            have := rk_lt (W := W) q.1 hj q.2
            omega
        rw [this, b3]
      · have : rk W n m m = cnt (fun j => m + 1 ≤ j) n := by
          refine @cnt_eq _ _ (ahdD W m m) _ n (fun j hj => ?_)
          constructor
          · intro q
            rcases Nat.lt_or_ge m j with z | z
            · exact z
            · have : j = m := by have := q.1; omega
              subst this; exact absurd q.2 ahd_ir
          · intro q
            exact ⟨by omega, (key j q hj).mpr (by have := rk_b (W := W) q hj; omega)⟩
        rw [this, cnt_from]; omega
    · obtain ⟨b1, b2, b3⟩ := h (p - 1) (by omega)
      rw [e3 p (by omega) hp]
      refine ⟨by omega, b2, ?_⟩
      rw [more _ b1 b2 (Or.inl (hi (p - 1) (by omega) (by omega))), b3]; omega
