/-! the class's insertion, the reference's counting -/
theorem lu_in {n : Nat} {W : Nat → Nat} {wk : Nat → Int32} (hn : n ≤ 8) (hw : ∀ i, i < n → wk i = nI (W i)) (hb : ∀ i, i < n → W i < 2 ^ 31) (rc : Int32 → Int32 → (Nat → Int32) → Option (Nat → Int32)) {c i : Nat} (hi : i < n) (hc : c < 8) {o : Nat → Nat} (ho : ∀ p, p < c → o p < n) (i2' : Int32) :
    ∀ (q f : Nat), q ≤ c → q < f → ∀ (x : Nat → Int32), (∀ p, p < q → x p = nI (o p)) → (∀ p, q < p → p ≤ c → x p = nI (o (p - 1))) → (q = c ∨ W i < W (o q)) →
    ∃ (q' : Nat) (x' : Nat → Int32), q' ≤ c ∧ S_X0_lineUp_L15 rc (nI c) (nI i) wk f (nI q) x = rc (nI c + 1) (nI i + (-1)) x' ∧ x' q' = nI i ∧ (∀ p, p < q' → x' p = nI (o p)) ∧ (∀ p, q' < p → p ≤ c → x' p = nI (o (p - 1))) ∧ (q' = 0 ∨ W (o (q' - 1)) ≤ W i) ∧ (q' = c ∨ W i < W (o q')) := by
  intro q
  induction q with
  | zero =>
    intro f hq hf x h1 h2 h3
    obtain ⟨f, rfl⟩ : ∃ z, f = z + 1 := ⟨f - 1, by omega⟩
    refine ⟨0, upd x 0 (nI i), by omega, ?_, pk_us, fun p hp => absurd hp (by omega), fun p hp hpc => ?_, Or.inl rfl, h3⟩
    · rw [S_X0_lineUp_L15]; unfold jn; dsimp only
      rw [if_pos (by decide), if_neg (nin' (by omega) (by omega)), nI_clamp (by omega)]
    · rw [pk_un (by omega)]; exact h2 p hp hpc
  | succ q ih =>
    intro f hq hf x h1 h2 h3
    obtain ⟨f, rfl⟩ : ∃ z, f = z + 1 := ⟨f - 1, by omega⟩
    have hoq := ho q (by omega)
    have e : nI (q + 1) - (1 : Int32) = nI q := nI_pred q
    have hx : x q = nI (o q) := h1 q (by omega)
    rw [S_X0_lineUp_L15]; unfold jn; dsimp only
    rw [if_neg (nI_nle (by omega) (by omega)), e, if_neg (nin' (by omega) (by omega)), nI_clamp (by omega), hx, if_neg (nin' (by omega) (by omega)), nI_clamp (by omega), if_neg (nin' (by omega) (by omega)), nI_clamp (by omega), hw _ hoq, hw _ hi]
    by_cases c1 : W (o q) ≤ W i
    · refine ⟨q + 1, upd x (q + 1) (nI i), hq, ?_, pk_us, fun p hp => ?_, fun p hp hpc => ?_, Or.inr c1, h3⟩
      · rw [if_pos (nI_le c1 (hb _ hi)), if_neg (nin (by omega) (by omega)), nI_clamp (by omega)]
      · rw [pk_un (by omega)]; exact h1 p (by omega)
      · rw [pk_un (by omega)]; exact h2 p hp hpc
    · obtain ⟨q', x', g1, g2, g3⟩ := ih f (by omega) (by omega) (upd x (q + 1) (nI (o q))) (fun p hp => by rw [pk_un (by omega)]; exact h1 p (by omega)) (fun p hp hpc => by
        by_cases e2 : p = q + 1
        · subst e2; rw [pk_us]; rfl
        · rw [pk_un e2]; exact h2 p (by omega) hpc) (Or.inr (by omega))
      refine ⟨q', x', g1, ?_, g3⟩
      rw [if_neg (nI_ge (by omega) (hb _ hoq)), if_neg (nin (by omega) (by omega)), if_neg (nin (by omega) (by omega)), nI_clamp (by omega), pk_m1, if_neg (nin (by omega) (by omega))]
      exact g2
theorem lu_out {n : Nat} {W : Nat → Nat} {wk : Nat → Int32} (hn : n ≤ 8) (hw : ∀ i, i < n → wk i = nI (W i)) (hb : ∀ i, i < n → W i < 2 ^ 31) :
    ∀ (m f : Nat), m ≤ n → m < f → ∀ (x : Nat → Int32) (o : Nat → Nat), OrdM W n m o → (∀ p, p < n - m → x p = nI (o p)) → ∃ (x' : Nat → Int32) (o' : Nat → Nat), S_X0_lineUp_L9 wk f (nI (n - m)) (nI m - 1) x = some x' ∧ OrdM W n 0 o' ∧ ∀ p, p < n → x' p = nI (o' p) := by
  intro m
  induction m with
  | zero =>
    intro f hm hf x o h1 h2
    obtain ⟨f, rfl⟩ : ∃ z, f = z + 1 := ⟨f - 1, by omega⟩
    exact ⟨x, o, by rw [S_X0_lineUp_L9, if_pos (by decide)], h1, h2⟩
  | succ m ih =>
    intro f hm hf x o h1 h2
    obtain ⟨f, rfl⟩ : ∃ z, f = z + 1 := ⟨f - 1, by omega⟩
    rw [nI_pred, S_X0_lineUp_L9, if_neg (nI_pos (by omega))]
    obtain ⟨q', x', g1, g2, g3, g4, g5, g6, g7⟩ := lu_in hn hw hb (S_X0_lineUp_L9 wk f) (c := n - (m + 1)) (i := m) (by omega) (by omega) (o := o) (fun p hp => (h1 p hp).2.1) 0 (n - (m + 1)) 300 (Nat.le_refl _) (by omega) x h2 (fun p hp hpc => absurd hp (by omega)) (Or.inl rfl)
    obtain ⟨x2, o2, e1, e2, e3⟩ := ih f (by omega) (by omega) x' (fun p => if p < q' then o p else if p = q' then m else o (p - 1)) (OrdM.ins h1 (by omega) g1 g6 g7 (fun p hp => by simp [hp]) (by simp) (fun p hp hpn => by rw [if_neg (by omega), if_neg (by omega)])) (fun p hp => by
      by_cases c1 : p < q'
      · rw [if_pos c1]; exact g4 p c1
      · by_cases c2 : p = q'
        · subst c2; rw [if_neg c1, if_pos rfl]; exact g3
        · rw [if_neg c1, if_neg c2]; exact g5 p (by omega) (by omega))
    refine ⟨x2, o2, ?_, e2, e3⟩
    rw [g2, nI_1, show n - (m + 1) + 1 = n - m by omega, show nI m + (-1 : Int32) = nI m - 1 from (Int32.sub_eq_add_neg ..).symm]
    exact e1
theorem lu_h {n : Nat} {W : Nat → Nat} {wk : Nat → Int32} (hn : n ≤ 8) (hw : ∀ i, i < n → wk i = nI (W i)) (hb : ∀ i, i < n → W i < 2 ^ 31) (x : Nat → Int32) :
    ∃ (x' : Nat → Int32) (o : Nat → Nat), S_X0_lineUp (nI n) x wk = some x' ∧ OrdM W n 0 o ∧ ∀ p, p < n → x' p = nI (o p) := by
  obtain ⟨x', o', h1, h2⟩ := lu_out hn hw hb n 300 (Nat.le_refl n) (by omega) x (fun _ => 0) (fun p hp => absurd hp (by omega)) (fun p hp => absurd hp (by omega))
  rw [Nat.sub_self] at h1
  exact ⟨x', o', h1, h2⟩
/-- the reference: the place of i -/
theorem or_in {n : Nat} {W : Nat → Nat} {row : Nat → Int32} (hn : n ≤ 8) (h0 : row 0 = nI n) (hw : ∀ i, i < n → S_X7_walk (nI i) row = some (nI (W i))) (hb : ∀ i, i < n → W i < 2 ^ 31) (rc : Int32 → (Nat → Int32) → Option (Nat → Int32)) {i : Nat} (hi : i < n) (x : Nat → Int32) :
    ∀ (m k f : Nat), k + m = n → m < f → S_X7_orders_L16 rc (nI i) x row f (nI (@cnt (ahdP W 0 i) (ahdD W 0 i) k)) (nI k) = rc (nI i + 1) (upd x (rk W n 0 i) (nI i)) := by
  intro m
  induction m with
  | zero =>
    intro k f hk hf
    obtain ⟨f, rfl⟩ : ∃ z, f = z + 1 := ⟨f - 1, by omega⟩
    obtain rfl : k = n := by omega
    have hr := rk_b (W := W) (m := 0) (Nat.zero_le i) hi
    rw [S_X7_orders_L16, h0, if_pos (nI_rf k)]
    show (if nI (rk W k 0 i) < 0 ∨ 8 ≤ (nI (rk W k 0 i)).toNatClampNeg then none else rc (nI i + 1) (upd x (nI (rk W k 0 i)).toNatClampNeg (nI i))) = _
    rw [if_neg (nin' (by omega) (by omega)), nI_clamp (by omega)]
  | succ m ih =>
    intro k f hk hf
    obtain ⟨f, rfl⟩ : ∃ z, f = z + 1 := ⟨f - 1, by omega⟩
    have hk1 := ih (k + 1) f (by omega) (by omega)
    simp only [cnt] at hk1
    rw [S_X7_orders_L16, h0, if_neg (nI_ge (by omega) (by omega)), hw k (by omega), hw i hi, Option.bind_some, Option.bind_some]
    unfold jn; dsimp only
    by_cases c1 : W k < W i
    · have ha : ahdP W 0 i k := ⟨Nat.zero_le k, Or.inl c1⟩
      rw [if_pos ha] at hk1
      rw [if_pos (nI_lt c1 (hb i hi)), if_neg one_ne, nI_1, nI_1]
      exact hk1
    · rw [if_neg (nI_nlt (by omega) (hb k (by omega))), Option.bind_some, Option.bind_some]
      by_cases c2 : W k = W i
      · rw [if_pos (by rw [c2])]
        by_cases c3 : k ≤ i
        · have ha : ¬ ahdP W 0 i k := fun q => by have := q.2; unfold ahd at this; omega
          rw [if_neg ha, Nat.add_zero] at hk1
          rw [if_pos (nI_le c3 (by omega)), if_pos rfl, nI_1, show ∀ z : Int32, z + 0 = z from Int32.add_zero]
          exact hk1
        · have ha : ahdP W 0 i k := ⟨Nat.zero_le k, Or.inr ⟨c2, by omega⟩⟩
          rw [if_pos ha] at hk1
          rw [if_neg (nI_ge (by omega) (by omega)), if_neg one_ne, nI_1, nI_1]
          exact hk1
      · have ha : ¬ ahdP W 0 i k := fun q => by have := q.2; unfold ahd at this; omega
        rw [if_neg ha, Nat.add_zero] at hk1
        rw [if_neg (fun q => c2 ((nI_eq (hb k (by omega)) (hb i hi)).mp q)), if_pos rfl, nI_1, show ∀ z : Int32, z + 0 = z from Int32.add_zero]
        exact hk1
theorem or_out {n : Nat} {W : Nat → Nat} {row : Nat → Int32} (hn : n ≤ 8) (h0 : row 0 = nI n) (hw : ∀ i, i < n → S_X7_walk (nI i) row = some (nI (W i))) (hb : ∀ i, i < n → W i < 2 ^ 31) :
    ∀ (m i f : Nat), i + m = n → m < f → ∀ (x : Nat → Int32), (∀ j, j < i → x (rk W n 0 j) = nI j) → ∃ x', S_X7_orders_L2 row f (nI i) x = some x' ∧ ∀ j, j < n → x' (rk W n 0 j) = nI j := by
  intro m
  induction m with
  | zero =>
    intro i f hi hf x hx
    obtain ⟨f, rfl⟩ : ∃ z, f = z + 1 := ⟨f - 1, by omega⟩
    obtain rfl : i = n := by omega
    exact ⟨x, by rw [S_X7_orders_L2, h0, if_pos (nI_rf i)], hx⟩
  | succ m ih =>
    intro i f hi hf x hx
    obtain ⟨f, rfl⟩ : ∃ z, f = z + 1 := ⟨f - 1, by omega⟩
    obtain ⟨x', g1, g2⟩ := ih (i + 1) f (by omega) (by omega) (upd x (rk W n 0 i) (nI i)) (fun j hj => by
      by_cases e : j = i
      · subst e; exact pk_us
      · rw [pk_un (fun q => e (rk_inj (Nat.zero_le j) (by omega) (Nat.zero_le i) (by omega) q))]; exact hx j (by omega))
    refine ⟨x', ?_, g2⟩
    rw [S_X7_orders_L2, h0, if_neg (nI_ge (by omega) (by omega))]
    have := or_in hn h0 hw hb (S_X7_orders_L2 row f) (i := i) (by omega) x n 0 300 (by omega) (by omega)
    exact this.trans (by rw [nI_1]; exact g1)
theorem or_h {n : Nat} {W : Nat → Nat} {row : Nat → Int32} (hn : n ≤ 8) (h0 : row 0 = nI n) (hw : ∀ i, i < n → S_X7_walk (nI i) row = some (nI (W i))) (hb : ∀ i, i < n → W i < 2 ^ 31) (x : Nat → Int32) :
    ∃ x', S_X7_orders row x = some x' ∧ ∀ j, j < n → x' (rk W n 0 j) = nI j := by
  obtain ⟨x', h1, h2⟩ := or_out hn h0 hw hb n 0 300 (by omega) (by omega) x (fun j hj => absurd hj (by omega))
  exact ⟨x', h1, h2⟩
