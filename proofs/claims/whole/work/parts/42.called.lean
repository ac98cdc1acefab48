/-! who is called, one row for both tills, what is asked -/
def clb (r n k : Nat) : Bool := if r = 0 then k % 2 == 1 else if r = 1 then (decide (1 ≤ k) && decide (k ≤ n / 2)) else decide ((n + 1) / 2 ≤ k)
def stp (r n : Nat) : Nat → Nat
  | 0 => 0
  | k + 1 => if clb r n k then stp r n k ||| 2 ^ k else stp r n k
theorem stp_b (r n : Nat) : ∀ k, k ≤ 8 → stp r n k < 256 := by
  intro k
  induction k with
  | zero => intro _; simp [stp]
  | succ k ih =>
    intro hk
    simp only [stp]
    split
    · exact (or_b _ (ih (by omega)) k (by omega)).2
    · exact ih (by omega)
theorem sbr : ∀ r, r < 3 → ∀ n, n < 9 → S_X6_setByRule (nI r) (nI n) = some (nI (stp r n n)) := by decide +kernel
def bt7 (i1 i3 i5 : Int32) : Int32 := if i1 = 0 then (if (i5 - i5 / (2 : Int32) * (2 : Int32)) = (1 : Int32) then 1 else 0) else if i1 = 1 then (if i5 ≤ 0 then 0 else if (i3 / (2 : Int32)) < i5 then 0 else 1) else (if i5 < ((i3 + (1 : Int32)) / (2 : Int32)) then 0 else 1)
theorem bt_h : ∀ r, r < 3 → ∀ n, n < 9 → ∀ k, k < 8 → bt7 (nI r) (nI n) (nI k) = if clb r n k then 1 else 0 := by decide +kernel
theorem cd_loop {n V U D : Nat} {K T F : Nat → Nat} {row od x : Nat → Int32} (h : NR n V U D K T F) (hr : RoN n V U D K T F row) {r : Nat} (hr3 : r < 3) (i2 : Int32) :
    ∀ (m k f : Nat), k + m = n → m < f → ∃ od' x', S_X7_called_L37 (nI r) i2 (nI n) od x row f (nI (stp r n k)) (nI k) = some (nI (if i2 = 0 then latN (RD n V U D T F (stp r n n)) n else sumN (RD n V U D T F (stp r n n)) n), nI (stp r n n), od', x') := by
  have h8 := h.1
  intro m
  induction m with
  | zero =>
    intro k f hk hf
    obtain ⟨f, rfl⟩ : ∃ z, f = z + 1 := ⟨f - 1, by omega⟩
    obtain rfl : k = n := by omega
    have hb := stp_b r k k (by omega)
    obtain ⟨od1, x1, s1, s2⟩ := s7_h h hr (a := stp r k k) hb od x
    have hbr : ∀ i, i < k → RD k V U D T F (stp r k k) i ≤ 100000 := fun i hi => by have := RD_b h (stp r k k) hi; omega
    refine ⟨od1, x1, ?_⟩
    rw [S_X7_called_L37, if_pos (nI_rf k), s1, Option.bind_some]
    dsimp only
    by_cases c : i2 = 0
    · rw [if_pos c, if_pos c, lat7 h8 hr.1 hbr s2, Option.bind_some]
    · rw [if_neg c, if_neg c, sum7 h8 hr.1 s2, Option.bind_some]
  | succ m ih =>
    intro k f hk hf
    obtain ⟨f, rfl⟩ : ∃ z, f = z + 1 := ⟨f - 1, by omega⟩
    obtain ⟨od', x', h1⟩ := ih (k + 1) f (by omega) (by omega)
    refine ⟨od', x', ?_⟩
    have hb := stp_b r n k (by omega)
    rw [S_X7_called_L37, if_neg (nI_ge (by omega) (by omega))]
    unfold jn
    have key : (fun (s : Int32) => if s = 0 then S_X7_called_L37 (nI r) i2 (nI n) od x row f (nI (stp r n k) ||| 0) (nI k + 1) else S_X7_called_L37 (nI r) i2 (nI n) od x row f (nI (stp r n k) ||| ((1 : Int32) <<< (nI k &&& 31))) (nI k + 1)) (bt7 (nI r) (nI n) (nI k)) = some (nI (if i2 = 0 then latN (RD n V U D T F (stp r n n)) n else sumN (RD n V U D T F (stp r n n)) n), nI (stp r n n), od', x') := by
      dsimp only
      rw [bt_h r hr3 n (by omega) k (by omega), nI_1, Int32.or_zero, (or_b _ hb k (by omega)).1]
      simp only [stp] at h1
      by_cases c : clb r n k = true
      · rw [if_pos c, if_neg one_ne]
        rw [if_pos c] at h1
        exact h1
      · rw [if_neg c, if_pos rfl]
        rw [if_neg c] at h1
        exact h1
    rw [← key]
    unfold bt7
    dsimp only
    by_cases c1 : nI r = 0
    · rw [if_pos c1, if_pos c1]
      by_cases c2 : (nI k - nI k / (2 : Int32) * (2 : Int32)) = (1 : Int32)
      · rw [if_pos c2, if_pos c2]
      · rw [if_neg c2, if_neg c2]
    · rw [if_neg c1, if_neg c1]
      by_cases c2 : nI r = 1
      · rw [if_pos c2, if_pos c2]
        by_cases c3 : nI k ≤ 0
        · rw [if_pos c3, if_pos c3]
        · rw [if_neg c3, if_neg c3]
          by_cases c4 : nI n / (2 : Int32) < nI k
          · rw [if_pos c4, if_pos c4]
          · rw [if_neg c4, if_neg c4]
      · rw [if_neg c2, if_neg c2]
        by_cases c3 : nI k < (nI n + 1) / (2 : Int32)
        · rw [if_pos c3, if_pos c3]
        · rw [if_neg c3, if_neg c3]
theorem pos_h {n : Nat} {row : Nat → Int32} (hn : n ≤ 8) (h0 : row 0 = nI n) (x : Int32) : (S_X6_isPersonOrSum x (nI n) = some 0 ∧ S_X7_isAsked x row = some 0) ∨ (S_X6_isPersonOrSum x (nI n) = some 1 ∧ S_X7_isAsked x row = some 1 ∧ (x = -1 ∨ x = -2 ∨ ∃ j, j < n ∧ x = nI j)) := by
  unfold S_X6_isPersonOrSum S_X7_isAsked
  by_cases c1 : x = -1
  · rw [if_pos c1, if_pos c1]; exact Or.inr ⟨rfl, rfl, Or.inl c1⟩
  · rw [if_neg c1, if_neg c1]
    by_cases c2 : x = -2
    · rw [if_pos c2, if_pos c2]; exact Or.inr ⟨rfl, rfl, Or.inr (Or.inl c2)⟩
    · rw [if_neg c2, if_neg c2]
      rcases ix_split x (n := n) (by omega) with q | ⟨j, hj, rfl⟩
      · rw [has_no q, isP_no (by omega) h0 q, Option.bind_some]
        exact Or.inl ⟨rfl, rfl⟩
      · rw [has_in hj (by omega), isP_in (by omega) h0 hj, Option.bind_some, if_neg one_ne]
        exact Or.inr ⟨rfl, rfl, Or.inr (Or.inr ⟨j, hj, rfl⟩)⟩
theorem nI_nm1 {j : Nat} (h : j < 2 ^ 31) : ¬ nI j = (-1 : Int32) := fun q => by
  have := congrArg Int32.toInt q
  rw [nI_toInt h] at this
  have e : (-1 : Int32).toInt = -1 := by decide
  omega
theorem nI_nm2 {j : Nat} (h : j < 2 ^ 31) : ¬ nI j = (-2 : Int32) := fun q => by
  have := congrArg Int32.toInt q
  rw [nI_toInt h] at this
  have e : (-2 : Int32).toInt = -2 := by decide
  omega
theorem ask_h {n : Nat} {row x y : Nat → Int32} {R : Nat → Nat} (hn : n ≤ 8) (h0 : row 0 = nI n) (hx : ∀ i, i < n → x i = nI (R i)) (hy : ∀ i, i < n → y i = nI (R i)) (hb : ∀ i, i < n → R i ≤ 100000) {i1 : Int32} (hq : i1 = -1 ∨ i1 = -2 ∨ ∃ j, j < n ∧ i1 = nI j) :
    ∃ r, S_X0_readyOf i1 (nI n) x = some r ∧ S_X7_asked i1 row y = some r := by
  unfold S_X0_readyOf S_X7_asked jn
  dsimp only
  rcases hq with rfl | rfl | ⟨j, hj, rfl⟩
  · refine ⟨nI (latN R n), ?_, ?_⟩
    · rw [if_neg (by decide), if_pos (by decide), lat3 hn hb hx, Option.bind_some]
    · rw [if_pos rfl, lat7 hn h0 hb hy, Option.bind_some]
  · refine ⟨nI (sumN R n), ?_, ?_⟩
    · rw [if_pos rfl, sum3 hn hx, Option.bind_some]
    · rw [if_neg (by decide), if_pos rfl, sum7 hn h0 hy, Option.bind_some]
  · refine ⟨nI (R j), ?_, ?_⟩
    · rw [if_neg (nI_nm2 (by omega)), if_neg (nI_pos (by omega)), if_neg (nI_ge hj (by omega)), if_neg (nin' (by omega) (by omega)), nI_clamp (by omega), hx j hj]
    · rw [if_neg (nI_nm1 (by omega)), if_neg (nI_nm2 (by omega)), if_neg (nin' (by omega) (by omega)), nI_clamp (by omega), hy j hj]
theorem o1_loop {n V U D : Nat} {K T F : Nat → Nat} {kd wk fs sc od row : Nat → Int32} (h : NR n V U D K T F) (hc : CrN n V U D K T F kd wk fs sc od) (hr : RoN n V U D K T F row) (i1 : Int32) :
    ∀ (m k f g : Nat), k + m = n → m < f → m < g → ∀ (a b : Nat) (x y : Nat → Int32), a ≤ 180 * k → b ≤ 180 * k → (∀ i, i < k → ∃ z, z ≤ 2000 ∧ x i = nI z ∧ y i = nI z) →
    ∃ x' y', S_X0_shareOneRow_L6 (nI n) fs sc f (nI a) (nI b) (nI k) x = some x' ∧ S_X7_oneRow_L17 i1 row g (nI a) (nI b) (nI k) y = Option.bind (S_X7_asked i1 row y') (fun r => some (r, y')) ∧ ∀ i, i < n → ∃ z, z ≤ 2000 ∧ x' i = nI z ∧ y' i = nI z := by
  have h8 := h.1
  intro m
  induction m with
  | zero =>
    intro k f g hk hf hg a b x y ha hb hz
    obtain ⟨f, rfl⟩ : ∃ z, f = z + 1 := ⟨f - 1, by omega⟩
    obtain ⟨g, rfl⟩ : ∃ z, g = z + 1 := ⟨g - 1, by omega⟩
    obtain rfl : k = n := by omega
    rw [S_X0_shareOneRow_L6, S_X7_oneRow_L17, hr.1, if_pos (nI_rf k), if_pos (nI_rf k)]
    exact ⟨x, y, rfl, rfl, hz⟩
  | succ m ih =>
    intro k f g hk hf hg a b x y ha hb hz
    obtain ⟨f, rfl⟩ : ∃ z, f = z + 1 := ⟨f - 1, by omega⟩
    obtain ⟨g, rfl⟩ : ∃ z, g = z + 1 := ⟨g - 1, by omega⟩
    have hi := nin' (n := k) (N := 8) (by omega) (by omega)
    obtain ⟨-, -, c3, c4⟩ := hc.1 k (by omega)
    obtain ⟨-, t1, t2, -, -⟩ := h.2.2.2.2.2.2 k (by omega)
    obtain ⟨-, v1, v2, u1, u2, -⟩ := h
    have hv : V * T k ≤ 180 := Nat.le_trans (Nat.mul_le_mul v2 t2) (by omega)
    have hu : U * T k ≤ 180 := Nat.le_trans (Nat.mul_le_mul u2 t2) (by omega)
    have ne : ∀ (v : Nat), v ≤ 2000 → ∀ i, i < k + 1 → ∃ z, z ≤ 2000 ∧ upd x k (nI v) i = nI z ∧ upd y k (nI v) i = nI z := fun v hv0 i hi => by
      by_cases e : i = k
      · subst e; exact ⟨v, hv0, by rw [pk_us], by rw [pk_us]⟩
      · obtain ⟨z, z1, z2, z3⟩ := hz i (by omega)
        exact ⟨z, z1, by rw [pk_un e]; exact z2, by rw [pk_un e]; exact z3⟩
    have hi2 := nin (n := k) (N := 8) (by omega) (by omega)
    rw [S_X0_shareOneRow_L6, S_X7_oneRow_L17, hr.1, if_neg (nI_ge (by omega) (by omega)), if_neg (nI_ge (by omega) (by omega))]
    unfold jn
    dsimp only
    by_cases c : b < a
    · have q := nI_lt c (show a < 2 ^ 31 by omega)
      rw [if_pos q, if_pos q]
      simp only [↓reduceIte, things7 row (show k < 8 by omega), Option.bind_some, nI_clamp (show k < 2 ^ 31 by omega), hi2, (hr.2.2.2.2 k (by omega)).2.1, hr.2.1, hr.2.2.1, c3, c4, pk_mul, nI_1, Int32.add_zero, nI_add]
      exact ih (k + 1) f g (by omega) (by omega) (by omega) a (b + U * T k) _ _ (by omega) (by omega) (ne (b + U * T k) (by omega))
    · have q := nI_nlt (show a ≤ b by omega) (show b < 2 ^ 31 by omega)
      rw [if_neg q, if_neg q]
      simp only [↓reduceIte, one_ne, things7 row (show k < 8 by omega), Option.bind_some, nI_clamp (show k < 2 ^ 31 by omega), hi2, (hr.2.2.2.2 k (by omega)).2.1, hr.2.1, hr.2.2.1, c3, c4, pk_mul, nI_1, Int32.add_zero, nI_add]
      exact ih (k + 1) f g (by omega) (by omega) (by omega) (a + V * T k) b _ _ (by omega) (by omega) (ne (a + V * T k) (by omega))
