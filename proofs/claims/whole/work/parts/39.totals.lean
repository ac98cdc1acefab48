/-! together, the latest, who overtakes whom -/
def sumN (R : Nat → Nat) : Nat → Nat
  | 0 => 0
  | k + 1 => sumN R k + R k
def latN (R : Nat → Nat) : Nat → Nat
  | 0 => 0
  | k + 1 => max (latN R k) (R k)
def ovF (R : Nat → Nat) (i : Nat) : Nat → Nat
  | 0 => 0
  | k + 1 => if i < k ∧ R k < R i then ovF R i k ||| 2 ^ k else ovF R i k
def ovN (R : Nat → Nat) (n : Nat) : Nat → Nat
  | 0 => 0
  | k + 1 => ovN R n k + pcn (ovF R k n)
theorem sumN_b {R : Nat → Nat} {B : Nat} : ∀ k, (∀ i, i < k → R i ≤ B) → sumN R k ≤ B * k := by
  intro k
  induction k with
  | zero => intro _; simp [sumN]
  | succ k ih =>
    intro h
    have h1 := ih (fun i hi => h i (by omega))
    have h2 := h k (by omega)
    simp only [sumN]
    rw [Nat.mul_succ]; omega
theorem latN_b {R : Nat → Nat} {B : Nat} : ∀ k, (∀ i, i < k → R i ≤ B) → latN R k ≤ B := by
  intro k
  induction k with
  | zero => intro _; simp [latN]
  | succ k ih =>
    intro h
    have h1 := ih (fun i hi => h i (by omega))
    have h2 := h k (by omega)
    simp only [latN]; omega
theorem ovF_b (R : Nat → Nat) (i : Nat) : ∀ k, k ≤ 8 → ovF R i k < 256 := by
  intro k
  induction k with
  | zero => intro _; simp [ovF]
  | succ k ih =>
    intro h
    simp only [ovF]
    split
    · exact (or_b _ (ih (by omega)) k (by omega)).2
    · exact ih (by omega)
theorem ovF_0 (R : Nat → Nat) (i : Nat) : ∀ k, k ≤ i + 1 → ovF R i k = 0 := by
  intro k
  induction k with
  | zero => intro _; rfl
  | succ k ih =>
    intro h
    simp only [ovF]
    rw [if_neg (by omega)]
    exact ih (by omega)
theorem soh_loop {n p : Nat} {R : Nat → Nat} {x : Nat → Int32} (hn : n ≤ 8) (hp : p ≤ n) (hx : ∀ i, i < n → x i = nI (R i)) : ∀ (m k f : Nat), k + m = p → m < f → S_X0_sumOfHead_L4 (nI p) (nI n) x f (nI (sumN R k)) (nI k) = some (nI (sumN R p)) := by
  intro m
  induction m with
  | zero =>
    intro k f hk hf
    obtain ⟨f, rfl⟩ : ∃ z, f = z + 1 := ⟨f - 1, by omega⟩
    obtain rfl : k = p := by omega
    rw [S_X0_sumOfHead_L4, if_pos (nI_rf k)]
  | succ m ih =>
    intro k f hk hf
    obtain ⟨f, rfl⟩ : ∃ z, f = z + 1 := ⟨f - 1, by omega⟩
    have h1 := ih (k + 1) f (by omega) (by omega)
    simp only [sumN] at h1
    rw [S_X0_sumOfHead_L4, if_neg (nI_ge (by omega) (by omega)), if_neg (nI_ge (by omega) (by omega)), if_neg (nin' (by omega) (by omega)), nI_clamp (by omega), hx k (by omega), nI_add, nI_1]
    exact h1
theorem soh_h {n p : Nat} {R : Nat → Nat} {x : Nat → Int32} (hn : n ≤ 8) (hp : p ≤ n) (hx : ∀ i, i < n → x i = nI (R i)) : S_X0_sumOfHead (nI p) (nI n) x = some (nI (sumN R p)) := by
  have := soh_loop hn hp hx p 0 300 (by omega) (by omega)
  simp only [sumN, nI_0] at this
  unfold S_X0_sumOfHead
  exact this
theorem sum3 {n : Nat} {R : Nat → Nat} {x : Nat → Int32} (hn : n ≤ 8) (hx : ∀ i, i < n → x i = nI (R i)) : S_X0_sum (nI n) x = some (nI (sumN R n)) := by
  unfold S_X0_sum
  rw [soh_h hn (Nat.le_refl n) hx, Option.bind_some]
theorem sum7_loop {n : Nat} {R : Nat → Nat} {x row : Nat → Int32} (hn : n ≤ 8) (h0 : row 0 = nI n) (hx : ∀ i, i < n → x i = nI (R i)) : ∀ (m k f : Nat), k + m = n → m < f → S_X7_sum_L4 row x f (nI (sumN R k)) (nI k) = some (nI (sumN R n)) := by
  intro m
  induction m with
  | zero =>
    intro k f hk hf
    obtain ⟨f, rfl⟩ : ∃ z, f = z + 1 := ⟨f - 1, by omega⟩
    obtain rfl : k = n := by omega
    rw [S_X7_sum_L4, h0, if_pos (nI_rf k)]
  | succ m ih =>
    intro k f hk hf
    obtain ⟨f, rfl⟩ : ∃ z, f = z + 1 := ⟨f - 1, by omega⟩
    have h1 := ih (k + 1) f (by omega) (by omega)
    simp only [sumN] at h1
    rw [S_X7_sum_L4, h0, if_neg (nI_ge (by omega) (by omega)), if_neg (nin' (by omega) (by omega)), nI_clamp (by omega), hx k (by omega), nI_add, nI_1]
    exact h1
theorem sum7 {n : Nat} {R : Nat → Nat} {x row : Nat → Int32} (hn : n ≤ 8) (h0 : row 0 = nI n) (hx : ∀ i, i < n → x i = nI (R i)) : S_X7_sum row x = some (nI (sumN R n)) := by
  have := sum7_loop hn h0 hx n 0 300 (by omega) (by omega)
  simp only [sumN, nI_0] at this
  unfold S_X7_sum
  exact this
theorem lat3_loop {n : Nat} {R : Nat → Nat} {x : Nat → Int32} (hn : n ≤ 8) (hb : ∀ i, i < n → R i ≤ 100000) (hx : ∀ i, i < n → x i = nI (R i)) : ∀ (m k f : Nat), k + m = n → m < f → S_X0_latest_L4 (nI n) x f (nI (latN R k)) (nI k) = some (nI (latN R n)) := by
  intro m
  induction m with
  | zero =>
    intro k f hk hf
    obtain ⟨f, rfl⟩ : ∃ z, f = z + 1 := ⟨f - 1, by omega⟩
    obtain rfl : k = n := by omega
    rw [S_X0_latest_L4, if_pos (nI_rf k)]
  | succ m ih =>
    intro k f hk hf
    obtain ⟨f, rfl⟩ : ∃ z, f = z + 1 := ⟨f - 1, by omega⟩
    have h1 := ih (k + 1) f (by omega) (by omega)
    simp only [latN] at h1
    have hl := latN_b (R := R) k (fun i hi => hb i (by omega))
    have hk2 := hb k (by omega)
    rw [S_X0_latest_L4, if_neg (nI_ge (by omega) (by omega)), if_neg (nin' (by omega) (by omega)), nI_clamp (by omega), hx k (by omega)]
    unfold nm; dsimp only
    rw [mx_n (by omega) (by omega), nI_1]
    exact h1
theorem lat3 {n : Nat} {R : Nat → Nat} {x : Nat → Int32} (hn : n ≤ 8) (hb : ∀ i, i < n → R i ≤ 100000) (hx : ∀ i, i < n → x i = nI (R i)) : S_X0_latest (nI n) x = some (nI (latN R n)) := by
  have := lat3_loop hn hb hx n 0 300 (by omega) (by omega)
  simp only [latN, nI_0] at this
  unfold S_X0_latest
  exact this
theorem lat7_loop {n : Nat} {R : Nat → Nat} {x row : Nat → Int32} (hn : n ≤ 8) (h0 : row 0 = nI n) (hb : ∀ i, i < n → R i ≤ 100000) (hx : ∀ i, i < n → x i = nI (R i)) : ∀ (m k f : Nat), k + m = n → m < f → S_X7_latest_L4 row x f (nI (latN R k)) (nI k) = some (nI (latN R n)) := by
  intro m
  induction m with
  | zero =>
    intro k f hk hf
    obtain ⟨f, rfl⟩ : ∃ z, f = z + 1 := ⟨f - 1, by omega⟩
    obtain rfl : k = n := by omega
    rw [S_X7_latest_L4, h0, if_pos (nI_rf k)]
  | succ m ih =>
    intro k f hk hf
    obtain ⟨f, rfl⟩ : ∃ z, f = z + 1 := ⟨f - 1, by omega⟩
    have h1 := ih (k + 1) f (by omega) (by omega)
    simp only [latN] at h1
    have hl := latN_b (R := R) k (fun i hi => hb i (by omega))
    have hk2 := hb k (by omega)
    have hi := nin' (n := k) (N := 8) (by omega) (by omega)
    rw [S_X7_latest_L4, h0, if_neg (nI_ge (by omega) (by omega)), if_neg hi, if_neg hi, nI_clamp (by omega), hx k (by omega), nI_1]
    by_cases c : R k ≤ latN R k
    · rw [if_pos (nI_le c (by omega))]
      rw [Nat.max_eq_left c] at h1
      exact h1
    · rw [if_neg (nI_ge (by omega) (by omega))]
      rw [Nat.max_eq_right (by omega)] at h1
      exact h1
theorem lat7 {n : Nat} {R : Nat → Nat} {x row : Nat → Int32} (hn : n ≤ 8) (h0 : row 0 = nI n) (hb : ∀ i, i < n → R i ≤ 100000) (hx : ∀ i, i < n → x i = nI (R i)) : S_X7_latest row x = some (nI (latN R n)) := by
  have := lat7_loop hn h0 hb hx n 0 300 (by omega) (by omega)
  simp only [latN, nI_0] at this
  unfold S_X7_latest
  exact this
theorem ov3_loop {n i : Nat} {R : Nat → Nat} {x : Nat → Int32} (hn : n ≤ 8) (hi : i < n) (hb : ∀ i, i < n → R i ≤ 100000) (hx : ∀ i, i < n → x i = nI (R i)) : ∀ (m k f : Nat), k + m = n → i < k → m < f → S_X0_overtakersOf_L6 (nI i) (nI n) x f (nI (ovF R i k)) (nI k) = some (nI (ovF R i n)) := by
  intro m
  induction m with
  | zero =>
    intro k f hk hik hf
    obtain ⟨f, rfl⟩ : ∃ z, f = z + 1 := ⟨f - 1, by omega⟩
    obtain rfl : k = n := by omega
    rw [S_X0_overtakersOf_L6, if_pos (nI_rf k)]
  | succ m ih =>
    intro k f hk hik hf
    obtain ⟨f, rfl⟩ : ∃ z, f = z + 1 := ⟨f - 1, by omega⟩
    have h1 := ih (k + 1) f (by omega) (by omega) (by omega)
    simp only [ovF] at h1
    have b1 := hb k (by omega)
    have b2 := hb i hi
    rw [S_X0_overtakersOf_L6, if_neg (nI_ge (by omega) (by omega)), if_neg (nin' (by omega) (by omega)), if_neg (nin' (by omega) (by omega)), nI_clamp (by omega), nI_clamp (by omega), hx k (by omega), hx i hi, nI_1]
    by_cases c : R k < R i
    · rw [if_neg (nI_ge c (by omega)), (or_b _ (ovF_b R i k (by omega)) k (by omega)).1]
      rw [if_pos ⟨hik, c⟩] at h1
      exact h1
    · rw [if_pos (nI_le (by omega) (by omega))]
      rw [if_neg (fun q => c q.2)] at h1
      exact h1
theorem ov3 {n i : Nat} {R : Nat → Nat} {x : Nat → Int32} (hn : n ≤ 8) (hi : i < n) (hb : ∀ i, i < n → R i ≤ 100000) (hx : ∀ i, i < n → x i = nI (R i)) : S_X0_overtakersOf (nI i) (nI n) x = some (nI (ovF R i n)) := by
  have := ov3_loop hn hi hb hx (n - (i + 1)) (i + 1) 300 (by omega) (by omega) (by omega)
  rw [ovF_0 R i _ (Nat.le_refl _), nI_0] at this
  unfold S_X0_overtakersOf
  rw [nI_1]
  exact this
theorem ov7_loop {n i : Nat} {R : Nat → Nat} {x row : Nat → Int32} (hn : n ≤ 8) (h0 : row 0 = nI n) (hi : i < n) (hb : ∀ i, i < n → R i ≤ 100000) (hx : ∀ i, i < n → x i = nI (R i)) : ∀ (m k f : Nat), k + m = n → i < k → m < f → S_X7_overtakes_L6 (nI i) row x f (nI (ovF R i k)) (nI k) = some (nI (ovF R i n)) := by
  intro m
  induction m with
  | zero =>
    intro k f hk hik hf
    obtain ⟨f, rfl⟩ : ∃ z, f = z + 1 := ⟨f - 1, by omega⟩
    obtain rfl : k = n := by omega
    rw [S_X7_overtakes_L6, h0, if_pos (nI_rf k)]
  | succ m ih =>
    intro k f hk hik hf
    obtain ⟨f, rfl⟩ : ∃ z, f = z + 1 := ⟨f - 1, by omega⟩
    have h1 := ih (k + 1) f (by omega) (by omega) (by omega)
    simp only [ovF] at h1
    have b1 := hb k (by omega)
    have b2 := hb i hi
    rw [S_X7_overtakes_L6, h0, if_neg (nI_ge (by omega) (by omega)), if_neg (nin' (by omega) (by omega)), if_neg (nin' (by omega) (by omega)), nI_clamp (by omega), nI_clamp (by omega), hx k (by omega), hx i hi, nI_1]
    by_cases c : R k < R i
    · rw [if_neg (nI_ge c (by omega)), (or_b _ (ovF_b R i k (by omega)) k (by omega)).1]
      rw [if_pos ⟨hik, c⟩] at h1
      exact h1
    · rw [if_pos (nI_le (by omega) (by omega)), Int32.or_zero]
      rw [if_neg (fun q => c q.2)] at h1
      exact h1
theorem ov7 {n i : Nat} {R : Nat → Nat} {x row : Nat → Int32} (hn : n ≤ 8) (h0 : row 0 = nI n) (hi : i < n) (hb : ∀ i, i < n → R i ≤ 100000) (hx : ∀ i, i < n → x i = nI (R i)) : S_X7_overtakes (nI i) row x = some (nI (ovF R i n)) := by
  have := ov7_loop hn h0 hi hb hx (n - (i + 1)) (i + 1) 300 (by omega) (by omega) (by omega)
  rw [ovF_0 R i _ (Nat.le_refl _), nI_0] at this
  unfold S_X7_overtakes
  rw [nI_1]
  exact this
theorem ovs3_loop {n : Nat} {R : Nat → Nat} {x : Nat → Int32} (hn : n ≤ 8) (hb : ∀ i, i < n → R i ≤ 100000) (hx : ∀ i, i < n → x i = nI (R i)) : ∀ (m k f : Nat), k + m = n → m < f → S_X0_overtakings_L4 (nI n) x f (nI (ovN R n k)) (nI k) = some (nI (ovN R n n)) := by
  intro m
  induction m with
  | zero =>
    intro k f hk hf
    obtain ⟨f, rfl⟩ : ∃ z, f = z + 1 := ⟨f - 1, by omega⟩
    obtain rfl : k = n := by omega
    rw [S_X0_overtakings_L4, if_pos (nI_rf k)]
  | succ m ih =>
    intro k f hk hf
    obtain ⟨f, rfl⟩ : ∃ z, f = z + 1 := ⟨f - 1, by omega⟩
    have h1 := ih (k + 1) f (by omega) (by omega)
    simp only [ovN] at h1
    rw [S_X0_overtakings_L4, if_neg (nI_ge (by omega) (by omega)), ov3 hn (by omega) hb hx, Option.bind_some, (pc_h _ (ovF_b R k n hn)).1, Option.bind_some, nI_add, nI_1]
    exact h1
theorem ovs3 {n : Nat} {R : Nat → Nat} {x : Nat → Int32} (hn : n ≤ 8) (hb : ∀ i, i < n → R i ≤ 100000) (hx : ∀ i, i < n → x i = nI (R i)) : S_X0_overtakings (nI n) x = some (nI (ovN R n n)) := by
  have := ovs3_loop hn hb hx n 0 300 (by omega) (by omega)
  simp only [ovN, nI_0] at this
  unfold S_X0_overtakings
  exact this
theorem ovs7_loop {n : Nat} {R : Nat → Nat} {x row : Nat → Int32} (hn : n ≤ 8) (h0 : row 0 = nI n) (hb : ∀ i, i < n → R i ≤ 100000) (hx : ∀ i, i < n → x i = nI (R i)) : ∀ (m k f : Nat), k + m = n → m < f → S_X7_overtakings_L4 row x f (nI (ovN R n k)) (nI k) = some (nI (ovN R n n)) := by
  intro m
  induction m with
  | zero =>
    intro k f hk hf
    obtain ⟨f, rfl⟩ : ∃ z, f = z + 1 := ⟨f - 1, by omega⟩
    obtain rfl : k = n := by omega
    rw [S_X7_overtakings_L4, h0, if_pos (nI_rf k)]
  | succ m ih =>
    intro k f hk hf
    obtain ⟨f, rfl⟩ : ∃ z, f = z + 1 := ⟨f - 1, by omega⟩
    have h1 := ih (k + 1) f (by omega) (by omega)
    simp only [ovN] at h1
    rw [S_X7_overtakings_L4, h0, if_neg (nI_ge (by omega) (by omega)), ov7 hn h0 (by omega) hb hx, Option.bind_some, (pc_h _ (ovF_b R k n hn)).2.1, Option.bind_some, nI_add, nI_1]
    exact h1
theorem ovs7 {n : Nat} {R : Nat → Nat} {x row : Nat → Int32} (hn : n ≤ 8) (h0 : row 0 = nI n) (hb : ∀ i, i < n → R i ≤ 100000) (hx : ∀ i, i < n → x i = nI (R i)) : S_X7_overtakings row x = some (nI (ovN R n n)) := by
  have := ovs7_loop hn h0 hb hx n 0 300 (by omega) (by omega)
  simp only [ovN, nI_0] at this
  unfold S_X7_overtakings
  exact this
theorem ovN_b (R : Nat → Nat) {n : Nat} (hn : n ≤ 8) : ∀ k, ovN R n k ≤ 8 * k := by
  intro k
  induction k with
  | zero => simp [ovN]
  | succ k ih =>
    have := (pc_h _ (ovF_b R k n hn)).2.2
    simp only [ovN]; omega
