/-! rows put aside; the draws of a day -/
theorem as_loop (row : Nat → Int32) : ∀ (m i f : Nat), i + m = 28 → m < f → ∀ (a : Nat → Int32), ∃ a', S_X7_asides_L2 row f (nI i) a = some a' ∧ ∀ k, k < 28 → a' k = (if k < i then a k else row k) := by
  intro m
  induction m with
  | zero =>
    intro i f hi hf a
    obtain ⟨f, rfl⟩ : ∃ q, f = q + 1 := ⟨f - 1, by omega⟩
    obtain rfl : i = 28 := by omega
    exact ⟨a, by rw [S_X7_asides_L2, if_pos (by decide)], fun k hk => by rw [if_pos hk]⟩
  | succ m ih =>
    intro i f hi hf a
    obtain ⟨f, rfl⟩ : ∃ q, f = q + 1 := ⟨f - 1, by omega⟩
    have h0 := nin' (n := i) (N := 28) (by omega) (by omega)
    obtain ⟨a', h1, h2⟩ := ih (i + 1) f (by omega) (by omega) (upd a i (row i))
    refine ⟨a', ?_, fun k hk => ?_⟩
    · rw [S_X7_asides_L2, if_neg (show ¬ (28 : Int32) ≤ nI i from nI_ge (b := 28) (by omega) (by omega)), if_neg h0, if_neg h0, nI_clamp (by omega), nI_1]
      exact h1
    · rw [h2 k hk]
      by_cases e : k = i
      · subst e; rw [if_pos (by omega), if_neg (by omega), pk_us]
      · rw [pk_un e]
        by_cases e2 : k < i
        · rw [if_pos (by omega), if_pos e2]
        · rw [if_neg (by omega), if_neg e2]
theorem as_h (row a : Nat → Int32) : ∃ a', S_X7_asides row a = some a' ∧ ∀ k, k < 28 → a' k = row k := by
  obtain ⟨a', h1, h2⟩ := as_loop row 28 0 300 rfl (by omega) a
  exact ⟨a', h1, fun k hk => by simpa using h2 k hk⟩
theorem bk_loop (a : Nat → Int32) : ∀ (m i f : Nat), i + m = 28 → m < f → ∀ (row : Nat → Int32), ∃ row', S_X7_backs_L2 a f (nI i) row = some row' ∧ ∀ k, k < 28 → row' k = (if k < i then row k else a k) := by
  intro m
  induction m with
  | zero =>
    intro i f hi hf row
    obtain ⟨f, rfl⟩ : ∃ q, f = q + 1 := ⟨f - 1, by omega⟩
    obtain rfl : i = 28 := by omega
    exact ⟨row, by rw [S_X7_backs_L2, if_pos (by decide)], fun k hk => by rw [if_pos hk]⟩
  | succ m ih =>
    intro i f hi hf row
    obtain ⟨f, rfl⟩ : ∃ q, f = q + 1 := ⟨f - 1, by omega⟩
    have h0 := nin' (n := i) (N := 28) (by omega) (by omega)
    obtain ⟨row', h1, h2⟩ := ih (i + 1) f (by omega) (by omega) (upd row i (a i))
    refine ⟨row', ?_, fun k hk => ?_⟩
    · rw [S_X7_backs_L2, if_neg (show ¬ (28 : Int32) ≤ nI i from nI_ge (b := 28) (by omega) (by omega)), if_neg h0, if_neg h0, nI_clamp (by omega), nI_1]
      exact h1
    · rw [h2 k hk]
      by_cases e : k = i
      · subst e; rw [if_pos (by omega), if_neg (by omega), pk_us]
      · rw [pk_un e]
        by_cases e2 : k < i
        · rw [if_pos (by omega), if_pos e2]
        · rw [if_neg (by omega), if_neg e2]
theorem bk_h (a row : Nat → Int32) : ∃ row', S_X7_backs a row = some row' ∧ ∀ k, k < 28 → row' k = a k := by
  obtain ⟨a', h1, h2⟩ := bk_loop a 28 0 300 rfl (by omega) row
  exact ⟨a', h1, fun k hk => by simpa using h2 k hk⟩
def drw (z k : Nat) : Nat := ((7919 * z + 6151 * k + 1) * (7919 * z + 6151 * k + 1)) % 65521
theorem dr_q (z k : Nat) (hz : z ≤ 9999) (hk : k ≤ 30) : ((7919 : Int64) * (nI z).toInt64 + (6151 : Int64) * (nI k).toInt64 + (1 : Int64)) = lN (7919 * z + 6151 * k + 1) := by
  rw [nI_l (by omega), nI_l (by omega), show (7919 : Int64) = lN 7919 from rfl, show (6151 : Int64) = lN 6151 from rfl, lN_mul, lN_mul, lN_add, lN_1]
theorem dr_v (z k : Nat) (hz : z ≤ 9999) (hk : k ≤ 30) : ((lN (7919 * z + 6151 * k + 1) * lN (7919 * z + 6151 * k + 1)) - (lN (7919 * z + 6151 * k + 1) * lN (7919 * z + 6151 * k + 1)) / (65521 : Int64) * (65521 : Int64)).toInt32 = nI (drw z k) := by
  have hb : (7919 * z + 6151 * k + 1) * (7919 * z + 6151 * k + 1) ≤ 80000000 * 80000000 := Nat.mul_le_mul (by omega) (by omega)
  rw [lN_mul, show (65521 : Int64) = lN 65521 from rfl, pk_lRem (by omega) (by omega) (by omega), lN_i]
  rfl
theorem dr_6 (z k : Nat) (hz : z ≤ 9999) (hk : k ≤ 30) : S_X6_drawOf (nI z) (nI k) = some (nI (drw z k)) := by
  unfold S_X6_drawOf nm
  dsimp only
  rw [dr_q z k hz hk, dr_v z k hz hk]
theorem dr_b (z k : Nat) : drw z k < 65521 := Nat.mod_lt _ (by omega)
theorem d_rem {a b : Nat} {B : Int32} (hB : B = nI b) (ha : a < 2 ^ 31) (h0 : 0 < b) (hb : b < 2 ^ 31) : nI a - nI a / B * B = nI (a % b) := by subst hB; exact pk_rem ha h0 hb
theorem d_div {a b : Nat} {B : Int32} (hB : B = nI b) (ha : a < 2 ^ 31) (h0 : 0 < b) (hb : b < 2 ^ 31) : nI a / B = nI (a / b) := by subst hB; exact pk_div ha h0 hb
theorem day_loop {z N v : Nat} (hz : z ≤ 9999) (hN : N ≤ 30) (hv1 : 1 ≤ v) (hv2 : v ≤ 9) (i3 sp st : Int32) (a : Nat → Int32) : ∀ (m k f1 f2 : Nat), k + m = N → m < f1 → m < f2 → ∀ (g n : Nat) (kd th ft row : Nat → Int32), n ≤ 8 → RR (nI n) (nI v) sp st kd th ft row →
    ∃ (r p1 p2 p3 p4 : Int32) (k' t' w' row' : Nat → Int32), S_X6_day_L49 (nI z) (nI N) i3 (nI v) sp st f1 (nI g) (nI k) (nI n) kd th ft = some (r, p1, p2, p3, p4, k', t', w') ∧ S_X7_day_L46 (nI z) (nI N) i3 a f2 (nI g) (nI k) row = some (r, row', a) ∧ ∀ q, q < 28 → row' q = a q := by
  intro m
  induction m with
  | zero =>
    intro k f1 f2 hk hf1 hf2 g n kd th ft row hn hR
    obtain ⟨f1, rfl⟩ : ∃ q, f1 = q + 1 := ⟨f1 - 1, by omega⟩
    obtain ⟨f2, rfl⟩ : ∃ q, f2 = q + 1 := ⟨f2 - 1, by omega⟩
    obtain rfl : k = N := by omega
    obtain ⟨row', h1, h2⟩ := bk_h a row
    have hr0 : row 0 = nI n := by obtain ⟨_, _, q, _⟩ := hR; exact q
    rw [S_X6_day_L49, S_X7_day_L46, if_pos (nI_rf k), if_pos (nI_rf k), h1, Option.bind_some, hr0]
    by_cases e : i3 = 0
    · rw [if_pos e, if_pos e]; exact ⟨_, _, _, _, _, _, _, _, row', rfl, rfl, h2⟩
    · rw [if_neg e, if_neg e]; exact ⟨_, _, _, _, _, _, _, _, row', rfl, rfl, h2⟩
  | succ m ih =>
    intro k f1 f2 hk hf1 hf2 g n kd th ft row hn hR
    obtain ⟨f1, rfl⟩ : ∃ q, f1 = q + 1 := ⟨f1 - 1, by omega⟩
    obtain ⟨f2, rfl⟩ : ∃ q, f2 = q + 1 := ⟨f2 - 1, by omega⟩
    have hd := dr_b z k
    have hr0 : row 0 = nI n := by obtain ⟨_, _, q, _⟩ := hR; exact q
    rw [S_X6_day_L49, S_X7_day_L46, if_neg (nI_ge (by omega) (by omega)), if_neg (nI_ge (by omega) (by omega)), dr_6 z k hz (by omega), Option.bind_some]
    unfold nm jn
    dsimp only
    rw [dr_q z k hz (by omega), dr_v z k hz (by omega)]
    generalize drw z k = d at hd ⊢
    have f1' : nI d - nI d / (4 : Int32) * (4 : Int32) = nI (d % 4) := pk_rem (d := 4) (by omega) (by omega) (by omega)
    have f2' : nI d / (4 : Int32) = nI (d / 4) := pk_div (d := 4) (by omega) (by omega) (by omega)
    have f3' : nI (d / 4) - nI (d / 4) / (9 : Int32) * (9 : Int32) = nI (d / 4 % 9) := pk_rem (d := 9) (by omega) (by omega) (by omega)
    have f4' : nI d / (64 : Int32) = nI (d / 64) := pk_div (d := 64) (by omega) (by omega) (by omega)
    have f5' : nI (d / 64) - nI (d / 64) / (5 : Int32) * (5 : Int32) = nI (d / 64 % 5) := pk_rem (d := 5) (by omega) (by omega) (by omega)
    have f6' : nI d / (16 : Int32) = nI (d / 16) := pk_div (d := 16) (by omega) (by omega) (by omega)
    have f7' : nI (d / 16) - nI (d / 16) / (20 : Int32) * (20 : Int32) = nI (d / 16 % 20) := pk_rem (d := 20) (by omega) (by omega) (by omega)
    rw [f1', f2', f3', f4', f5', f6', f7', nI_1, nI_1, hr0]
    by_cases h8 : n = 8
    · subst h8
      obtain ⟨j, n', t', k', w', row', g0, g1, g2, g3⟩ := lg_h (t := d / 16 % 20) (n := 8) (by omega) hv1 hv2 (by omega) hR
      obtain ⟨r, p1, p2, p3, p4, k2, t2, w2, row2, e1, e2, e3⟩ := ih (k + 1) f1 f2 (by omega) (by omega) (by omega) (g + j) n' k' t' w' row' (by omega) g3
      refine ⟨r, p1, p2, p3, p4, k2, t2, w2, row2, ?_, ?_, e3⟩
      · unfold S_X3_append
        rw [if_pos (by decide), Option.bind_some]
        dsimp only
        rw [g1, Option.bind_some]
        dsimp only
        rw [nI_add, nI_1]; exact e1
      · rw [if_pos (by decide), g2, Option.bind_some]
        dsimp only
        rw [nI_add, nI_1]; exact e2
    · obtain ⟨a1, a2⟩ := RR_app (k := d % 4) (t := d / 4 % 9 + 1) (f := d / 64 % 5 + 1) hR (by omega) (by omega) (by omega) (by omega) (by omega) (by omega)
      obtain ⟨j, n', t', k', w', row', g0, g1, g2, g3⟩ := lg_h (t := d / 16 % 20) (n := n + 1) (by omega) hv1 hv2 (by omega) a2
      obtain ⟨r, p1, p2, p3, p4, k2, t2, w2, row2, e1, e2, e3⟩ := ih (k + 1) f1 f2 (by omega) (by omega) (by omega) (g + j) n' k' t' w' row' (by omega) g3
      refine ⟨r, p1, p2, p3, p4, k2, t2, w2, row2, ?_, ?_, e3⟩
      · rw [app3 (by omega) (by omega) (by omega) (by omega) (by omega) (by omega), Option.bind_some]
        dsimp only
        rw [g1, Option.bind_some]
        dsimp only
        rw [nI_add, nI_1]; exact e1
      · rw [if_neg (show ¬ (8 : Int32) ≤ nI n from nI_ge (b := 8) (by omega) (by omega)), a1, Option.bind_some, g2, Option.bind_some]
        dsimp only
        rw [nI_add, nI_1]; exact e2
