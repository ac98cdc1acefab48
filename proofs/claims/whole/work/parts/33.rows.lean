/-! who comes, who leaves, seconds that go by -/
theorem rm_loop {n : Nat} (hn : n ≤ 8) : ∀ (m i f : Nat), i + 1 + m = n → m < f → ∀ (k t w : Nat → Int32), ∃ k' t' w', S_X3_removeAt_L11 (nI n) f (nI i) k t w = some (nI (n - 1), k', t', w') ∧ ∀ j, j < n - 1 → k' j = (if j < i then k j else k (j + 1)) ∧ t' j = (if j < i then t j else t (j + 1)) ∧ w' j = (if j < i then w j else w (j + 1)) := by
  intro m
  induction m with
  | zero =>
    intro i f hi hf k t w
    obtain ⟨f, rfl⟩ : ∃ q, f = q + 1 := ⟨f - 1, by omega⟩
    refine ⟨k, t, w, ?_, fun j hj => ?_⟩
    · rw [S_X3_removeAt_L11, nI_1, if_pos (nI_le (by omega) (by omega)), show n = (n - 1) + 1 by omega, nI_pred]; rfl
    · rw [if_pos (by omega), if_pos (by omega), if_pos (by omega)]; exact ⟨rfl, rfl, rfl⟩
  | succ m ih =>
    intro i f hi hf k t w
    obtain ⟨f, rfl⟩ : ∃ q, f = q + 1 := ⟨f - 1, by omega⟩
    have h1 := nin' (n := i) (N := 8) (by omega) (by omega)
    have h2 := nin' (n := i + 1) (N := 8) (by omega) (by omega)
    obtain ⟨k', t', w', g1, g2⟩ := ih (i + 1) f (by omega) (by omega) (upd k i (k (i + 1))) (upd t i (t (i + 1))) (upd w i (w (i + 1)))
    refine ⟨k', t', w', ?_, fun j hj => ?_⟩
    · rw [S_X3_removeAt_L11, nI_1, if_neg (nI_ge (by omega) (by omega)), if_neg h2, if_neg h1, if_neg h2, if_neg h1, if_neg h2, if_neg h1, nI_clamp (by omega), nI_clamp (by omega)]
      exact g1
    · obtain ⟨a1, a2, a3⟩ := g2 j hj
      rw [a1, a2, a3]
      by_cases e : j = i
      · subst e; simp [pk_us]
      · by_cases e2 : j < i
        · simp [e2, show j < i + 1 by omega, pk_un e]
        · simp [e2, show ¬ j < i + 1 by omega, pk_un (show j + 1 ≠ i by omega)]
theorem rm_h {n j : Nat} (hn : n ≤ 8) (hj : j < n) (k t w : Nat → Int32) : ∃ k' t' w', S_X3_removeAt (nI j) (nI n) k t w = some (nI (n - 1), k', t', w') ∧ ∀ i, i < n - 1 → k' i = (if i < j then k i else k (i + 1)) ∧ t' i = (if i < j then t i else t (i + 1)) ∧ w' i = (if i < j then w i else w (i + 1)) := by
  obtain ⟨k', t', w', h1, h2⟩ := rm_loop hn (n - 1 - j) j 300 (by omega) (by omega) k t w
  refine ⟨k', t', w', ?_, h2⟩
  unfold S_X3_removeAt
  rw [has_in hj (by omega), Option.bind_some, if_neg one_ne]
  exact h1
theorem ga_loop : ∀ (m i f : Nat), i + m = 25 → 4 ≤ i → m < f → ∀ (row : Nat → Int32), ∃ row', S_X7_goesAway_L6 f (nI i) row = some row' ∧ row' 0 = row 0 - 1 ∧ (∀ k, 1 ≤ k → k < 25 → row' k = (if k < i then row k else row (k + 3))) := by
  intro m
  induction m with
  | zero =>
    intro i f hi h4 hf row
    obtain ⟨f, rfl⟩ : ∃ q, f = q + 1 := ⟨f - 1, by omega⟩
    obtain rfl : i = 25 := by omega
    refine ⟨upd row 0 (row 0 - 1), ?_, pk_us, fun k h1 h2 => ?_⟩
    · rw [S_X7_goesAway_L6, if_pos (by decide)]
    · rw [if_pos h2, pk_un (by omega)]
  | succ m ih =>
    intro i f hi h4 hf row
    obtain ⟨f, rfl⟩ : ∃ q, f = q + 1 := ⟨f - 1, by omega⟩
    obtain ⟨row', h1, h2, h3⟩ := ih (i + 1) f (by omega) (by omega) (by omega) (upd row i (row (i + 3)))
    refine ⟨row', ?_, ?_, fun k k1 k2 => ?_⟩
    · rw [S_X7_goesAway_L6, if_neg (show ¬ (25 : Int32) ≤ nI i from nI_ge (b := 25) (by omega) (by omega)), show nI i + (3 : Int32) = nI (i + 3) from nI_add i 3, if_neg (nin' (by omega) (by omega)), if_neg (nin' (by omega) (by omega)), nI_clamp (by omega), nI_clamp (by omega), nI_1]
      exact h1
    · rw [h2, pk_un (by omega)]
    · rw [h3 k k1 k2]
      by_cases e : k = i
      · subst e; rw [if_pos (by omega), if_neg (by omega), pk_us]
      · by_cases e2 : k < i
        · rw [if_pos (by omega), if_pos e2, pk_un e]
        · rw [if_neg (by omega), if_neg e2, pk_un (by omega)]
theorem ga_h {j : Nat} (hj : j < 8) (row : Nat → Int32) : ∃ row', S_X7_goesAway (nI j) row = some row' ∧ row' 0 = row 0 - 1 ∧ (∀ k, 1 ≤ k → k < 25 → row' k = (if k < 4 + 3 * j then row k else row (k + 3))) := by
  obtain ⟨row', h1, h2⟩ := ga_loop (25 - (4 + 3 * j)) (4 + 3 * j) 300 (by omega) (by omega) (by omega) row
  refine ⟨row', ?_, h2⟩
  unfold S_X7_goesAway
  rw [i4]
  exact h1
/-- one out of the row -/
theorem RR_rm {n j : Nat} {fp sp st : Int32} {kd th ft row : Nat → Int32} (hR : RR (nI n) fp sp st kd th ft row) (hn : n ≤ 8) (hj : j < n) :
    ∃ k' t' w' row', S_X3_removeAt (nI j) (nI n) kd th ft = some (nI (n - 1), k', t', w') ∧ S_X7_goesAway (nI j) row = some row' ∧ RR (nI (n - 1)) fp sp st k' t' w' row' ∧ (∀ i, i < n - 1 → t' i = (if i < j then th i else th (i + 1))) := by
  obtain ⟨n', hV, r0, r1, r2, r3, hi⟩ := hR
  obtain ⟨v1, v2, v3, v4, v5, v6⟩ := hV
  obtain rfl : n = n' := (nI_eq (by omega) (by omega)).mp v2
  obtain ⟨k', t', w', h1, h2⟩ := rm_h hn hj kd th ft
  obtain ⟨row', g1, g2, g3⟩ := ga_h (j := j) (by omega) row
  refine ⟨k', t', w', row', h1, g1, ⟨n - 1, ⟨by omega, rfl, v3, v4, v5, fun i hin => ?_⟩, ?_, ?_, ?_, ?_, fun i hin => ?_⟩, fun i hin => (h2 i hin).2.1⟩
  · obtain ⟨a1, a2, a3⟩ := h2 i hin
    rw [a1, a2, a3]
    by_cases e : i < j
    · rw [if_pos e, if_pos e, if_pos e]; exact v6 i (by omega)
    · rw [if_neg e, if_neg e, if_neg e]; exact v6 (i + 1) (by omega)
  · rw [g2, r0]
    obtain ⟨q, rfl⟩ : ∃ q, n = q + 1 := ⟨n - 1, by omega⟩
    rw [nI_pred]; rfl
  · rw [g3 1 (by omega) (by omega), if_pos (by omega), r1]
  · rw [g3 2 (by omega) (by omega), if_pos (by omega), r2]
  · rw [g3 3 (by omega) (by omega), if_pos (by omega), r3]
  · obtain ⟨a1, a2, a3⟩ := h2 i hin
    rw [a1, a2, a3, g3 (4 + 3 * i) (by omega) (by omega), g3 (5 + 3 * i) (by omega) (by omega), g3 (6 + 3 * i) (by omega) (by omega)]
    by_cases e : i < j
    · rw [if_pos e, if_pos e, if_pos e, if_pos (by omega), if_pos (by omega), if_pos (by omega)]; exact hi i (by omega)
    · rw [if_neg e, if_neg e, if_neg e, if_neg (by omega), if_neg (by omega), if_neg (by omega), show 4 + 3 * i + 3 = 4 + 3 * (i + 1) by omega, show 5 + 3 * i + 3 = 5 + 3 * (i + 1) by omega, show 6 + 3 * i + 3 = 6 + 3 * (i + 1) by omega]
      exact hi (i + 1) (by omega)
/-- one more at the end -/
theorem isPer {k t f : Nat} (hk : k ≤ 3) (ht : 1 ≤ t) (ht2 : t ≤ 20) (hf : 1 ≤ f) (hf2 : f ≤ 9) : S_X6_isPerson (nI k) (nI t) (nI f) = some 1 := by
  unfold S_X6_isPerson
  rw [wi, if_pos ⟨nI_pos' (by omega), nI_le (b := 3) hk (by omega)⟩, Option.bind_some, if_neg one_ne, wi, if_pos ⟨nI_le (a := 1) ht (by omega), nI_le (b := 20) ht2 (by omega)⟩, Option.bind_some, if_neg one_ne, wi, if_pos ⟨nI_le (a := 1) hf (by omega), nI_le (b := 9) hf2 (by omega)⟩, Option.bind_some, if_neg one_ne]
theorem app3 {n k t f : Nat} (hn : n < 8) (hk : k ≤ 3) (ht : 1 ≤ t) (ht2 : t ≤ 20) (hf : 1 ≤ f) (hf2 : f ≤ 9) (kd th ft : Nat → Int32) : S_X3_append (nI k) (nI t) (nI f) (nI n) kd th ft = some (1, nI (n + 1), upd kd n (nI k), upd th n (nI t), upd ft n (nI f)) := by
  have h := nin' (n := n) (N := 8) hn (by omega)
  unfold S_X3_append
  rw [if_neg (show ¬ (8 : Int32) ≤ nI n from nI_ge (b := 8) hn (by omega)), isPer hk ht ht2 hf hf2, Option.bind_some, if_neg one_ne, if_neg h, if_neg h, if_neg h, nI_clamp (by omega), nI_1]
theorem RR_app {n k t f : Nat} {fp sp st : Int32} {kd th ft row : Nat → Int32} (hR : RR (nI n) fp sp st kd th ft row) (hn : n < 8) (hk : k ≤ 3) (ht : 1 ≤ t) (ht2 : t ≤ 20) (hf : 1 ≤ f) (hf2 : f ≤ 9) :
    S_X7_stands (nI k) (nI t) (nI f) row = some (stR row n (nI k) (nI t) (nI f)) ∧ RR (nI (n + 1)) fp sp st (upd kd n (nI k)) (upd th n (nI t)) (upd ft n (nI f)) (stR row n (nI k) (nI t) (nI f)) := by
  obtain ⟨n', hV, r0, r1, r2, r3, hi⟩ := hR
  obtain ⟨v1, v2, v3, v4, v5, v6⟩ := hV
  obtain rfl : n = n' := (nI_eq (by omega) (by omega)).mp v2
  refine ⟨stR_h _ _ _ _ _ hn r0, n + 1, ⟨by omega, rfl, v3, v4, v5, fun i hin => ?_⟩, ?_, ?_, ?_, ?_, fun i hin => ?_⟩
  · by_cases e : i = n
    · subst e; rw [pk_us, pk_us, pk_us]; exact ⟨⟨k, hk, rfl⟩, ⟨t, ht, ht2, rfl⟩, ⟨f, hf, hf2, rfl⟩⟩
    · rw [pk_un e, pk_un e, pk_un e]; exact v6 i (by omega)
  · exact pk_us
  · unfold stR; rw [pk_un (by omega), pk_un (by omega), pk_un (by omega), pk_un (by omega), r1]
  · unfold stR; rw [pk_un (by omega), pk_un (by omega), pk_un (by omega), pk_un (by omega), r2]
  · unfold stR; rw [pk_un (by omega), pk_un (by omega), pk_un (by omega), pk_un (by omega), r3]
  · unfold stR
    by_cases e : i = n
    · subst e
      rw [pk_us, pk_us, pk_us, pk_un (by omega), pk_un (by omega), pk_un (by omega), pk_us, pk_un (by omega), pk_un (by omega), pk_us, pk_un (by omega), pk_us]
      exact ⟨rfl, rfl, rfl⟩
    · rw [pk_un e, pk_un e, pk_un e, pk_un (by omega), pk_un (by omega), pk_un (by omega), pk_un (by omega), pk_un (by omega), pk_un (by omega), pk_un (by omega), pk_un (by omega), pk_un (by omega), pk_un (by omega), pk_un (by omega), pk_un (by omega)]
      exact hi i (by omega)
theorem nI_rf (k : Nat) : nI k ≤ nI k := by rw [Int32.le_iff_toInt_le]; exact Int.le_refl _
/-- l THINGS go through at the first till -/
theorem lg_loop {fp sp st : Int32} : ∀ (n k l g f1 f2 : Nat), k + n ≤ 8 → l < 2 ^ 31 → n < f1 → n < f2 → ∀ (kd th ft row : Nat → Int32), RR (nI n) fp sp st kd th ft row →
    ∃ (j n' : Nat) (t' k' w' row' : Nat → Int32), j + n' = n ∧ S_X3_letGoBy_L17 (nI (k + n)) f1 (nI l) (nI g) (nI k) (nI n) th kd ft = some (nI (g + j), nI n', t', k', w') ∧ S_X7_goesBy_L11 f2 (nI l) (nI g) row = some (nI (g + j), row') ∧ RR (nI n') fp sp st k' t' w' row' := by
  intro n
  induction n with
  | zero =>
    intro k l g f1 f2 h8 hl hf1 hf2 kd th ft row hR
    obtain ⟨f1, rfl⟩ : ∃ q, f1 = q + 1 := ⟨f1 - 1, by omega⟩
    obtain ⟨f2, rfl⟩ : ∃ q, f2 = q + 1 := ⟨f2 - 1, by omega⟩
    have hr0 : row 0 = nI 0 := by obtain ⟨n', hV, r0, -⟩ := hR; exact r0
    refine ⟨0, 0, th, kd, ft, upd row 5 (row 5 - 0), rfl, ?_, ?_, ?_⟩
    · rw [S_X3_letGoBy_L17]; unfold jn; dsimp only
      rw [if_pos (show nI (k + 0) ≤ nI k from nI_rf k)]; rfl
    · rw [S_X7_goesBy_L11]; unfold jn; dsimp only
      rw [hr0, if_pos (by decide), if_pos (by decide)]; rfl
    · obtain ⟨n', hV, r0, r1, r2, r3, hi⟩ := hR
      obtain rfl : 0 = n' := (nI_eq (by omega) (by have := hV.1; omega)).mp hV.2.1
      exact ⟨0, hV, by rw [pk_un (by omega), r0], by rw [pk_un (by omega), r1], by rw [pk_un (by omega), r2], by rw [pk_un (by omega), r3], fun i hin => absurd hin (by omega)⟩
  | succ n ih =>
    intro k l g f1 f2 h8 hl hf1 hf2 kd th ft row hR
    obtain ⟨f1, rfl⟩ : ∃ q, f1 = q + 1 := ⟨f1 - 1, by omega⟩
    obtain ⟨f2, rfl⟩ : ∃ q, f2 = q + 1 := ⟨f2 - 1, by omega⟩
    obtain ⟨n', hV, r0, r1, r2, r3, hi⟩ := id hR
    obtain rfl : n + 1 = n' := (nI_eq (by omega) (by have := hV.1; omega)).mp hV.2.1
    obtain ⟨⟨kk, hkk, ekk⟩, ⟨t, ht1, ht2, et⟩, ⟨w, hw1, hw2, ew⟩⟩ := hV.2.2.2.2.2 0 (by omega)
    have hrow5 : row 5 = nI t := by rw [← et]; exact (hi 0 (by omega)).2.1
    have h70 : S_X7_things (0 : Int32) row = some (nI t) := by
      have := things7 (i := 0) row (by omega)
      rw [show (0 : Int32) = nI 0 from rfl, this, ← hrow5]
    by_cases hlt : l < t
    · refine ⟨0, n + 1, upd th 0 (nI (t - l)), kd, ft, upd row 5 (nI (t - l)), by omega, ?_, ?_, ?_⟩
      · rw [S_X3_letGoBy_L17]; unfold jn; dsimp only
        rw [if_neg (nI_ge (by omega) (by omega)), et, if_pos (nI_lt hlt (by omega)), if_neg (nI_nle (by omega) (by omega)), pk_sub (by omega)]
        rfl
      · rw [S_X7_goesBy_L11]; unfold jn; dsimp only
        rw [r0, if_neg (nI_nle (by omega) (by omega)), h70, Option.bind_some, if_pos (nI_lt hlt (by omega)), if_neg (nI_nle (by omega) (by omega)), hrow5, pk_sub (by omega)]
        rfl
      · refine ⟨n + 1, ⟨hV.1, rfl, hV.2.2.1, hV.2.2.2.1, hV.2.2.2.2.1, fun i hin => ?_⟩, by rw [pk_un (by omega), r0], by rw [pk_un (by omega), r1], by rw [pk_un (by omega), r2], by rw [pk_un (by omega), r3], fun i hin => ?_⟩
        · by_cases e : i = 0
          · subst e; rw [pk_us]; exact ⟨⟨kk, hkk, ekk⟩, ⟨t - l, by omega, by omega, rfl⟩, ⟨w, hw1, hw2, ew⟩⟩
          · rw [pk_un e]; exact hV.2.2.2.2.2 i hin
        · by_cases e : i = 0
          · subst e; rw [pk_us, pk_us, pk_un (by omega), pk_un (by omega)]; exact ⟨(hi 0 (by omega)).1, rfl, (hi 0 (by omega)).2.2⟩
          · rw [pk_un e, pk_un (by omega), pk_un (by omega), pk_un (by omega)]; exact hi i hin
    · obtain ⟨k1, t1, w1, row1, e1, e2, e3, -⟩ := RR_rm (j := 0) hR (by omega) (by omega)
      obtain ⟨j, n', t', k', w', row', g0, g1, g2, g3⟩ := ih (k + 1) (l - t) (g + 1) f1 f2 (by omega) (by omega) (by omega) (by omega) k1 t1 w1 row1 e3
      refine ⟨j + 1, n', t', k', w', row', by omega, ?_, ?_, g3⟩
      · rw [S_X3_letGoBy_L17]; unfold jn; dsimp only
        rw [if_neg (nI_ge (by omega) (by omega)), et, if_neg (nI_nlt (by omega) (by omega)), show (0 : Int32) = nI 0 from rfl, e1, Option.bind_some, pk_sub (by omega), nI_1, nI_1]
        dsimp only
        rw [show g + (j + 1) = g + 1 + j by omega, show k + (n + 1) = k + 1 + n by omega]
        exact g1
      · rw [S_X7_goesBy_L11]; unfold jn; dsimp only
        rw [r0, if_neg (nI_nle (by omega) (by omega)), h70, Option.bind_some, if_neg (nI_nlt (by omega) (by omega)), Option.bind_some, show (0 : Int32) = nI 0 from rfl, e2, Option.bind_some, pk_sub (by omega), nI_1, show g + (j + 1) = g + 1 + j by omega]
        exact g2
theorem through {v t : Nat} (hv : 1 ≤ v) (hv2 : v ≤ 9) (ht : t < 2 ^ 31) : S_X3_thingsThrough (nI t) (nI v) = some (nI (t / v)) := by
  unfold S_X3_thingsThrough
  rw [if_neg (nI_nle (by omega) (by omega)), if_neg (nI_ne0 (by omega) (by omega)), pk_div ht (by omega) (by omega)]
theorem lg_h {n v t : Nat} {sp st : Int32} {kd th ft row : Nat → Int32} (hn : n ≤ 8) (hv : 1 ≤ v) (hv2 : v ≤ 9) (ht : t < 2 ^ 31) (hR : RR (nI n) (nI v) sp st kd th ft row) :
    ∃ (j n' : Nat) (t' k' w' row' : Nat → Int32), j + n' = n ∧ S_X3_letGoBy (nI t) (nI n) (nI v) th kd ft = some (nI j, nI n', t', k', w') ∧ S_X7_goesBy (nI t) row = some (nI j, row') ∧ RR (nI n') (nI v) sp st k' t' w' row' := by
  obtain ⟨j, n', t', k', w', row', g0, g1, g2, g3⟩ := lg_loop n 0 (t / v) 0 300 300 (by omega) (Nat.lt_of_le_of_lt (Nat.div_le_self t v) ht) (by omega) (by omega) kd th ft row hR
  refine ⟨j, n', t', k', w', row', g0, ?_, ?_, g3⟩
  · unfold S_X3_letGoBy
    rw [through hv hv2 ht, Option.bind_some]
    rw [Nat.zero_add] at g1
    rw [Nat.zero_add] at g1
    exact g1
  · unfold S_X7_goesBy
    have hr1 : row 1 = nI v := by obtain ⟨_, _, _, r1, _⟩ := hR; exact r1
    rw [hr1, if_neg (nI_ne0 (by omega) (by omega)), pk_div ht (by omega) (by omega)]
    rw [Nat.zero_add] at g2
    exact g2
