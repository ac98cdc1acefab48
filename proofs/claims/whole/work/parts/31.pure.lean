/-! the pure side: small words -/
theorem i64_le {x y : Int32} : x.toInt64 ≤ y.toInt64 ↔ x ≤ y := by
  rw [Int64.le_iff_toInt_le, Int32.le_iff_toInt_le, Int32.toInt_toInt64, Int32.toInt_toInt64]
theorem wi (x a b : Int32) : S_X6_within x a b = some (if a ≤ x ∧ x ≤ b then 1 else 0) := by
  unfold S_X6_within
  by_cases h : x < a
  · rw [if_pos h, if_neg (fun q => absurd q.1 (Int32.not_le.mpr h))]
  · rw [if_neg h]
    by_cases h2 : b < x
    · rw [if_pos h2, if_neg (fun q => absurd q.2 (Int32.not_le.mpr h2))]
    · rw [if_neg h2, if_pos ⟨Int32.not_lt.mp h, Int32.not_lt.mp h2⟩]
theorem lgc_lt (u v : Int64) : (lg_cmp u v < 0) ↔ ¬ v ≤ u := by rw [← Int32.not_le, lg_cmp_ge]
theorem lgc_gt (u v : Int64) : (0 < lg_cmp u v) ↔ ¬ u ≤ v := by rw [← Int32.not_le, lg_cmp_le]
theorem inn (x a b : Int32) : S_X7_in x.toInt64 a.toInt64 b.toInt64 = some (if a ≤ x ∧ x ≤ b then 1 else 0) := by
  unfold S_X7_in
  by_cases h : a ≤ x
  · rw [if_neg (by rw [lgc_lt, i64_le]; exact fun q => q h)]
    by_cases h2 : x ≤ b
    · rw [if_neg (by rw [lgc_gt, i64_le]; exact fun q => q h2), if_pos ⟨h, h2⟩]
    · rw [if_pos (by rw [lgc_gt, i64_le]; exact h2), if_neg (fun q => h2 q.2)]
  · rw [if_pos (by rw [lgc_lt, i64_le]; exact h), if_neg (fun q => h q.1)]
theorem inl (x : Int32) (A B : Int64) (a b : Int32) (ha : A = a.toInt64) (hb : B = b.toInt64) : S_X7_in x.toInt64 A B = some (if a ≤ x ∧ x ≤ b then 1 else 0) := by
  rw [ha, hb, inn]
/-- x is the number of one of n -/
theorem ix_split (x : Int32) {n : Nat} (hn : n < 2 ^ 31) : (¬ (0 ≤ x ∧ x < nI n)) ∨ ∃ j, j < n ∧ x = nI j := by
  rcases pk_ix x hn with h | h | h
  · exact Or.inl (fun q => absurd q.1 (Int32.not_le.mpr h))
  · exact Or.inl (fun q => absurd h (Int32.not_le.mpr q.2))
  · exact Or.inr h
theorem has_no {x : Int32} {n : Nat} (h : ¬ (0 ≤ x ∧ x < nI n)) : S_X3_has x (nI n) = some 0 := by
  unfold S_X3_has
  by_cases h1 : x < 0
  · rw [if_pos h1]
  · rw [if_neg h1, if_pos (Int32.not_lt.mp (fun q => h ⟨Int32.not_lt.mp h1, q⟩))]
theorem has_in {j n : Nat} (h : j < n) (hn : n < 2 ^ 31) : S_X3_has (nI j) (nI n) = some 1 := by
  unfold S_X3_has
  rw [if_neg (nI_pos (by omega)), if_neg (nI_ge h hn)]
theorem nI_sub1 {n : Nat} (hn : n < 2 ^ 31) : (nI n - 1).toInt = (n : Int) - 1 := by
  by_cases h : n < 2 ^ 30
  · exact pk_sub_toInt (b := 1) h (by omega)
  · rw [show (1 : Int32) = nI 1 from rfl, pk_sub (by omega), nI_toInt (by omega)]; omega
theorem isP_eq {x : Int32} {n : Nat} (hn : n < 2 ^ 31) : (0 ≤ x ∧ x ≤ nI n - 1) ↔ (0 ≤ x ∧ x < nI n) := by
  rw [Int32.le_iff_toInt_le (x := x), Int32.lt_iff_toInt_lt, nI_sub1 hn, nI_toInt hn]
  constructor <;> (rintro ⟨a, b⟩; exact ⟨a, by omega⟩)
theorem isP_no {x : Int32} {row : Nat → Int32} {n : Nat} (hn : n < 2 ^ 31) (h0 : row 0 = nI n) (h : ¬ (0 ≤ x ∧ x < nI n)) : S_X7_isPerson x row = some 0 := by
  unfold S_X7_isPerson
  rw [h0, inl x 0 (nI n - 1).toInt64 0 (nI n - 1) rfl rfl, if_neg (fun q => h ((isP_eq hn).mp q))]
  rfl
theorem isP_in {j : Nat} {row : Nat → Int32} {n : Nat} (hn : n < 2 ^ 31) (h0 : row 0 = nI n) (h : j < n) : S_X7_isPerson (nI j) row = some 1 := by
  unfold S_X7_isPerson
  rw [h0, inl (nI j) 0 (nI n - 1).toInt64 0 (nI n - 1) rfl rfl, if_pos ((isP_eq hn).mpr ⟨nI_pos' (by omega), nI_lt h hn⟩)]
  rfl
theorem ch_id {c : Nat} (hc : c < 65536) : ((nI c).toUInt32 % 65536).toInt32 = nI c := by
  rw [pk_char, pk_tn (by omega), Nat.mod_eq_of_lt hc]
theorem chn_id {c : Nat} (hc : c < 65536) : vp_nar .char (nI c) = nI c := by
  have h := pk_vc (nI c)
  rw [ch_id hc] at h
  exact h
theorem nin' {n N : Nat} (h : n < N) (hN : N < 2 ^ 31) : ¬ (nI n < 0 ∨ N ≤ (nI n).toNatClampNeg) := by
  rw [nI_clamp (by omega)]; exact nin h hN
theorem i4 (i : Nat) : (4 : Int32) + (3 : Int32) * nI i = nI (4 + 3 * i) := by rw [show (4 : Int32) = nI 4 from rfl, show (3 : Int32) = nI 3 from rfl, pk_mul, nI_add]
theorem i5 (i : Nat) : (4 : Int32) + (3 : Int32) * nI i + (1 : Int32) = nI (5 + 3 * i) := by rw [i4, nI_1]; congr 1; omega
theorem i6 (i : Nat) : (4 : Int32) + (3 : Int32) * nI i + (2 : Int32) = nI (6 + 3 * i) := by rw [i4, show (2 : Int32) = nI 2 from rfl, nI_add]; congr 1; omega
theorem kind7 {i : Nat} (row : Nat → Int32) (h : i < 8) : S_X7_kind (nI i) row = some (row (4 + 3 * i)) := by
  unfold S_X7_kind
  rw [i4, if_neg (nin' (by omega) (by omega)), nI_clamp (by omega)]
theorem things7 {i : Nat} (row : Nat → Int32) (h : i < 8) : S_X7_things (nI i) row = some (row (5 + 3 * i)) := by
  unfold S_X7_things
  rw [i5, if_neg (nin' (by omega) (by omega)), nI_clamp (by omega)]
theorem walk7 {i : Nat} (row : Nat → Int32) (h : i < 8) : S_X7_walk (nI i) row = some (row (6 + 3 * i) * (row 3 + row 0 - nI i)) := by
  unfold S_X7_walk
  rw [i6, if_neg (nin' (by omega) (by omega)), nI_clamp (by omega)]
theorem walk3 {i n : Nat} (st : Int32) (ft : Nat → Int32) (h : i < n) (hn : n ≤ 8) : S_X3_walk (nI i) (nI n) st ft = some (ft i * (st + nI n - nI i)) := by
  unfold S_X3_walk
  rw [has_in h (by omega), Option.bind_some, if_neg (by decide), if_neg (nin' (by omega) (by omega)), nI_clamp (by omega)]
theorem one_ne : ¬ (1 : Int32) = 0 := by decide
