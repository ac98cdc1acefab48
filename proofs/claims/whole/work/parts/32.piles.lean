/-! copies of shops and of rows -/
theorem like_loop (a b c d : Int32) (yk yt yf : Nat → Int32) : ∀ (m i n : Nat), i + m = 8 → m < n → ∀ (k t f : Nat → Int32), ∃ k' t' f', S_X3_becomeLike_L34 a b c d yk yt yf n (nI i) k t f = some (a, b, c, d, k', t', f') ∧ ∀ j, j < 8 → k' j = (if j < i then k j else yk j) ∧ t' j = (if j < i then t j else yt j) ∧ f' j = (if j < i then f j else yf j) := by
  intro m
  induction m with
  | zero =>
    intro i n hi hn k t f
    obtain ⟨n, rfl⟩ : ∃ q, n = q + 1 := ⟨n - 1, by omega⟩
    obtain rfl : i = 8 := by omega
    refine ⟨k, t, f, ?_, fun j hj => by simp [hj]⟩
    rw [S_X3_becomeLike_L34, if_pos (by decide)]
  | succ m ih =>
    intro i n hi hn k t f
    obtain ⟨n, rfl⟩ : ∃ q, n = q + 1 := ⟨n - 1, by omega⟩
    have hin := nin' (n := i) (N := 8) (by omega) (by omega)
    obtain ⟨k', t', f', h1, h2⟩ := ih (i + 1) n (by omega) (by omega) (upd k i (yk i)) (upd t i (yt i)) (upd f i (yf i))
    refine ⟨k', t', f', ?_, fun j hj => ?_⟩
    · rw [S_X3_becomeLike_L34, if_neg (show ¬ (8 : Int32) ≤ nI i from nI_ge (b := 8) (by omega) (by omega)), if_neg hin, if_neg hin, if_neg hin, if_neg hin, if_neg hin, if_neg hin, nI_clamp (by omega), nI_1]
      exact h1
    · obtain ⟨g1, g2, g3⟩ := h2 j hj
      rw [g1, g2, g3]
      by_cases e : j = i
      · subst e; simp [pk_us]
      · rw [pk_un e, pk_un e, pk_un e]
        by_cases e2 : j < i
        · simp [e2, Nat.lt_succ_of_lt e2]
        · simp [e2, show ¬ j < i + 1 by omega]
theorem like_h (a b c d : Int32) (yk yt yf xk xt xf : Nat → Int32) : ∃ k' t' f', S_X3_becomeLike a b c d yk xk yt xt yf xf = some (a, b, c, d, k', t', f') ∧ ∀ j, j < 8 → k' j = yk j ∧ t' j = yt j ∧ f' j = yf j := by
  obtain ⟨k', t', f', h1, h2⟩ := like_loop a b c d yk yt yf 8 0 300 rfl (by omega) xk xt xf
  exact ⟨k', t', f', h1, fun j hj => by simpa using h2 j hj⟩
theorem VRow.congr {n : Nat} {pp fp sp st : Int32} {kd th ft kd' th' ft' : Nat → Int32} (h : VRow n pp fp sp st kd th ft) (hk : ∀ j, j < 8 → kd' j = kd j ∧ th' j = th j ∧ ft' j = ft j) : VRow n pp fp sp st kd' th' ft' := by
  obtain ⟨h1, h2, h3, h4, h5, h6⟩ := h
  refine ⟨h1, h2, h3, h4, h5, fun i hi => ?_⟩
  obtain ⟨g1, g2, g3⟩ := hk i (by omega)
  rw [g1, g2, g3]
  exact h6 i hi
theorem RR.congr {pp fp sp st : Int32} {kd th ft kd' th' ft' row row' : Nat → Int32} (h : RR pp fp sp st kd th ft row) (hk : ∀ j, j < 8 → kd' j = kd j ∧ th' j = th j ∧ ft' j = ft j) (hr : ∀ k, k < 28 → row' k = row k) : RR pp fp sp st kd' th' ft' row' := by
  obtain ⟨n, hV, r0, r1, r2, r3, hi⟩ := h
  have h8 := hV.1
  refine ⟨n, hV.congr hk, by rw [hr 0 (by omega), r0], by rw [hr 1 (by omega), r1], by rw [hr 2 (by omega), r2], by rw [hr 3 (by omega), r3], fun i hin => ?_⟩
  obtain ⟨g1, g2, g3⟩ := hk i (by omega)
  rw [g1, g2, g3, hr _ (by omega), hr _ (by omega), hr _ (by omega)]
  exact hi i hin
/-- the reference's copy of a row into a store, behind h others -/
theorem i28 (h i : Nat) : (28 : Int32) * nI h + nI i = nI (28 * h + i) := by rw [show (28 : Int32) = nI 28 from rfl, pk_mul, nI_add]
theorem notes_copy {h : Nat} (hh : h < 8) (row : Nat → Int32) : ∀ (m i n : Nat), i + m = 28 → m < n → ∀ (u : Nat → Int32), ∃ u', S_X7_notes_L48 (nI h) row n (nI i) u = some (nI (h + 1), u') ∧ (∀ k, k < 28 → u' (28 * h + k) = (if k < i then u (28 * h + k) else row k)) ∧ ∀ k, k < 28 * h → u' k = u k := by
  intro m
  induction m with
  | zero =>
    intro i n hi hn u
    obtain ⟨n, rfl⟩ : ∃ q, n = q + 1 := ⟨n - 1, by omega⟩
    obtain rfl : i = 28 := by omega
    refine ⟨u, ?_, fun k hk => by simp [hk], fun k hk => rfl⟩
    rw [S_X7_notes_L48, if_pos (by decide), nI_1]
  | succ m ih =>
    intro i n hi hn u
    obtain ⟨n, rfl⟩ : ∃ q, n = q + 1 := ⟨n - 1, by omega⟩
    obtain ⟨u', h1, h2, h3⟩ := ih (i + 1) n (by omega) (by omega) (upd u (28 * h + i) (row i))
    refine ⟨u', ?_, fun k hk => ?_, fun k hk => ?_⟩
    · rw [S_X7_notes_L48, if_neg (show ¬ (28 : Int32) ≤ nI i from nI_ge (b := 28) (by omega) (by omega)), if_neg (nin' (by omega) (by omega)), i28, if_neg (nin' (by omega) (by omega)), nI_clamp (by omega), nI_clamp (by omega), nI_1]
      exact h1
    · rw [h2 k hk]
      by_cases e : k = i
      · subst e; rw [if_pos (by omega), if_neg (by omega), pk_us]
      · rw [pk_un (by omega)]
        by_cases e2 : k < i
        · rw [if_pos (by omega), if_pos e2]
        · rw [if_neg (by omega), if_neg e2]
    · rw [h3 k hk, pk_un (by omega)]
theorem notes_shift {β : Type} (J : Int32 → (Nat → Int32) → Option (Int32 × (Nat → Int32))) : ∀ (m i n : Nat), i + m = 224 → 28 ≤ i → m < n → ∀ (u : Nat → Int32), ∃ u', S_X7_notes_L12 J n (nI i) u = J 7 u' ∧ ∀ k, k < 196 → u' k = (if k + 28 < i then u k else u (k + 28)) := by
  intro m
  induction m with
  | zero =>
    intro i n hi h28 hn u
    obtain ⟨n, rfl⟩ : ∃ q, n = q + 1 := ⟨n - 1, by omega⟩
    obtain rfl : i = 224 := by omega
    exact ⟨u, by rw [S_X7_notes_L12, if_pos (by decide)], fun k hk => by rw [if_pos (by omega)]⟩
  | succ m ih =>
    intro i n hi h28 hn u
    obtain ⟨n, rfl⟩ : ∃ q, n = q + 1 := ⟨n - 1, by omega⟩
    obtain ⟨u', h1, h2⟩ := ih (i + 1) n (by omega) (by omega) (by omega) (upd u (i - 28) (u i))
    refine ⟨u', ?_, fun k hk => ?_⟩
    · rw [S_X7_notes_L12, if_neg (show ¬ (224 : Int32) ≤ nI i from nI_ge (b := 224) (by omega) (by omega)), if_neg (nin' (by omega) (by omega)), show nI i - (28 : Int32) = nI (i - 28) from pk_sub (b := 28) h28, if_neg (nin' (by omega) (by omega)), nI_clamp (by omega), nI_clamp (by omega), nI_1]
      exact h1
    · rw [h2 k hk]
      by_cases e : k = i - 28
      · subst e; rw [if_pos (by omega), if_neg (by omega), pk_us]; congr 1; omega
      · by_cases e2 : k + 28 < i
        · rw [if_pos (by omega), if_pos e2, pk_un e]
        · rw [if_neg (by omega), if_neg e2, pk_un (by omega)]
theorem notes_lo {h : Nat} (hh : h < 8) (u row : Nat → Int32) : ∃ u', S_X7_notes (nI h) u row = some (nI (h + 1), u') ∧ (∀ k, k < 28 → u' (28 * h + k) = row k) ∧ ∀ k, k < 28 * h → u' k = u k := by
  obtain ⟨u', h1, h2, h3⟩ := notes_copy hh row 28 0 300 rfl (by omega) u
  refine ⟨u', ?_, fun k hk => by simpa using h2 k hk, h3⟩
  unfold S_X7_notes jn
  dsimp only
  rw [if_neg (show ¬ nI h = (8 : Int32) from fun q => absurd ((nI_eq (b := 8) (by omega) (by omega)).mp q) (by omega))]
  exact h1
theorem notes_hi (u row : Nat → Int32) : ∃ u', S_X7_notes (nI 8) u row = some (nI 8, u') ∧ (∀ k, k < 28 → u' (28 * 7 + k) = row k) ∧ ∀ k, k < 28 * 7 → u' k = u (k + 28) := by
  obtain ⟨u1, h1, h2⟩ := notes_shift (β := Unit) (fun (x_undos_46 : Int32) (x_undone_46 : Nat → Int32) => (S_X7_notes_L48 x_undos_46 row 300 (0 : Int32) x_undone_46)) 196 28 300 rfl (by omega) (by omega) u
  obtain ⟨u', g1, g2, g3⟩ := notes_copy (h := 7) (by omega) row 28 0 300 rfl (by omega) u1
  refine ⟨u', ?_, fun k hk => by simpa using g2 k hk, fun k hk => ?_⟩
  · unfold S_X7_notes jn
    dsimp only
    rw [if_pos (by decide)]
    exact h1.trans g1
  · rw [g3 k hk, h2 k hk, if_neg (by omega)]
theorem put8_h {h : Nat} (hh : h < 8) {pf : Nat → Option Nat} {ad : Nat → Nat} (hpf : ∀ j, j < 8 → pf j = some (ad j)) (pp fp sp st : Nat → Int32) (kd th ft : Nat → Nat → Int32) (a b c d : Int32) (yk yt yf : Nat → Int32) :
    ∃ k' t' f', S_X1_put8 (nI h) pf ad pp fp sp st kd th ft a b c d yk yt yf = some (1, nI (h + 1), va_up pp h a, va_up fp h b, va_up sp h c, va_up st h d, va_up kd h k', va_up th h t', va_up ft h f') ∧ ∀ j, j < 8 → k' j = yk j ∧ t' j = yt j ∧ f' j = yf j := by
  obtain ⟨k', t', f', h1, h2⟩ := like_h a b c d yk yt yf (kd h) (th h) (ft h)
  refine ⟨k', t', f', ?_, h2⟩
  unfold S_X1_put8
  rw [if_pos hpf, if_pos (show nI h < (8 : Int32) from nI_lt (b := 8) hh (by omega)), nI_clamp (by omega), if_neg (nin hh (by omega)), h1, nI_1]
  rfl
theorem put2_h {h : Nat} (hh : h < 2) {pf : Nat → Option Nat} {ad : Nat → Nat} (hpf : ∀ j, j < 2 → pf j = some (ad j)) (pp fp sp st : Nat → Int32) (kd th ft : Nat → Nat → Int32) (a b c d : Int32) (yk yt yf : Nat → Int32) :
    ∃ k' t' f', S_X1_put2 (nI h) pf ad pp fp sp st kd th ft a b c d yk yt yf = some (1, nI (h + 1), va_up pp h a, va_up fp h b, va_up sp h c, va_up st h d, va_up kd h k', va_up th h t', va_up ft h f') ∧ ∀ j, j < 8 → k' j = yk j ∧ t' j = yt j ∧ f' j = yf j := by
  obtain ⟨k', t', f', h1, h2⟩ := like_h a b c d yk yt yf (kd h) (th h) (ft h)
  refine ⟨k', t', f', ?_, h2⟩
  unfold S_X1_put2
  rw [if_pos hpf, if_pos (show nI h < (2 : Int32) from nI_lt (b := 2) hh (by omega)), nI_clamp (by omega), if_neg (nin hh (by omega)), h1, nI_1]
  rfl
theorem up_s {α : Type} (f : Nat → α) (k : Nat) (v : α) : va_up f k v k = v := va_up_self ..
theorem up_n {α : Type} (f : Nat → α) {k j : Nat} (v : α) (h : j ≠ k) : va_up f k v j = f j := by simp [va_up, h]
theorem rot_lt {α : Type} {N j : Nat} (f : Nat → α) (h : j + 1 < N) : rotN N f j = f (j + 1) := by simp [rotN, h]
/-- one more on the pile of what can be undone -/
theorem note_step {hgt und : Int32} {pf : Nat → Option Nat} {ad : Nat → Nat} (a1 a2 a3 : Nat → Nat) {pp fp sp st : Nat → Int32} {kd th ft : Nat → Nat → Int32} {arr : Nat → Int32} {a b c d : Int32} {yk yt yf row : Nat → Int32}
    (hP : PileR 8 hgt pf ad pp fp sp st kd th ft und arr) (hR : RR a b c d yk yt yf row) :
    ∃ hgt' pf' ad' a1' a2' a3' pp' fp' sp' st' kd' th' ft' und' arr', S_X1_putDroppingOldest8 hgt pf ad a1 a2 a3 pp fp sp st kd th ft a b c d yk yt yf = some (hgt', pf', ad', a1', a2', a3', pp', fp', sp', st', kd', th', ft') ∧ S_X7_notes und arr row = some (und', arr') ∧ PileR 8 hgt' pf' ad' pp' fp' sp' st' kd' th' ft' und' arr' := by
  obtain ⟨hpf, h, hh, rfl, rfl, hj⟩ := hP
  by_cases h8 : h = 8
  · subst h8
    obtain ⟨arr', e1, e2, e3⟩ := notes_hi arr row
    have hpf' : ∀ j, j < 8 → (va_up (va_up (va_up (va_up (va_up (va_up (va_up (va_up (pf) 0 (some (ad 1))) 1 (some (ad 2))) 2 (some (ad 3))) 3 (some (ad 4))) 4 (some (ad 5))) 5 (some (ad 6))) 6 (some (ad 7))) 7 (some (ad 0))) j = some (rotN 8 ad j) := by
      intro j hj
      rcases (show j = 0 ∨ j = 1 ∨ j = 2 ∨ j = 3 ∨ j = 4 ∨ j = 5 ∨ j = 6 ∨ j = 7 by omega) with rfl | rfl | rfl | rfl | rfl | rfl | rfl | rfl <;> rfl
    obtain ⟨k', t', f', g1, g2⟩ := put8_h (h := 7) (by omega) hpf' (rotN 8 pp) (rotN 8 fp) (rotN 8 sp) (rotN 8 st) (rotN 8 kd) (rotN 8 th) (rotN 8 ft) a b c d yk yt yf
    refine ⟨nI (7 + 1), (va_up (va_up (va_up (va_up (va_up (va_up (va_up (va_up (pf) 0 (some (ad 1))) 1 (some (ad 2))) 2 (some (ad 3))) 3 (some (ad 4))) 4 (some (ad 5))) 5 (some (ad 6))) 6 (some (ad 7))) 7 (some (ad 0))), rotN 8 ad, rotN 8 a1, rotN 8 a2, rotN 8 a3, va_up (rotN 8 pp) 7 a, va_up (rotN 8 fp) 7 b, va_up (rotN 8 sp) 7 c, va_up (rotN 8 st) 7 d, va_up (rotN 8 kd) 7 k', va_up (rotN 8 th) 7 t', va_up (rotN 8 ft) 7 f', nI 8, arr', ?_, e1, hpf', 8, by omega, rfl, rfl, fun j hj8 => ?_⟩
    · unfold S_X1_putDroppingOldest8
      rw [if_pos hpf, if_neg (by decide), show (8 : Int32) - 1 = nI 7 from by decide, g1]
      rfl
    · by_cases e : j = 7
      · subst e
        rw [up_s, up_s, up_s, up_s, up_s, up_s, up_s]
        exact hR.congr g2 (fun k hk => e2 k hk)
      · rw [up_n _ _ e, up_n _ _ e, up_n _ _ e, up_n _ _ e, up_n _ _ e, up_n _ _ e, up_n _ _ e, rot_lt _ (by omega), rot_lt _ (by omega), rot_lt _ (by omega), rot_lt _ (by omega), rot_lt _ (by omega), rot_lt _ (by omega), rot_lt _ (by omega)]
        refine (hj (j + 1) (by omega)).congr (fun _ _ => ⟨rfl, rfl, rfl⟩) (fun k hk => ?_)
        show arr' (28 * j + k) = arr (28 * (j + 1) + k)
        rw [e3 _ (by omega), show 28 * j + k + 28 = 28 * (j + 1) + k by omega]
  · obtain ⟨arr', e1, e2, e3⟩ := notes_lo (h := h) (by omega) arr row
    obtain ⟨k', t', f', g1, g2⟩ := put8_h (h := h) (by omega) hpf pp fp sp st kd th ft a b c d yk yt yf
    refine ⟨nI (h + 1), pf, ad, a1, a2, a3, va_up pp h a, va_up fp h b, va_up sp h c, va_up st h d, va_up kd h k', va_up th h t', va_up ft h f', nI (h + 1), arr', ?_, e1, hpf, h + 1, by omega, rfl, rfl, fun j hj8 => ?_⟩
    · unfold S_X1_putDroppingOldest8
      rw [if_pos hpf, if_pos (show nI h < (8 : Int32) from nI_lt (b := 8) (by omega) (by omega)), g1]
      rfl
    · by_cases e : j = h
      · subst e
        rw [up_s, up_s, up_s, up_s, up_s, up_s, up_s]
        exact hR.congr g2 (fun k hk => e2 k hk)
      · rw [up_n _ _ e, up_n _ _ e, up_n _ _ e, up_n _ _ e, up_n _ _ e, up_n _ _ e, up_n _ _ e]
        refine (hj j (by omega)).congr (fun _ _ => ⟨rfl, rfl, rfl⟩) (fun k hk => e3 _ (by omega))
theorem keep_copy {h : Nat} (hh : h < 2) (row : Nat → Int32) : ∀ (m i n : Nat), i + m = 28 → m < n → ∀ (u : Nat → Int32), ∃ u', S_X7_keep_L13 (nI h) row n (nI i) u = some (nI (h + 1), nI (h + 1), u') ∧ (∀ k, k < 28 → u' (28 * h + k) = (if k < i then u (28 * h + k) else row k)) ∧ ∀ k, k < 28 * h → u' k = u k := by
  intro m
  induction m with
  | zero =>
    intro i n hi hn u
    obtain ⟨n, rfl⟩ : ∃ q, n = q + 1 := ⟨n - 1, by omega⟩
    obtain rfl : i = 28 := by omega
    refine ⟨u, ?_, fun k hk => by simp [hk], fun k hk => rfl⟩
    rw [S_X7_keep_L13, if_pos (by decide), nI_1]
  | succ m ih =>
    intro i n hi hn u
    obtain ⟨n, rfl⟩ : ∃ q, n = q + 1 := ⟨n - 1, by omega⟩
    obtain ⟨u', h1, h2, h3⟩ := ih (i + 1) n (by omega) (by omega) (upd u (28 * h + i) (row i))
    refine ⟨u', ?_, fun k hk => ?_, fun k hk => ?_⟩
    · rw [S_X7_keep_L13, if_neg (show ¬ (28 : Int32) ≤ nI i from nI_ge (b := 28) (by omega) (by omega)), if_neg (nin' (by omega) (by omega)), i28, if_neg (nin' (by omega) (by omega)), nI_clamp (by omega), nI_clamp (by omega), nI_1]
      exact h1
    · rw [h2 k hk]
      by_cases e : k = i
      · subst e; rw [if_pos (by omega), if_neg (by omega), pk_us]
      · rw [pk_un (by omega)]
        by_cases e2 : k < i
        · rw [if_pos (by omega), if_pos e2]
        · rw [if_neg (by omega), if_neg e2]
    · rw [h3 k hk, pk_un (by omega)]
theorem undo_copy {h : Nat} (hh : h < 8) (u : Nat → Int32) : ∀ (m i n : Nat), i + m = 28 → m < n → ∀ (row : Nat → Int32), ∃ row', S_X7_undo_L22 (nI h) u n (nI i) row = some (nI h, nI h, 0, row') ∧ (∀ k, k < 28 → row' k = (if k < i then row k else u (28 * h + k))) := by
  intro m
  induction m with
  | zero =>
    intro i n hi hn row
    obtain ⟨n, rfl⟩ : ∃ q, n = q + 1 := ⟨n - 1, by omega⟩
    obtain rfl : i = 28 := by omega
    refine ⟨row, ?_, fun k hk => by simp [hk]⟩
    rw [S_X7_undo_L22, if_pos (by decide)]
  | succ m ih =>
    intro i n hi hn row
    obtain ⟨n, rfl⟩ : ∃ q, n = q + 1 := ⟨n - 1, by omega⟩
    obtain ⟨row', h1, h2⟩ := ih (i + 1) n (by omega) (by omega) (upd row i (u (28 * h + i)))
    refine ⟨row', ?_, fun k hk => ?_⟩
    · rw [S_X7_undo_L22, if_neg (show ¬ (28 : Int32) ≤ nI i from nI_ge (b := 28) (by omega) (by omega)), i28, if_neg (nin' (by omega) (by omega)), if_neg (nin' (by omega) (by omega)), nI_clamp (by omega), nI_clamp (by omega), nI_1]
      exact h1
    · rw [h2 k hk]
      by_cases e : k = i
      · subst e; rw [if_pos (by omega), if_neg (by omega), pk_us]
      · rw [pk_un e]
        by_cases e2 : k < i
        · rw [if_pos (by omega), if_pos e2]
        · rw [if_neg (by omega), if_neg e2]
theorem back_copy {h : Nat} (hh : h < 2) (u : Nat → Int32) : ∀ (m i n : Nat), i + m = 28 → m < n → ∀ (row : Nat → Int32), ∃ row', S_X7_back_L22 (nI h) u n (nI i) row = some (nI h, 0, 0, nI h, row') ∧ (∀ k, k < 28 → row' k = (if k < i then row k else u (28 * h + k))) := by
  intro m
  induction m with
  | zero =>
    intro i n hi hn row
    obtain ⟨n, rfl⟩ : ∃ q, n = q + 1 := ⟨n - 1, by omega⟩
    obtain rfl : i = 28 := by omega
    refine ⟨row, ?_, fun k hk => by simp [hk]⟩
    rw [S_X7_back_L22, if_pos (by decide)]
  | succ m ih =>
    intro i n hi hn row
    obtain ⟨n, rfl⟩ : ∃ q, n = q + 1 := ⟨n - 1, by omega⟩
    obtain ⟨row', h1, h2⟩ := ih (i + 1) n (by omega) (by omega) (upd row i (u (28 * h + i)))
    refine ⟨row', ?_, fun k hk => ?_⟩
    · rw [S_X7_back_L22, if_neg (show ¬ (28 : Int32) ≤ nI i from nI_ge (b := 28) (by omega) (by omega)), i28, if_neg (nin' (by omega) (by omega)), if_neg (nin' (by omega) (by omega)), nI_clamp (by omega), nI_clamp (by omega), nI_1]
      exact h1
    · rw [h2 k hk]
      by_cases e : k = i
      · subst e; rw [if_pos (by omega), if_neg (by omega), pk_us]
      · rw [pk_un e]
        by_cases e2 : k < i
        · rw [if_pos (by omega), if_pos e2]
        · rw [if_neg (by omega), if_neg e2]
theorem take8_h {h : Nat} (hh : h < 8) {pf : Nat → Option Nat} {ad : Nat → Nat} (hpf : ∀ j, j < 8 → pf j = some (ad j)) (pp fp sp st : Nat → Int32) (kd th ft : Nat → Nat → Int32) (a b c d : Int32) (yk yt yf : Nat → Int32) :
    ∃ k' t' f', S_X1_takeInto8 (nI (h + 1)) pf ad pp fp sp st kd th ft a b c d yk yt yf = some (1, nI h, pp h, fp h, sp h, st h, k', t', f') ∧ ∀ j, j < 8 → k' j = kd h j ∧ t' j = th h j ∧ f' j = ft h j := by
  obtain ⟨k', t', f', h1, h2⟩ := like_h (pp h) (fp h) (sp h) (st h) (kd h) (th h) (ft h) yk yt yf
  refine ⟨k', t', f', ?_, h2⟩
  unfold S_X1_takeInto8
  rw [if_pos hpf, if_pos (show (0 : Int32) < nI (h + 1) from nI_lt (a := 0) (by omega) (by omega)), nI_pred, nI_clamp (by omega), if_neg (nin hh (by omega)), h1]
  rfl
theorem take2_h {h : Nat} (hh : h < 2) {pf : Nat → Option Nat} {ad : Nat → Nat} (hpf : ∀ j, j < 2 → pf j = some (ad j)) (pp fp sp st : Nat → Int32) (kd th ft : Nat → Nat → Int32) (a b c d : Int32) (yk yt yf : Nat → Int32) :
    ∃ k' t' f', S_X1_takeInto2 (nI (h + 1)) pf ad pp fp sp st kd th ft a b c d yk yt yf = some (1, nI h, pp h, fp h, sp h, st h, k', t', f') ∧ ∀ j, j < 8 → k' j = kd h j ∧ t' j = th h j ∧ f' j = ft h j := by
  obtain ⟨k', t', f', h1, h2⟩ := like_h (pp h) (fp h) (sp h) (st h) (kd h) (th h) (ft h) yk yt yf
  refine ⟨k', t', f', ?_, h2⟩
  unfold S_X1_takeInto2
  rw [if_pos hpf, if_pos (show (0 : Int32) < nI (h + 1) from nI_lt (a := 0) (by omega) (by omega)), nI_pred, nI_clamp (by omega), if_neg (nin hh (by omega)), h1]
  rfl
theorem tape0 {who wh mwho mwh : Nat → Int32} : TapeR 0 who wh 0 mwho mwh := ⟨0, by omega, rfl, rfl, fun j h => absurd h (by omega)⟩
theorem lit_of {x a b : Int32} {A B : Nat} (ha : a = nI A) (hb : b = nI B) (hA : A < 2 ^ 31) (hB : B < 2 ^ 31) (h : a ≤ x ∧ x ≤ b) : ∃ c, A ≤ c ∧ c ≤ B ∧ x = nI c := by
  subst ha; subst hb
  obtain ⟨c, hc, rfl⟩ := nI_of2 (M := nI B) (n := B) (nI_toInt hB) (fun q => absurd (Int32.lt_of_le_of_lt h.1 q) (nI_pos hA)) h.2
  exact ⟨c, (nI_leI hA (by omega)).mp h.1, hc, rfl⟩
