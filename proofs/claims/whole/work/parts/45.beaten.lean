/-! beaten -/
theorem b86_map (i3 i4 i5 : Int32) (od : Nat → Int32) : ∀ (f : Nat) (i6 i7 : Int32), S_X7_beaten_L86 i3 i4 i5 od f i6 i7 = Option.map (fun q => (q.1, od)) (S_X7_beaten_L86 i3 i4 i5 (fun _ => 0) f i6 i7) := by
  intro f
  induction f with
  | zero => intro i6 i7; rfl
  | succ f ih =>
    intro i6 i7
    rw [S_X7_beaten_L86, S_X7_beaten_L86]
    by_cases c : i7 = 0
    · rw [if_pos c, if_pos c]
      by_cases d : i3 = 0
      · rw [if_pos d, if_pos d]
        by_cases e : i6 = 0
        · rw [if_pos e, if_pos e]; rfl
        · rw [if_neg e, if_neg e]; rfl
      · rw [if_neg d, if_neg d]
        by_cases e : i6 = 0
        · rw [if_pos e, if_pos e]; rfl
        · rw [if_neg e, if_neg e]; rfl
    · rw [if_neg c, if_neg c, if_neg c, if_neg c]; exact ih _ _
def bgd (x : Nat) : Int32 := (S_X6_greatestDivisorWithTen ((10 : Int32) - nI x)).getD 0
def bva (x t w : Nat) : Int32 := (S_X6_power ((if w = 0 then (10 : Int32) - nI x else 10) / bgd x) (nI t)).getD 0
theorem bgd_h : ∀ x, x < 11 → S_X6_greatestDivisorWithTen ((10 : Int32) - nI x) = some (bgd x) ∧ ¬ bgd x = 0 := by decide +kernel
theorem bva_h : ∀ x, x < 11 → ∀ t, t < 8 → ∀ w, w < 2 → S_X6_power ((if w = 0 then (10 : Int32) - nI x else 10) / bgd x) (nI t) = some (bva x t w) ∧ Option.map (fun q => q.1) (S_X7_beaten_L86 (nI w) (nI ((10 - x) ^ t)) (nI (10 ^ t)) (fun _ => 0) 300 (nI ((10 - x) ^ t)) (nI (10 ^ t))) = some (bva x t w) := by decide +kernel
theorem b86_h {x t w : Nat} (hx : x < 11) (ht : t < 8) (hw : w < 2) (od : Nat → Int32) : S_X7_beaten_L86 (nI w) (nI ((10 - x) ^ t)) (nI (10 ^ t)) od 300 (nI ((10 - x) ^ t)) (nI (10 ^ t)) = some (bva x t w, od) := by
  have h := (bva_h x hx t ht w hw).2
  rw [b86_map]
  generalize S_X7_beaten_L86 (nI w) (nI ((10 - x) ^ t)) (nI (10 ^ t)) (fun _ => 0) 300 (nI ((10 - x) ^ t)) (nI (10 ^ t)) = z at h
  cases z with
  | none => exact absurd h (by simp)
  | some q =>
    simp only [Option.map_some, Option.some.injEq] at h ⊢
    rw [h]
theorem to_loop {n j : Nat} {W : Nat → Nat} {od : Nat → Int32} (hn : n ≤ 8) (hO : OrdM W n 0 (Oc W n)) (ho : ∀ p, p < n → od p = nI (Oc W n p)) (hj : j < n) :
    ∀ (m p f : Nat), p + m = rk W n 0 j → m < f → S_X0_turnOf_L2 (nI j) (nI n) od f (nI p) = some (nI (rk W n 0 j)) := by
  have hrk := rk_b (W := W) (n := n) (m := 0) (Nat.zero_le j) hj
  have hs := hO.sur (Nat.zero_le j) hj
  intro m
  induction m with
  | zero =>
    intro p f hp hf
    obtain ⟨f, rfl⟩ : ∃ z, f = z + 1 := ⟨f - 1, by omega⟩
    obtain rfl : p = rk W n 0 j := by omega
    rw [S_X0_turnOf_L2, if_neg (nI_ge (by omega) (by omega)), if_neg (nin' (by omega) (by omega)), nI_clamp (by omega), ho _ (by omega), hs, if_pos rfl]
  | succ m ih =>
    intro p f hp hf
    obtain ⟨f, rfl⟩ : ∃ z, f = z + 1 := ⟨f - 1, by omega⟩
    obtain ⟨-, o2, o3⟩ := hO p (by omega)
    have ne : ¬ nI (Oc W n p) = nI j := fun q => by
      have e := (n_eq (by omega) (by omega)).mp q
      rw [e] at o3; omega
    rw [S_X0_turnOf_L2, if_neg (nI_ge (by omega) (by omega)), if_neg (nin' (by omega) (by omega)), nI_clamp (by omega), ho _ (by omega), if_neg ne, nI_1]
    exact ih (p + 1) f (by omega) (by omega)
theorem b45_loop {n j x : Nat} {W : Nat → Nat} {od : Nat → Int32} (hn : n ≤ 8) (hO : OrdM W n 0 (Oc W n)) (ho : ∀ p, p < n → od p = nI (Oc W n p)) (hj : j < n) (hx : x ≤ 10) (i3 : Int32) :
    ∀ (m p g : Nat), p + m = rk W n 0 j → m < g → S_X7_beaten_L45 (nI j) (nI x) i3 od g (nI ((10 - x) ^ p)) (nI (10 ^ p)) (nI p) = S_X7_beaten_L86 i3 (nI ((10 - x) ^ rk W n 0 j)) (nI (10 ^ rk W n 0 j)) od 300 (nI ((10 - x) ^ rk W n 0 j)) (nI (10 ^ rk W n 0 j)) := by
  have hrk := rk_b (W := W) (n := n) (m := 0) (Nat.zero_le j) hj
  have hs := hO.sur (Nat.zero_le j) hj
  intro m
  induction m with
  | zero =>
    intro p f hp hf
    obtain ⟨f, rfl⟩ : ∃ z, f = z + 1 := ⟨f - 1, by omega⟩
    obtain rfl : p = rk W n 0 j := by omega
    rw [S_X7_beaten_L45, if_neg (nin' (by omega) (by omega)), nI_clamp (by omega), ho _ (by omega), hs, if_pos rfl]
  | succ m ih =>
    intro p f hp hf
    obtain ⟨f, rfl⟩ : ∃ z, f = z + 1 := ⟨f - 1, by omega⟩
    obtain ⟨-, o2, o3⟩ := hO p (by omega)
    have ne : ¬ nI (Oc W n p) = nI j := fun q => by
      have e := (n_eq (by omega) (by omega)).mp q
      rw [e] at o3; omega
    have e10 : (10 : Int32) - nI x = nI (10 - x) := by rw [show (10 : Int32) = nI 10 from rfl, pk_sub (by omega)]
    rw [S_X7_beaten_L45, if_neg (nin' (by omega) (by omega)), nI_clamp (by omega), ho _ (by omega), if_neg ne, nI_1, e10, pk_mul, show (10 : Int32) = nI 10 from rfl, pk_mul, ← Nat.pow_succ, ← Nat.pow_succ]
    exact ih (p + 1) f (by omega) (by omega)
/-! kinds -/
theorem ag_0 (rc : Int32 → Int32 → Int32 → (Nat → Int32) → (Nat → Int32) → (Nat → Int32) → Option (Int32 × Int32 × (Nat → Int32) × (Nat → Int32) × (Nat → Int32))) (i3 i4 aw : Int32) (row od dn mwho mwh : Nat → Int32) {q : Nat} (hq : q ≤ 8) :
    ∀ (m k g : Nat), k + m = q → m < g → S_X7_kinds_L49 rc i3 i4 aw row od dn (nI q) mwho mwh g 0 (nI k) = rc (i3 ||| 0) (i4 + 1) aw row od dn := by
  intro m
  induction m with
  | zero =>
    intro k g hk hg
    obtain ⟨g, rfl⟩ : ∃ z, g = z + 1 := ⟨g - 1, by omega⟩
    obtain rfl : k = q := by omega
    rw [S_X7_kinds_L49, if_pos (nI_rf k), if_pos rfl]
  | succ m ih =>
    intro k g hk hg
    obtain ⟨g, rfl⟩ : ∃ z, g = z + 1 := ⟨g - 1, by omega⟩
    rw [S_X7_kinds_L49, if_neg (nI_ge (by omega) (by omega)), if_pos rfl, nI_1]
    exact ih (k + 1) g (by omega) (by omega)
theorem ag_1 (rc : Int32 → Int32 → Int32 → (Nat → Int32) → (Nat → Int32) → (Nat → Int32) → Option (Int32 × Int32 × (Nat → Int32) × (Nat → Int32) × (Nat → Int32))) (i3 i4 aw : Int32) (row od dn : Nat → Int32) {who wh mwho mwh : Nat → Int32} {q : Nat} (hq : q ≤ 8) (hw : ∀ j, j < q → who j = mwho j ∧ wh j = mwh j) :
    ∀ (m k f g : Nat), k + m = q → m < f → m < g → ∃ b : Bool, S_X4_agreesWith_L2 aw (nI q) who wh f (nI k) = some (if b then 1 else 0) ∧ S_X7_kinds_L49 rc i3 i4 aw row od dn (nI q) mwho mwh g 1 (nI k) = if b then rc (i3 ||| ((1 : Int32) <<< (i4 &&& 31))) (i4 + 1) aw row od dn else rc (i3 ||| 0) (i4 + 1) aw row od dn := by
  intro m
  induction m with
  | zero =>
    intro k f g hk hf hg
    obtain ⟨f, rfl⟩ : ∃ z, f = z + 1 := ⟨f - 1, by omega⟩
    obtain ⟨g, rfl⟩ : ∃ z, g = z + 1 := ⟨g - 1, by omega⟩
    obtain rfl : k = q := by omega
    rw [S_X7_kinds_L49, S_X4_agreesWith_L2, if_pos (nI_rf k), if_pos (nI_rf k), if_neg one_ne]
    exact ⟨true, rfl, rfl⟩
  | succ m ih =>
    intro k f g hk hf hg
    obtain ⟨f, rfl⟩ : ∃ z, f = z + 1 := ⟨f - 1, by omega⟩
    obtain ⟨g, rfl⟩ : ∃ z, g = z + 1 := ⟨g - 1, by omega⟩
    have hi := nin' (n := k) (N := 8) (by omega) (by omega)
    obtain ⟨w1, w2⟩ := hw k (by omega)
    rw [S_X7_kinds_L49, S_X4_agreesWith_L2, if_neg (nI_ge (by omega) (by omega)), if_neg (nI_ge (by omega) (by omega)), if_neg one_ne, if_neg hi, if_neg hi, if_neg hi, if_neg hi, nI_clamp (by omega), w1, w2, nI_1]
    by_cases c : ((aw >>> ((mwho k) &&& 31)) &&& (1 : Int32)) = mwh k
    · rw [if_pos c, if_pos c]
      exact ih (k + 1) f g (by omega) (by omega) (by omega)
    · rw [if_neg c, if_neg c]
      exact ⟨false, rfl, ag_0 rc i3 i4 aw row od dn mwho mwh hq m (k + 1) g (by omega) (by omega)⟩
theorem kn_loop {n V U D j q : Nat} {K T F : Nat → Nat} {th ft row0 who wh mwho mwh : Nat → Int32} (h : NR n V U D K T F) (hs : ∀ i, i < n → th i = nI (T i) ∧ ft i = nI (F i)) (hr : RoN n V U D K T F row0) (hj : j < n) (hq : q ≤ 8) (hw : ∀ j, j < q → who j = mwho j ∧ wh j = mwh j) :
    ∀ (m k f g : Nat), k + m = 4 → m < f → m < g → ∀ (s : Int32) (kd row : Nat → Int32), (∀ i, i < n → i ≠ j → kd i = nI (K i)) → (∀ i, i ≠ 4 + 3 * j → row i = row0 i) → ∀ (cp ca aw : Int32) (ck cw cf cs co cr od dn : Nat → Int32),
    ∃ r kd' cp' ca' ck' cw' cf' cs' co' cr' aw' row' od' dn', S_X6_kinds_L28 (nI j) (nI n) (nI V) (nI U) (nI D) th ft (nI q) who wh f s (nI k) kd cp ca ck cw cf cs co cr = some (r, nI n, nI V, nI U, nI D, kd', th, ft, cp', ca', ck', cw', cf', cs', co', cr') ∧
      S_X7_kinds_L21 (nI j) (row0 (4 + 3 * j)) (nI q) mwho mwh g s (nI k) aw row od dn = some (r, aw', row', od', dn') ∧ ∀ i, row' i = row0 i := by
  have h8 := h.1
  intro m
  induction m with
  | zero =>
    intro k f g hk hf hg s kd row hkd hrow cp ca aw ck cw cf cs co cr od dn
    obtain ⟨f, rfl⟩ : ∃ z, f = z + 1 := ⟨f - 1, by omega⟩
    obtain ⟨g, rfl⟩ : ∃ z, g = z + 1 := ⟨g - 1, by omega⟩
    obtain rfl : k = 4 := by omega
    rw [S_X6_kinds_L28, S_X7_kinds_L21, if_pos (show (4 : Int32) ≤ nI 4 by decide), if_pos (show (4 : Int32) ≤ nI 4 by decide), i4 j, if_neg (nin' (by omega) (by omega)), nI_clamp (by omega)]
    refine ⟨_, _, _, _, _, _, _, _, _, _, _, _, _, _, rfl, rfl, fun i => ?_⟩
    by_cases e : i = 4 + 3 * j
    · subst e; rw [pk_us]
    · rw [pk_un e]; exact hrow i e
  | succ m ih =>
    intro k f g hk hf hg s kd row hkd hrow cp ca aw ck cw cf cs co cr od dn
    obtain ⟨f, rfl⟩ : ∃ z, f = z + 1 := ⟨f - 1, by omega⟩
    obtain ⟨g, rfl⟩ : ∃ z, g = z + 1 := ⟨g - 1, by omega⟩
    have hN : NR n V U D (fun i => if i = j then k else K i) T F := by
      refine ⟨h.1, h.2.1, h.2.2.1, h.2.2.2.1, h.2.2.2.2.1, h.2.2.2.2.2.1, fun i hi => ⟨?_, (h.2.2.2.2.2.2 i hi).2⟩⟩
      show (if i = j then k else K i) ≤ 3
      split
      · omega
      · exact (h.2.2.2.2.2.2 i hi).1
    have hS : ShN n V U D (fun i => if i = j then k else K i) T F (nI n) (nI V) (nI U) (nI D) (upd kd j (nI k)) th ft := by
      refine ⟨rfl, rfl, rfl, rfl, fun i hi => ⟨?_, hs i hi⟩⟩
      show upd kd j (nI k) i = nI (if i = j then k else K i)
      by_cases e : i = j
      · subst e; rw [pk_us, if_pos rfl]
      · rw [pk_un e, if_neg e]; exact hkd i hi e
    have hO : RoN n V U D (fun i => if i = j then k else K i) T F (upd row (4 + 3 * j) (nI k)) := by
      refine ⟨?_, ?_, ?_, ?_, fun i hi => ⟨?_, ?_, ?_⟩⟩
      · rw [pk_un (by omega), hrow 0 (by omega)]; exact hr.1
      · rw [pk_un (by omega), hrow 1 (by omega)]; exact hr.2.1
      · rw [pk_un (by omega), hrow 2 (by omega)]; exact hr.2.2.1
      · rw [pk_un (by omega), hrow 3 (by omega)]; exact hr.2.2.2.1
      · show upd row (4 + 3 * j) (nI k) (4 + 3 * i) = nI (if i = j then k else K i)
        by_cases e : i = j
        · subst e; rw [pk_us, if_pos rfl]
        · rw [pk_un (by omega), if_neg e, hrow _ (by omega)]; exact (hr.2.2.2.2 i hi).1
      · rw [pk_un (by omega), hrow _ (by omega)]; exact (hr.2.2.2.2 i hi).2.1
      · rw [pk_un (by omega), hrow _ (by omega)]; exact (hr.2.2.2.2 i hi).2.2
    obtain ⟨kd', wk', fs', sc', od', g1, g2⟩ := la_h hN hS ck cw cf cs co
    obtain ⟨a, R, x1, od7, y1, d1, d2, d3, d4, d5, d6, d7⟩ := dec_h hN g2 hO cr dn od
    have nle : ¬ (4 : Int32) ≤ nI k := (nI_ge (by omega) (by omega) : ¬ nI 4 ≤ nI k)
    rw [S_X6_kinds_L28, S_X7_kinds_L21, if_neg nle, if_neg nle, i4 j, if_neg (nin' (by omega) (by omega)), if_neg (nin' (by omega) (by omega)), nI_clamp (by omega), nI_clamp (by omega), g1, d3, Option.bind_some, Option.bind_some]
    dsimp only
    rw [d2, Option.bind_some]
    dsimp only
    obtain ⟨b, b1, b2⟩ := ag_1 (S_X7_kinds_L21 (nI j) (row0 (4 + 3 * j)) (nI q) mwho mwh g) s (nI k) (nI a) (upd row (4 + 3 * j) (nI k)) od7 y1 hq hw q 0 300 300 (by omega) (by omega) (by omega)
    rw [nI_0] at b1 b2
    unfold S_X4_agreesWith
    rw [b1, b2, Option.bind_some, nI_1, Int32.or_zero]
    have hkd' : ∀ i, i < n → i ≠ j → upd kd j (nI k) i = nI (K i) := fun i hi e => by rw [pk_un e]; exact hkd i hi e
    have hrow' : ∀ i, i ≠ 4 + 3 * j → upd row (4 + 3 * j) (nI k) i = row0 i := fun i e => by rw [pk_un e]; exact hrow i e
    cases b with
    | true =>
      simp only [↓reduceIte, one_ne]
      exact ih (k + 1) f g (by omega) (by omega) (by omega) _ _ _ hkd' hrow' _ _ _ _ _ _ _ _ _ _ _
    | false =>
      simp only [Bool.false_eq_true, ↓reduceIte]
      exact ih (k + 1) f g (by omega) (by omega) (by omega) _ _ _ hkd' hrow' _ _ _ _ _ _ _ _ _ _ _
