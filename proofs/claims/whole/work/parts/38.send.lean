/-! who is served where and when -/
def sumS (a : Nat) (T : Nat → Nat) : Nat → Nat
  | 0 => 0
  | k + 1 => sumS a T k + (if a.testBit k then 0 else T k)
/-- at the first till, of those who stay -/
def RI (V : Nat) (T : Nat → Nat) (a i : Nat) : Nat := V * (sumS a T i + T i)
theorem sumS_b {a : Nat} {T : Nat → Nat} {B : Nat} : ∀ k, (∀ i, i < k → T i ≤ B) → sumS a T k ≤ B * k := by
  intro k
  induction k with
  | zero => intro _; simp [sumS]
  | succ k ih =>
    intro h
    have h1 := ih (fun i hi => h i (by omega))
    have h2 := h k (by omega)
    simp only [sumS]
    rw [Nat.mul_succ]
    split <;> omega
theorem RI_b {n V U D : Nat} {K T F : Nat → Nat} (h : NR n V U D K T F) (a : Nat) {i : Nat} (hi : i < n) : RI V T a i ≤ 1440 := by
  obtain ⟨h8, v1, v2, -, -, -, hp⟩ := h
  have h1 := sumS_b (a := a) (B := 20) i (fun j hj => (hp j (by omega)).2.2.1)
  have h2 := (hp i hi).2.2.1
  have : V * (sumS a T i + T i) ≤ 9 * 160 := Nat.mul_le_mul v2 (by omega)
  exact this
theorem rin_loop {n V : Nat} {T : Nat → Nat} {fs : Nat → Int32} {a i : Nat} (hn : n ≤ 8) (ha : a < 256) (hi : i < n) (hf : ∀ j, j < n → fs j = nI (V * T j)) :
    ∀ (m k f : Nat), k + m = i → m < f → S_X0_readyInRow_L9 (nI i) (nI a) fs f (nI (V * (sumS a T k + T i))) (nI k) = some (nI (RI V T a i)) := by
  intro m
  induction m with
  | zero =>
    intro k f hk hf'
    obtain ⟨f, rfl⟩ : ∃ z, f = z + 1 := ⟨f - 1, by omega⟩
    obtain rfl : k = i := by omega
    rw [S_X0_readyInRow_L9, if_pos (nI_rf k)]; rfl
  | succ m ih =>
    intro k f hk hf'
    obtain ⟨f, rfl⟩ : ∃ z, f = z + 1 := ⟨f - 1, by omega⟩
    have h1 := ih (k + 1) f (by omega) (by omega)
    simp only [sumS] at h1
    rw [S_X0_readyInRow_L9, if_neg (nI_ge (by omega) (by omega)), isAw ha (by omega), Option.bind_some]
    by_cases c : a.testBit k = true
    · rw [if_pos c, if_neg one_ne, nI_1]
      rw [if_pos c, Nat.add_zero] at h1
      exact h1
    · rw [if_neg c, if_pos rfl, if_neg (nin' (by omega) (by omega)), nI_clamp (by omega), hf k (by omega), nI_add, nI_1]
      rw [if_neg c] at h1
      rw [show V * (sumS a T k + T i) + V * T k = V * (sumS a T k + T k + T i) by rw [← Nat.mul_add]; congr 1; omega]
      exact h1
theorem rin_h {n V : Nat} {T : Nat → Nat} {fs : Nat → Int32} {a i : Nat} (hn : n ≤ 8) (ha : a < 256) (hi : i < n) (hf : ∀ j, j < n → fs j = nI (V * T j)) : S_X0_readyInRow (nI i) (nI a) fs = some (nI (RI V T a i)) := by
  unfold S_X0_readyInRow
  rw [if_neg (nin' (by omega) (by omega)), nI_clamp (by omega), hf i hi]
  have := rin_loop hn ha hi hf i 0 300 (by omega) (by omega)
  simp only [sumS, Nat.zero_add] at this
  exact this
theorem in7_loop {n V : Nat} {T : Nat → Nat} {row : Nat → Int32} {a i : Nat} (hn : n ≤ 8) (ha : a < 256) (hi : i < n) (h1 : row 1 = nI V) (hf : ∀ j, j < n → row (5 + 3 * j) = nI (T j)) :
    ∀ (m k f : Nat), k + m = i → m < f → S_X7_inRow_L9 (nI i) (nI a) row f (nI (sumS a T k + T i)) (nI k) = some (nI (RI V T a i)) := by
  intro m
  induction m with
  | zero =>
    intro k f hk hf'
    obtain ⟨f, rfl⟩ : ∃ z, f = z + 1 := ⟨f - 1, by omega⟩
    obtain rfl : k = i := by omega
    rw [S_X7_inRow_L9, if_pos (nI_rf k), h1, pk_mul]; rfl
  | succ m ih =>
    intro k f hk hf'
    obtain ⟨f, rfl⟩ : ∃ z, f = z + 1 := ⟨f - 1, by omega⟩
    have g1 := ih (k + 1) f (by omega) (by omega)
    simp only [sumS] at g1
    rw [S_X7_inRow_L9, if_neg (nI_ge (by omega) (by omega))]
    by_cases c : a.testBit k = true
    · rw [if_neg (fun q => ((bit0 ha (by omega)).mp q) c), nI_1, show ∀ z : Int32, z + 0 = z from Int32.add_zero]
      rw [if_pos c, Nat.add_zero] at g1
      exact g1
    · rw [if_pos ((bit0 ha (by omega)).mpr c), things7 row (by omega), Option.bind_some, hf k (by omega), nI_add, nI_1]
      rw [if_neg c] at g1
      rw [show sumS a T k + T i + T k = sumS a T k + T k + T i by omega]
      exact g1
theorem in7_h {n V : Nat} {T : Nat → Nat} {row : Nat → Int32} {a i : Nat} (hn : n ≤ 8) (ha : a < 256) (hi : i < n) (h1 : row 1 = nI V) (hf : ∀ j, j < n → row (5 + 3 * j) = nI (T j)) : S_X7_inRow (nI i) (nI a) row = some (nI (RI V T a i)) := by
  unfold S_X7_inRow
  rw [things7 row (by omega), Option.bind_some, hf i hi]
  have := in7_loop hn ha hi h1 hf i 0 300 (by omega) (by omega)
  simp only [sumS, Nat.zero_add] at this
  exact this
/-- there, if the till is free from f on -/
def TH (n U D : Nat) (T F : Nat → Nat) (f i : Nat) : Nat := max f (Wk n D F i) + U * T i
theorem mx_n {x y : Nat} (hx : x < 2 ^ 31) (hy : y < 2 ^ 31) : (if nI x < nI y then nI y else nI x) = nI (max x y) := by
  by_cases c : x < y
  · rw [if_pos (nI_lt c hy), Nat.max_eq_right (by omega)]
  · rw [if_neg (nI_nlt (by omega) hx), Nat.max_eq_left (by omega)]
theorem th7 {n V U D : Nat} {K T F : Nat → Nat} {row : Nat → Int32} (h : NR n V U D K T F) (hr : RoN n V U D K T F row) {i f : Nat} (hi : i < n) (hf : f < 2 ^ 31) : S_X7_there (nI i) (nI f) row = some (nI (TH n U D T F f i)) := by
  have h8 := h.1
  have hb := Wk_b h i hi
  unfold S_X7_there jn
  rw [wk7 h hr hi, Option.bind_some]
  dsimp only
  rw [things7 row (by omega), Option.bind_some, Option.bind_some, (hr.2.2.2.2 i hi).2.1, hr.2.2.1, pk_mul]
  by_cases c : Wk n D F i ≤ f
  · rw [if_pos (nI_le c hf), nI_add, TH, Nat.max_eq_left c]
  · rw [if_neg (nI_ge (by omega) (by omega)), Option.bind_some, pk_mul, nI_add, TH, Nat.max_eq_right (by omega)]
theorem th_c {n V U D : Nat} {K T F : Nat → Nat} {kd wk fs sc od : Nat → Int32} (h : NR n V U D K T F) (hc : CrN n V U D K T F kd wk fs sc od) {i f : Nat} (hi : i < n) (hf : f < 2 ^ 31) : (if nI f < wk i then wk i else nI f) + sc i = nI (TH n U D T F f i) := by
  have hb := Wk_b h i hi
  obtain ⟨-, c2, -, c4⟩ := hc.1 i hi
  rw [c2, c4, mx_n hf (by omega), nI_add]; rfl
/-- how long the second till is busy, with those of the first p in the order who are in the set -/
def SFr (n U D : Nat) (T F : Nat → Nat) (a : Nat) : Nat → Nat
  | 0 => 0
  | p + 1 => if a.testBit (Oc (Wk n D F) n p) then TH n U D T F (SFr n U D T F a p) (Oc (Wk n D F) n p) else SFr n U D T F a p
/-- when i is done, if those of a are sent -/
def RD (n V U D : Nat) (T F : Nat → Nat) (a i : Nat) : Nat := if a.testBit i then SFr n U D T F a (rk (Wk n D F) n 0 i + 1) else RI V T a i
theorem SFr_b {n V U D : Nat} {K T F : Nat → Nat} (h : NR n V U D K T F) (a : Nat) : ∀ p, p ≤ n → SFr n U D T F a p ≤ 252 + 180 * p := by
  intro p
  induction p with
  | zero => intro _; simp [SFr]
  | succ p ih =>
    intro hp
    have h1 := ih (by omega)
    have hb : ∀ i, i < n → Wk n D F i < 2 ^ 31 := fun i hi => by have := Wk_b h i hi; omega
    obtain ⟨-, o2, -⟩ := Oc_ok h.1 hb p (by omega)
    have hw := Wk_b h _ o2
    obtain ⟨-, -, -, u1, u2, -, hq⟩ := h
    have ht := (hq _ o2).2.2.1
    have : U * T (Oc (Wk n D F) n p) ≤ 9 * 20 := Nat.mul_le_mul u2 ht
    simp only [SFr, TH]
    split <;> omega
theorem RD_b {n V U D : Nat} {K T F : Nat → Nat} (h : NR n V U D K T F) (a : Nat) {i : Nat} (hi : i < n) : RD n V U D T F a i ≤ 2000 := by
  have h8 := h.1
  unfold RD
  have h1 := RI_b h a hi
  have h2 := rk_b (W := Wk n D F) (m := 0) (Nat.zero_le i) hi
  have h3 := SFr_b h a (rk (Wk n D F) n 0 i + 1) (by omega)
  split <;> omega
/-- the class's row at the first till -/
theorem sr_loop {n V : Nat} {T : Nat → Nat} {fs : Nat → Int32} {a : Nat} (hn : n ≤ 8) (ha : a < 256) (hf : ∀ j, j < n → fs j = nI (V * T j)) :
    ∀ (m k f : Nat), k + m = n → m < f → ∀ (x : Nat → Int32), ∃ x', S_X0_serveRow_L4 (nI n) (nI a) fs f (nI (V * sumS a T k)) (nI k) x = some x' ∧ ∀ i, i < n → x' i = (if i < k ∨ a.testBit i = true then x i else nI (RI V T a i)) := by
  intro m
  induction m with
  | zero =>
    intro k f hk hf' x
    obtain ⟨f, rfl⟩ : ∃ z, f = z + 1 := ⟨f - 1, by omega⟩
    obtain rfl : k = n := by omega
    exact ⟨x, by rw [S_X0_serveRow_L4, if_pos (nI_rf k)], fun i hi => by rw [if_pos (Or.inl hi)]⟩
  | succ m ih =>
    intro k f hk hf' x
    obtain ⟨f, rfl⟩ : ∃ z, f = z + 1 := ⟨f - 1, by omega⟩
    rw [S_X0_serveRow_L4, if_neg (nI_ge (by omega) (by omega)), isAw ha (by omega), Option.bind_some]
    by_cases c : a.testBit k = true
    · obtain ⟨x', g1, g2⟩ := ih (k + 1) f (by omega) (by omega) x
      simp only [sumS] at g1
      rw [if_pos c, Nat.add_zero] at g1
      refine ⟨x', by rw [if_pos c, if_neg one_ne, nI_1]; exact g1, fun i hi => ?_⟩
      rw [g2 i hi]
      by_cases e : i = k
      · subst e; rw [if_pos (Or.inr c), if_pos (Or.inr c)]
      · by_cases e2 : i < k ∨ a.testBit i = true
        · rw [if_pos e2, if_pos (by rcases e2 with q | q; exact Or.inl (by omega); exact Or.inr q)]
        · rw [if_neg e2, if_neg (fun q => e2 (by rcases q with q | q; exact Or.inl (by omega); exact Or.inr q))]
    · obtain ⟨x', g1, g2⟩ := ih (k + 1) f (by omega) (by omega) (upd x k (nI (RI V T a k)))
      simp only [sumS] at g1
      rw [if_neg c] at g1
      refine ⟨x', ?_, fun i hi => ?_⟩
      · rw [if_neg c, if_pos rfl, if_neg (nin' (by omega) (by omega)), if_neg (nin' (by omega) (by omega)), nI_clamp (by omega), hf k (by omega), nI_add, ← Nat.mul_add, nI_1]
        exact g1
      · rw [g2 i hi]
        by_cases e : i = k
        · subst e; rw [if_pos (Or.inl (by omega)), if_neg (fun q => by rcases q with q | q; omega; exact c q), pk_us]
        · rw [pk_un e]
          by_cases e2 : i < k ∨ a.testBit i = true
          · rw [if_pos e2, if_pos (by rcases e2 with q | q; exact Or.inl (by omega); exact Or.inr q)]
          · rw [if_neg e2, if_neg (fun q => e2 (by rcases q with q | q; exact Or.inl (by omega); exact Or.inr q))]
theorem sr_h {n V : Nat} {T : Nat → Nat} {fs : Nat → Int32} {a : Nat} (hn : n ≤ 8) (ha : a < 256) (hf : ∀ j, j < n → fs j = nI (V * T j)) (x : Nat → Int32) : ∃ x', S_X0_serveRow (nI n) (nI a) fs x = some x' ∧ ∀ i, i < n → x' i = (if a.testBit i = true then x i else nI (RI V T a i)) := by
  obtain ⟨x', g1, g2⟩ := sr_loop hn ha hf n 0 300 (by omega) (by omega) x
  simp only [sumS, Nat.mul_zero] at g1
  exact ⟨x', g1, fun i hi => by simpa using g2 i hi⟩
theorem rs_loop {n V : Nat} {T : Nat → Nat} {row : Nat → Int32} {a : Nat} (hn : n ≤ 8) (ha : a < 256) (h0 : row 0 = nI n) (h1 : row 1 = nI V) (hf : ∀ j, j < n → row (5 + 3 * j) = nI (T j)) :
    ∀ (m k f : Nat), k + m = n → m < f → ∀ (x : Nat → Int32), ∃ x', S_X7_rests_L2 (nI a) row f (nI k) x = some x' ∧ ∀ i, i < n → x' i = (if i < k ∨ a.testBit i = true then x i else nI (RI V T a i)) := by
  intro m
  induction m with
  | zero =>
    intro k f hk hf' x
    obtain ⟨f, rfl⟩ : ∃ z, f = z + 1 := ⟨f - 1, by omega⟩
    obtain rfl : k = n := by omega
    exact ⟨x, by rw [S_X7_rests_L2, h0, if_pos (nI_rf k)], fun i hi => by rw [if_pos (Or.inl hi)]⟩
  | succ m ih =>
    intro k f hk hf' x
    obtain ⟨f, rfl⟩ : ∃ z, f = z + 1 := ⟨f - 1, by omega⟩
    have hk0 := nin' (n := k) (N := 8) (by omega) (by omega)
    by_cases c : a.testBit k = true
    · obtain ⟨x', g1, g2⟩ := ih (k + 1) f (by omega) (by omega) (upd x k (x k))
      refine ⟨x', ?_, fun i hi => ?_⟩
      · rw [S_X7_rests_L2, h0, if_neg (nI_ge (by omega) (by omega))]; unfold jn; dsimp only
        rw [if_pos ((bit1 ha (by omega)).mpr c), if_neg hk0, if_neg hk0, nI_clamp (by omega), nI_1]
        exact g1
      · rw [g2 i hi]
        by_cases e : i = k
        · subst e; rw [if_pos (Or.inr c), if_pos (Or.inr c), pk_us]
        · rw [pk_un e]
          by_cases e2 : i < k ∨ a.testBit i = true
          · rw [if_pos e2, if_pos (by rcases e2 with q | q; exact Or.inl (by omega); exact Or.inr q)]
          · rw [if_neg e2, if_neg (fun q => e2 (by rcases q with q | q; exact Or.inl (by omega); exact Or.inr q))]
    · obtain ⟨x', g1, g2⟩ := ih (k + 1) f (by omega) (by omega) (upd x k (nI (RI V T a k)))
      refine ⟨x', ?_, fun i hi => ?_⟩
      · rw [S_X7_rests_L2, h0, if_neg (nI_ge (by omega) (by omega))]; unfold jn; dsimp only
        rw [if_neg (fun q => c ((bit1 ha (by omega)).mp q)), in7_h hn ha (by omega) h1 hf, Option.bind_some, if_neg hk0, nI_clamp (by omega), nI_1]
        exact g1
      · rw [g2 i hi]
        by_cases e : i = k
        · subst e; rw [if_pos (Or.inl (by omega)), if_neg (fun q => by rcases q with q | q; omega; exact c q), pk_us]
        · rw [pk_un e]
          by_cases e2 : i < k ∨ a.testBit i = true
          · rw [if_pos e2, if_pos (by rcases e2 with q | q; exact Or.inl (by omega); exact Or.inr q)]
          · rw [if_neg e2, if_neg (fun q => e2 (by rcases q with q | q; exact Or.inl (by omega); exact Or.inr q))]
theorem rs_h {n V : Nat} {T : Nat → Nat} {row : Nat → Int32} {a : Nat} (hn : n ≤ 8) (ha : a < 256) (h0 : row 0 = nI n) (h1 : row 1 = nI V) (hf : ∀ j, j < n → row (5 + 3 * j) = nI (T j)) (x : Nat → Int32) : ∃ x', S_X7_rests (nI a) row x = some x' ∧ ∀ i, i < n → x' i = (if a.testBit i = true then x i else nI (RI V T a i)) := by
  obtain ⟨x', g1, g2⟩ := rs_loop hn ha h0 h1 hf n 0 300 (by omega) (by omega) x
  exact ⟨x', g1, fun i hi => by simpa using g2 i hi⟩
/-- those of a set are sent: the class -/
theorem se_loop {n V U D : Nat} {K T F : Nat → Nat} {kd wk fs sc od : Nat → Int32} (h : NR n V U D K T F) (hc : CrN n V U D K T F kd wk fs sc od) {a : Nat} (ha : a < 256) :
    ∀ (m p f : Nat), p + m = n → m < f → ∀ (x : Nat → Int32), (∀ q, q < p → a.testBit (Oc (Wk n D F) n q) = true → x (Oc (Wk n D F) n q) = nI (SFr n U D T F a (q + 1))) →
    ∃ x', S_X0_send_L9 (nI a) (nI n) od wk sc fs f (nI (SFr n U D T F a p)) (nI p) x = some (nI a, x') ∧ ∀ i, i < n → x' i = nI (RD n V U D T F a i) := by
  have h8 := h.1
  have hb : ∀ i, i < n → Wk n D F i < 2 ^ 31 := fun i hi => by have := Wk_b h i hi; omega
  have hO := Oc_ok h8 hb
  intro m
  induction m with
  | zero =>
    intro p f hp hf x hx
    obtain ⟨f, rfl⟩ : ∃ z, f = z + 1 := ⟨f - 1, by omega⟩
    obtain rfl : p = n := by omega
    obtain ⟨x', g1, g2⟩ := sr_h h8 ha (fun j hj => (hc.1 j hj).2.2.1) x
    refine ⟨x', by rw [S_X0_send_L9, if_pos (nI_rf p), g1]; rfl, fun i hi => ?_⟩
    rw [g2 i hi, RD]
    by_cases c : a.testBit i = true
    · rw [if_pos c, if_pos c]
      have hr := rk_b (W := Wk p D F) (m := 0) (Nat.zero_le i) hi
      have hs := hO.sur (Nat.zero_le i) hi
      have := hx _ (by omega) (by rw [hs]; exact c)
      rw [hs] at this
      exact this
    · rw [if_neg c, if_neg c]
  | succ m ih =>
    intro p f hp hf x hx
    obtain ⟨f, rfl⟩ : ∃ z, f = z + 1 := ⟨f - 1, by omega⟩
    obtain ⟨-, o2, o3⟩ := hO p (by omega)
    have hsb := SFr_b h a p (by omega)
    have hod := hc.2 p (by omega)
    rw [S_X0_send_L9, if_neg (nI_ge (by omega) (by omega)), if_neg (nin' (by omega) (by omega)), nI_clamp (by omega), hod, isAw ha (by omega), Option.bind_some]
    by_cases c : a.testBit (Oc (Wk n D F) n p) = true
    · have hi := nin' (n := Oc (Wk n D F) n p) (N := 8) (by omega) (by omega)
      rw [if_pos c, if_neg one_ne, if_neg hi, if_neg hi]
      unfold nm; dsimp only
      rw [if_neg hi, nI_clamp (by omega), th_c h hc o2 (by omega), nI_1]
      obtain ⟨x', g1, g2⟩ := ih (p + 1) f (by omega) (by omega) (upd x (Oc (Wk n D F) n p) (nI (TH n U D T F (SFr n U D T F a p) (Oc (Wk n D F) n p)))) (fun q hq hqb => by
        by_cases e : q = p
        · subst e; rw [pk_us]; simp only [SFr]; rw [if_pos c]
        · rw [pk_un (fun z => e (by have o4 := (hO q (by omega)).2.2; rw [z, o3] at o4; exact o4.symm))]; exact hx q (by omega) hqb)
      simp only [SFr] at g1
      rw [if_pos c] at g1
      exact ⟨x', g1, g2⟩
    · rw [if_neg c, if_pos rfl, nI_1]
      obtain ⟨x', g1, g2⟩ := ih (p + 1) f (by omega) (by omega) x (fun q hq hqb => by
        by_cases e : q = p
        · subst e; exact absurd hqb c
        · exact hx q (by omega) hqb)
      simp only [SFr] at g1
      rw [if_neg c] at g1
      exact ⟨x', g1, g2⟩
theorem se_h {n V U D : Nat} {K T F : Nat → Nat} {kd wk fs sc od : Nat → Int32} (h : NR n V U D K T F) (hc : CrN n V U D K T F kd wk fs sc od) {a : Nat} (ha : a < 256) (x : Nat → Int32) : ∃ x', S_X0_send (nI a) (nI n) od wk sc x fs = some (nI a, x') ∧ ∀ i, i < n → x' i = nI (RD n V U D T F a i) := by
  obtain ⟨x', g1, g2⟩ := se_loop h hc ha n 0 300 (by omega) (by have := h.1; omega) x (fun q hq => absurd hq (by omega))
  simp only [SFr, nI_0] at g1
  exact ⟨x', by unfold S_X0_send; exact g1, g2⟩
/-- .. and the reference -/
theorem s7_loop {n V U D : Nat} {K T F : Nat → Nat} {row od : Nat → Int32} (h : NR n V U D K T F) (hr : RoN n V U D K T F row) (ho : ∀ p, p < n → od p = nI (Oc (Wk n D F) n p)) {a : Nat} (ha : a < 256) :
    ∀ (m p f : Nat), p + m = n → m < f → ∀ (x : Nat → Int32), (∀ q, q < p → a.testBit (Oc (Wk n D F) n q) = true → x (Oc (Wk n D F) n q) = nI (SFr n U D T F a (q + 1))) →
    ∃ x', S_X7_sends_L13 (nI a) (nI a) od row f (nI (SFr n U D T F a p)) (nI p) x = some (nI a, od, x') ∧ ∀ i, i < n → x' i = nI (RD n V U D T F a i) := by
  have h8 := h.1
  have hb : ∀ i, i < n → Wk n D F i < 2 ^ 31 := fun i hi => by have := Wk_b h i hi; omega
  have hO := Oc_ok h8 hb
  intro m
  induction m with
  | zero =>
    intro p f hp hf x hx
    obtain ⟨f, rfl⟩ : ∃ z, f = z + 1 := ⟨f - 1, by omega⟩
    obtain rfl : p = n := by omega
    obtain ⟨x', g1, g2⟩ := rs_h h8 ha hr.1 hr.2.1 (fun j hj => (hr.2.2.2.2 j hj).2.1) x
    refine ⟨x', by rw [S_X7_sends_L13, hr.1, if_pos (nI_rf p), g1]; rfl, fun i hi => ?_⟩
    rw [g2 i hi, RD]
    by_cases c : a.testBit i = true
    · rw [if_pos c, if_pos c]
      have hr' := rk_b (W := Wk p D F) (m := 0) (Nat.zero_le i) hi
      have hs := hO.sur (Nat.zero_le i) hi
      have := hx _ (by omega) (by rw [hs]; exact c)
      rw [hs] at this
      exact this
    · rw [if_neg c, if_neg c]
  | succ m ih =>
    intro p f hp hf x hx
    obtain ⟨f, rfl⟩ : ∃ z, f = z + 1 := ⟨f - 1, by omega⟩
    obtain ⟨-, o2, o3⟩ := hO p (by omega)
    have hsb := SFr_b h a p (by omega)
    have hod := ho p (by omega)
    rw [S_X7_sends_L13, hr.1, if_neg (nI_ge (by omega) (by omega)), if_neg (nin' (by omega) (by omega)), nI_clamp (by omega), hod]
    by_cases c : a.testBit (Oc (Wk n D F) n p) = true
    · have hi := nin' (n := Oc (Wk n D F) n p) (N := 8) (by omega) (by omega)
      rw [if_pos ((bit1 ha (by omega)).mpr c), th7 h hr o2 (by omega), Option.bind_some, if_neg hi, nI_clamp (by omega), nI_1]
      obtain ⟨x', g1, g2⟩ := ih (p + 1) f (by omega) (by omega) (upd x (Oc (Wk n D F) n p) (nI (TH n U D T F (SFr n U D T F a p) (Oc (Wk n D F) n p)))) (fun q hq hqb => by
        by_cases e : q = p
        · subst e; rw [pk_us]; simp only [SFr]; rw [if_pos c]
        · rw [pk_un (fun z => e (by have o4 := (hO q (by omega)).2.2; rw [z, o3] at o4; exact o4.symm))]; exact hx q (by omega) hqb)
      simp only [SFr] at g1
      rw [if_pos c] at g1
      exact ⟨x', g1, g2⟩
    · rw [if_neg (fun q => c ((bit1 ha (by omega)).mp q)), nI_1]
      obtain ⟨x', g1, g2⟩ := ih (p + 1) f (by omega) (by omega) x (fun q hq hqb => by
        by_cases e : q = p
        · subst e; exact absurd hqb c
        · exact hx q (by omega) hqb)
      simp only [SFr] at g1
      rw [if_neg c] at g1
      exact ⟨x', g1, g2⟩
theorem s7_h {n V U D : Nat} {K T F : Nat → Nat} {row : Nat → Int32} (h : NR n V U D K T F) (hr : RoN n V U D K T F row) {a : Nat} (ha : a < 256) (od x : Nat → Int32) : ∃ od' x', S_X7_sends (nI a) row od x = some (nI a, od', x') ∧ ∀ i, i < n → x' i = nI (RD n V U D T F a i) := by
  obtain ⟨od', e1, e2⟩ := or7 h hr od
  obtain ⟨x', g1, g2⟩ := s7_loop h hr e2 ha n 0 300 (by omega) (by have := h.1; omega) x (fun q hq => absurd hq (by omega))
  simp only [SFr, nI_0] at g1
  refine ⟨od', x', ?_, g2⟩
  unfold S_X7_sends
  rw [e1, Option.bind_some]
  exact g1
