/-! they decide themselves -/
def Qa (n a : Nat) (x y : Nat → Int32) : Prop := ∀ i, i < n → a.testBit i = true → ∃ z, z ≤ 2000 ∧ x i = nI z ∧ y i = nI z
theorem andm : ∀ a, a < 256 → nI a &&& (-1 : Int32) = nI a := by decide +kernel
theorem k_eq : ∀ k, k < 4 → ∀ j, j < 4 → ((nI k = nI j) ↔ k = j) := by decide +kernel
theorem tb_loop {n V U D : Nat} {K T F : Nat → Nat} {kd wk fs sc od row od7 x y : Nat → Int32} (h : NR n V U D K T F) (hc : CrN n V U D K T F kd wk fs sc od) (hr : RoN n V U D K T F row) :
    ∀ (m k f g : Nat), k + m = n → m < f → m < g → ∀ (a : Nat), a < 256 → Qa n a x y → ∃ a', a' < 256 ∧ Qa n a' x y ∧ S_X0_letTakePlacesBack_L2 (nI n) kd fs x f (nI k) (nI a) = some (nI a') ∧
      S_X7_opens_L152 od7 y row g (nI k) (nI a) = Option.bind (S_X7_rests (nI a') row y) (fun d => some (nI a', od7, d)) := by
  have h8 := h.1
  intro m
  induction m with
  | zero =>
    intro k f g hk hf hg a ha hq
    obtain ⟨f, rfl⟩ : ∃ z, f = z + 1 := ⟨f - 1, by omega⟩
    obtain ⟨g, rfl⟩ : ∃ z, g = z + 1 := ⟨g - 1, by omega⟩
    obtain rfl : k = n := by omega
    refine ⟨a, ha, hq, ?_, ?_⟩
    · rw [S_X0_letTakePlacesBack_L2, if_pos (nI_rf k)]
    · rw [S_X7_opens_L152, hr.1, if_pos (nI_rf k)]
  | succ m ih =>
    intro k f g hk hf hg a ha hq
    obtain ⟨f, rfl⟩ : ∃ z, f = z + 1 := ⟨f - 1, by omega⟩
    obtain ⟨g, rfl⟩ : ∃ z, g = z + 1 := ⟨g - 1, by omega⟩
    have hi2 := nin (n := k) (N := 8) (by omega) (by omega)
    have hK := (h.2.2.2.2.2.2 k (by omega)).1
    have eR := rin_h (n := n) (V := V) (T := T) (fs := fs) h8 ha (show k < n by omega) (fun j hj => (hc.1 j hj).2.2.1)
    have eI := in7_h (n := n) (V := V) (T := T) (row := row) h8 ha (show k < n by omega) hr.2.1 (fun j hj => (hr.2.2.2.2 j hj).2.1)
    have eK := kind7 row (show k < 8 by omega)
    rw [(hr.2.2.2.2 k (by omega)).1] at eK
    have cK := (hc.1 k (by omega)).1
    have hb := RI_b h a (show k < n by omega)
    have hk3 := k_eq (K k) (by omega) 3 (by omega)
    rw [show nI 3 = (3 : Int32) from rfl] at hk3
    rw [S_X0_letTakePlacesBack_L2, S_X7_opens_L152, hr.1, if_neg (nI_ge (by omega) (by omega)), if_neg (nI_ge (by omega) (by omega))]
    unfold jn
    dsimp only
    simp only [nI_clamp (show k < 2 ^ 31 by omega), hi2, ↓reduceIte, cK, isAw ha (show k < 8 by omega), Option.bind_some, eK, eR, eI, nI_1, andm a ha, (and_b a ha k (by omega)).1, bit_h a ha k (by omega)]
    have stay := ih (k + 1) f g (by omega) (by omega) (by omega) a ha hq
    by_cases b : a.testBit k = true
    · simp only [b, ↓reduceIte, one_ne]
      by_cases c : K k = 3
      · simp only [hk3.mpr c, ↓reduceIte]
        obtain ⟨z, z1, z2, z3⟩ := hq k (by omega) b
        rw [z2, z3]
        by_cases d : z ≤ RI V T a k
        · rw [if_pos (nI_le d (by omega)), if_pos (nI_le d (by omega))]
          exact stay
        · rw [if_neg (nI_ge (by omega) (by omega)), if_neg (nI_ge (by omega) (by omega))]
          exact ih (k + 1) f g (by omega) (by omega) (by omega) _ (and_b a ha k (by omega)).2 (fun i hi ht => hq i hi (by rw [Nat.testBit_and, Bool.and_eq_true] at ht; exact ht.1))
      · simp only [show ¬ nI (K k) = 3 from fun q => c (hk3.mp q), ↓reduceIte]
        exact stay
    · simp only [show a.testBit k = false by simpa using b, Bool.false_eq_true, ↓reduceIte, show ¬ (0 : Int32) = 1 by decide]
      by_cases c : nI (K k) = 3
      · rw [if_pos c]; exact stay
      · rw [if_neg c]; exact stay
theorem tb_h {n V U D : Nat} {K T F : Nat → Nat} {kd wk fs sc od row od7 x y : Nat → Int32} (h : NR n V U D K T F) (hc : CrN n V U D K T F kd wk fs sc od) (hr : RoN n V U D K T F row) {a : Nat} (ha : a < 256) (hq : Qa n a x y) :
    ∃ a' x' y', a' < 256 ∧ Option.bind (S_X0_letTakePlacesBack (nI n) (nI a) kd fs x) (fun aw => Option.bind (S_X0_serveRow (nI n) aw fs x) (fun r => some (aw, r))) = some (nI a', x') ∧ S_X7_opens_L152 od7 y row 300 0 (nI a) = some (nI a', od7, y') ∧ ∀ i, i < n → ∃ z, z ≤ 2000 ∧ x' i = nI z ∧ y' i = nI z := by
  have h8 := h.1
  obtain ⟨a', h1, h2, h3, h4⟩ := tb_loop (od7 := od7) h hc hr n 0 300 300 (by omega) (by omega) (by omega) a ha hq
  obtain ⟨x', s1, s2⟩ := sr_h (n := n) (V := V) (T := T) (fs := fs) h8 h1 (fun j hj => (hc.1 j hj).2.2.1) x
  obtain ⟨y', r1, r2⟩ := rs_h (n := n) (V := V) (T := T) (row := row) h8 h1 hr.1 hr.2.1 (fun j hj => (hr.2.2.2.2 j hj).2.1) y
  rw [nI_0] at h3 h4
  refine ⟨a', x', y', h1, ?_, ?_, fun i hi => ?_⟩
  · unfold S_X0_letTakePlacesBack
    rw [h3, Option.bind_some, s1, Option.bind_some]
  · rw [h4, r1, Option.bind_some]
  · rw [s2 i hi, r2 i hi]
    by_cases b : a'.testBit i = true
    · rw [if_pos b, if_pos b]; exact h2 i hi b
    · rw [if_neg b, if_neg b]; exact ⟨_, Nat.le_trans (RI_b h a' hi) (by omega), rfl, rfl⟩
theorem wg_h {n V U D : Nat} {K T F : Nat → Nat} {kd wk fs sc od : Nat → Int32} (h : NR n V U D K T F) (hc : CrN n V U D K T F kd wk fs sc od) {a o t : Nat} (ha : a < 256) (ho : o < n) :
    S_X0_wouldGo (nI o) (nI t) (nI a) kd fs = some (if (K o = 1 ∧ ¬ stay a o ≤ nI (pcn a)) ∨ (2 ≤ K o ∧ ¬ nI (RI V T a o) ≤ nI t) then 1 else 0) := by
  have h8 := h.1
  have eR := rin_h (n := n) (V := V) (T := T) (fs := fs) h8 ha ho (fun j hj => (hc.1 j hj).2.2.1)
  have hi2 := nin (n := o) (N := 8) (by omega) (by omega)
  have hK := (h.2.2.2.2.2.2 o ho).1
  unfold S_X0_wouldGo
  simp only [nI_clamp (show o < 2 ^ 31 by omega), hi2, ↓reduceIte, (hc.1 o ho).1, eR, (stay_h a ha o (by omega)).1, (pc_h a ha).1, Option.bind_some]
  have q : K o = 0 ∨ K o = 1 ∨ K o = 2 ∨ K o = 3 := by omega
  rcases q with e | e | e | e
  · rw [e, if_neg (show ¬ nI 0 = 1 by decide), if_neg (show ¬ nI 0 = 2 by decide), if_neg (show ¬ nI 0 = 3 by decide), if_neg (by omega)]
  · rw [e, if_pos (show nI 1 = 1 by decide)]
    by_cases c : stay a o ≤ nI (pcn a)
    · rw [if_pos c, if_neg (by simp [c])]
    · rw [if_neg c, if_pos (by simp [c])]
  · rw [e, if_neg (show ¬ nI 2 = 1 by decide), if_pos (show nI 2 = 2 by decide)]
    by_cases c : nI (RI V T a o) ≤ nI t
    · rw [if_pos c, if_neg (by simp [c])]
    · rw [if_neg c, if_pos (by simp [c])]
  · rw [e, if_neg (show ¬ nI 3 = 1 by decide), if_neg (show ¬ nI 3 = 2 by decide), if_pos (show nI 3 = 3 by decide)]
    by_cases c : nI (RI V T a o) ≤ nI t
    · rw [if_pos c, if_neg (by simp [c])]
    · rw [if_neg c, if_pos (by simp [c])]
theorem dc_loop {n V U D : Nat} {K T F : Nat → Nat} {kd wk fs sc od row od7 : Nat → Int32} (h : NR n V U D K T F) (hc : CrN n V U D K T F kd wk fs sc od) (hr : RoN n V U D K T F row) (ho7 : ∀ p, p < n → od7 p = nI (Oc (Wk n D F) n p)) :
    ∀ (m p f g : Nat), p + m = n → m < f → m < g → ∀ (fr a : Nat) (x y : Nat → Int32), fr ≤ 252 + 180 * p → a < 256 → Qa n a x y → ∃ a' x' y', a' < 256 ∧ S_X0_letDecide_L9 (nI n) od wk sc kd fs f (nI fr) (nI p) (nI a) x = some (nI a', x') ∧
      S_X7_opens_L13 od7 row g (nI fr) (nI p) (nI a) y = some (nI a', od7, y') ∧ ∀ i, i < n → ∃ z, z ≤ 2000 ∧ x' i = nI z ∧ y' i = nI z := by
  have h8 := h.1
  have hbw : ∀ i, i < n → Wk n D F i < 2 ^ 31 := fun i hi => by have := Wk_b h i hi; omega
  have hO := Oc_ok h8 hbw
  intro m
  induction m with
  | zero =>
    intro p f g hk hf hg fr a x y hfr ha hq
    obtain ⟨f, rfl⟩ : ∃ z, f = z + 1 := ⟨f - 1, by omega⟩
    obtain ⟨g, rfl⟩ : ∃ z, g = z + 1 := ⟨g - 1, by omega⟩
    obtain rfl : p = n := by omega
    obtain ⟨a', x', y', q1, q2, q3, q4⟩ := tb_h (od7 := od7) h hc hr ha hq
    refine ⟨a', x', y', q1, ?_, ?_, q4⟩
    · rw [S_X0_letDecide_L9, if_pos (nI_rf p)]; exact q2
    · rw [S_X7_opens_L13, hr.1, if_pos (nI_rf p)]; exact q3
  | succ m ih =>
    intro p f g hk hf hg fr a x y hfr ha hq
    obtain ⟨f, rfl⟩ : ∃ z, f = z + 1 := ⟨f - 1, by omega⟩
    obtain ⟨g, rfl⟩ : ∃ z, g = z + 1 := ⟨g - 1, by omega⟩
    obtain ⟨-, o2, o3⟩ := hO p (by omega)
    have co := hc.2 p (by omega)
    have co7 := ho7 p (by omega)
    generalize Oc (Wk n D F) n p = o at o2 o3 co co7
    have hip := nin (n := p) (N := 8) (by omega) (by omega)
    have hio := nin (n := o) (N := 8) (by omega) (by omega)
    have hK := (h.2.2.2.2.2.2 o o2).1
    have eT := th_c h hc (f := fr) o2 (by omega)
    have eT7 := th7 h hr (f := fr) o2 (by omega)
    have eI := in7_h (n := n) (V := V) (T := T) (row := row) h8 ha o2 hr.2.1 (fun j hj => (hr.2.2.2.2 j hj).2.1)
    have eK := kind7 row (show o < 8 by omega)
    rw [(hr.2.2.2.2 o o2).1] at eK
    have eW := wg_h (t := TH n U D T F fr o) h hc ha o2
    have hbT : TH n U D T F fr o ≤ 252 + 180 * (p + 1) := by
      have w := Wk_b h o o2
      obtain ⟨-, t1, t2, -, -⟩ := h.2.2.2.2.2.2 o o2
      have hu : U * T o ≤ 180 := Nat.le_trans (Nat.mul_le_mul h.2.2.2.2.1 t2) (by omega)
      unfold TH
      have : max fr (Wk n D F o) ≤ 252 + 180 * p := Nat.max_le.mpr ⟨hfr, by omega⟩
      omega
    rw [S_X0_letDecide_L9, S_X7_opens_L13, hr.1, if_neg (nI_ge (by omega) (by omega)), if_neg (nI_ge (by omega) (by omega))]
    unfold jn nm
    dsimp only
    simp only [nI_clamp (show p < 2 ^ 31 by omega), hip, ↓reduceIte, co, co7, nI_clamp (show o < 2 ^ 31 by omega), hio, eT, eT7, eW, eI, eK, Option.bind_some, (stay_h a ha o (by omega)).2, (pc_h a ha).2.1, nI_1, (or_b a ha o (by omega)).1]
    have st := ih (p + 1) f g (by omega) (by omega) (by omega) fr a x y (by omega) ha hq
    have go := ih (p + 1) f g (by omega) (by omega) (by omega) (TH n U D T F fr o) (a ||| 2 ^ o) (upd x o (nI (TH n U D T F fr o))) (upd y o (nI (TH n U D T F fr o))) hbT (or_b a ha o (by omega)).2 (fun i hi ht => by
      by_cases e : i = o
      · subst e; exact ⟨TH n U D T F fr i, by omega, by rw [pk_us], by rw [pk_us]⟩
      · rw [pk_un e, pk_un e]
        rw [Nat.testBit_or, Nat.testBit_two_pow_of_ne (by omega), Bool.or_false] at ht
        exact hq i hi ht)
    have z1 : ¬ (0 : Int32) = 1 := by decide
    have q : K o = 0 ∨ K o = 1 ∨ K o = 2 ∨ K o = 3 := by omega
    rcases q with e | e | e | e
    · have f1 : ¬ ((K o = 1 ∧ ¬ stay a o ≤ nI (pcn a)) ∨ (2 ≤ K o ∧ ¬ nI (RI V T a o) ≤ nI (TH n U D T F fr o))) := by omega
      simp only [f1, ↓reduceIte]
      rw [e]
      simp only [show ¬ nI 0 = 1 by decide, show nI 0 ≤ 1 by decide, ↓reduceIte, ite_self]
      exact st
    · rw [e]
      simp only [show nI 1 = 1 by decide, ↓reduceIte, show ¬ 2 ≤ 1 by decide, false_and, or_false, true_and]
      by_cases c : stay a o ≤ nI (pcn a)
      · simp only [c, not_true, ↓reduceIte, ite_self]; exact st
      · simp only [c, not_false_eq_true, one_ne, ↓reduceIte, ite_self]; exact go
    · rw [e]
      simp only [show ¬ nI 2 = 1 by decide, show ¬ nI 2 ≤ 1 by decide, ↓reduceIte, show ¬ 2 = 1 by decide, false_and, false_or, Nat.le_refl, true_and]
      by_cases c : nI (RI V T a o) ≤ nI (TH n U D T F fr o)
      · simp only [c, not_true, ↓reduceIte, ite_self]; exact st
      · simp only [c, not_false_eq_true, one_ne, ↓reduceIte, ite_self]; exact go
    · rw [e]
      simp only [show ¬ nI 3 = 1 by decide, show ¬ nI 3 ≤ 1 by decide, ↓reduceIte, show ¬ 3 = 1 by decide, show 2 ≤ 3 by decide, false_and, false_or, true_and]
      by_cases c : nI (RI V T a o) ≤ nI (TH n U D T F fr o)
      · simp only [c, not_true, ↓reduceIte, ite_self]; exact st
      · simp only [c, not_false_eq_true, one_ne, ↓reduceIte, ite_self]; exact go
theorem dec_h {n V U D : Nat} {K T F : Nat → Nat} {kd wk fs sc od row : Nat → Int32} (h : NR n V U D K T F) (hc : CrN n V U D K T F kd wk fs sc od) (hr : RoN n V U D K T F row) (x y od7 : Nat → Int32) :
    ∃ (a : Nat) (R : Nat → Nat) (x' od' y' : Nat → Int32), a < 256 ∧ S_X0_letDecide (nI n) od wk sc kd fs x = some (nI a, x') ∧ S_X7_opens row od7 y = some (nI a, od', y') ∧ (∀ p, p < n → od' p = nI (Oc (Wk n D F) n p)) ∧ (∀ i, i < n → R i ≤ 100000) ∧ (∀ i, i < n → x' i = nI (R i)) ∧ ∀ i, i < n → y' i = nI (R i) := by
  have h8 := h.1
  obtain ⟨od', e1, e2⟩ := or7 h hr od7
  obtain ⟨a', x', y', q1, q2, q3, q4⟩ := dc_loop h hc hr e2 n 0 300 300 (by omega) (by omega) (by omega) 0 0 x y (by omega) (by omega) (fun i _ ht => by rw [Nat.zero_testBit] at ht; exact absurd ht (by decide))
  rw [nI_0] at q2 q3
  refine ⟨a', fun i => (x' i).toNatClampNeg, x', od', y', q1, ?_, ?_, e2, fun i hi => ?_, fun i hi => ?_, fun i hi => ?_⟩
  · unfold S_X0_letDecide; exact q2
  · unfold S_X7_opens; rw [e1, Option.bind_some]; exact q3
  · obtain ⟨z, z1, z2, z3⟩ := q4 i hi
    show (x' i).toNatClampNeg ≤ 100000
    rw [z2, nI_clamp (by omega)]; omega
  · obtain ⟨z, z1, z2, z3⟩ := q4 i hi
    show x' i = nI (x' i).toNatClampNeg
    rw [z2, nI_clamp (by omega)]
  · obtain ⟨z, z1, z2, z3⟩ := q4 i hi
    show y' i = nI (x' i).toNatClampNeg
    rw [z2, z3, nI_clamp (by omega)]
