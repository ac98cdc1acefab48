/-! the search -/
def OW (A n V U D : Nat) (T F : Nat → Nat) (a : Nat) : Nat := if A = 0 then latN (RD n V U D T F a) n else sumN (RD n V U D T F a) n
def BS (A n V U D : Nat) (T F : Nat → Nat) : Nat → Nat × Nat
  | 0 => (0, OW A n V U D T F 0)
  | k + 1 => if OW A n V U D T F (k + 1) < (BS A n V U D T F k).2 ∧ (A = 2 → ovN (RD n V U D T F (k + 1)) n n = 0) then (k + 1, OW A n V U D T F (k + 1)) else BS A n V U D T F k
theorem OW_b {n V U D : Nat} {K T F : Nat → Nat} (h : NR n V U D K T F) (A a : Nat) : OW A n V U D T F a ≤ 16000 := by
  have h8 := h.1
  have h1 := sumN_b (R := RD n V U D T F a) (B := 2000) n (fun i hi => RD_b h a hi)
  have h2 := latN_b (R := RD n V U D T F a) (B := 2000) n (fun i hi => RD_b h a hi)
  unfold OW
  split <;> omega
theorem BS_b {n V U D : Nat} {K T F : Nat → Nat} (h : NR n V U D K T F) (A : Nat) : ∀ k, (BS A n V U D T F k).2 ≤ 16000 ∧ (BS A n V U D T F k).1 ≤ k := by
  intro k
  induction k with
  | zero => exact ⟨OW_b h A 0, Nat.le_refl _⟩
  | succ k ih =>
    have h1 := OW_b h A (k + 1)
    simp only [BS]
    split
    · exact ⟨h1, Nat.le_refl _⟩
    · exact ⟨ih.1, by omega⟩
theorem sh_h : ∀ n, n < 9 → (1 : Int32) <<< (nI n &&& 31) = nI (2 ^ n) := by decide +kernel
theorem p2_b {n : Nat} (h : n ≤ 8) : 2 ^ n ≤ 256 := Nat.le_trans (Nat.pow_le_pow_right (by omega) h) (by decide)
theorem aim0 {A : Nat} (hA : A ≤ 2) : (nI A = 0) ↔ A = 0 := by
  match A, hA with
  | 0, _ => decide
  | 1, _ => decide
  | 2, _ => decide
theorem aim2 {A : Nat} (hA : A ≤ 2) : (nI A = (2 : Int32)) ↔ A = 2 := by
  match A, hA with
  | 0, _ => decide
  | 1, _ => decide
  | 2, _ => decide
theorem wo3 {n V U D : Nat} {K T F : Nat → Nat} (h : NR n V U D K T F) {A a : Nat} (hA : A ≤ 2) {x : Nat → Int32} (hx : ∀ i, i < n → x i = nI (RD n V U D T F a i)) : S_X2_worth (nI A) (nI n) x = some (nI (OW A n V U D T F a)) := by
  have hb : ∀ i, i < n → RD n V U D T F a i ≤ 100000 := fun i hi => by have := RD_b h a hi; omega
  unfold S_X2_worth OW
  by_cases c : A = 0
  · rw [if_pos ((aim0 hA).mpr c), if_pos c, lat3 h.1 hb hx, Option.bind_some]
  · rw [if_neg (fun q => c ((aim0 hA).mp q)), if_neg c, sum3 h.1 hx, Option.bind_some]
theorem fl_loop {n V U D : Nat} {K T F : Nat → Nat} {kd wk fs sc od : Nat → Int32} (h : NR n V U D K T F) (hc : CrN n V U D K T F kd wk fs sc od) {A : Nat} (hA : A ≤ 2) :
    ∀ (m k f : Nat), k + m + 1 = 2 ^ n → m < f → ∀ (aw : Int32) (x : Nat → Int32), ∃ aw' x', S_X2_findLeast_L40 (nI A) (nI (2 ^ n)) (nI n) kd wk fs sc od f (nI (k + 1)) (nI (BS A n V U D T F k).1) (nI (BS A n V U D T F k).2) aw x
      = some (nI (BS A n V U D T F (2 ^ n - 1)).1, nI (BS A n V U D T F (2 ^ n - 1)).2, nI n, aw', kd, wk, fs, sc, od, x') := by
  have h8 := h.1
  have hp := p2_b h8
  intro m
  induction m with
  | zero =>
    intro k f hk hf aw x
    obtain ⟨f, rfl⟩ : ∃ z, f = z + 1 := ⟨f - 1, by omega⟩
    obtain rfl : k = 2 ^ n - 1 := by omega
    refine ⟨aw, x, ?_⟩
    rw [S_X2_findLeast_L40, if_pos (nI_le (by omega) (by omega))]
  | succ m ih =>
    intro k f hk hf aw x
    obtain ⟨f, rfl⟩ : ∃ z, f = z + 1 := ⟨f - 1, by omega⟩
    obtain ⟨x1, s1, s2⟩ := se_h h hc (a := k + 1) (by omega) x
    obtain ⟨aw', x', h1⟩ := ih (k + 1) f (by omega) (by omega) (nI (k + 1)) x1
    refine ⟨aw', x', ?_⟩
    have hb1 := OW_b h A (k + 1)
    have hb2 := (BS_b h A k).1
    have hbr : ∀ i, i < n → RD n V U D T F (k + 1) i ≤ 100000 := fun i hi => by have := RD_b h (k + 1) hi; omega
    rw [S_X2_findLeast_L40, if_neg (nI_ge (by omega) (by omega)), s1, Option.bind_some]
    dsimp only
    rw [wo3 h hA s2, Option.bind_some, nI_1]
    by_cases c : (BS A n V U D T F k).2 ≤ OW A n V U D T F (k + 1)
    · rw [if_pos (nI_le c (by omega))]
      rw [show BS A n V U D T F (k + 1) = BS A n V U D T F k from if_neg (by omega)] at h1
      exact h1
    · rw [if_neg (nI_ge (by omega) (by omega))]
      unfold jn
      dsimp only
      by_cases a2 : A = 2
      · rw [if_pos ((aim2 hA).mpr a2), ovs3 h8 hbr s2, Option.bind_some]
        by_cases c2 : ovN (RD n V U D T F (k + 1)) n n = 0
        · rw [if_pos (by rw [c2]; rfl)]
          rw [show BS A n V U D T F (k + 1) = (k + 1, OW A n V U D T F (k + 1)) from if_pos ⟨by omega, fun _ => c2⟩] at h1
          exact h1
        · have hb3 := ovN_b (RD n V U D T F (k + 1)) h8 n
          rw [if_neg (fun q => c2 (by have := congrArg Int32.toNatClampNeg q; rw [nI_clamp (by omega)] at this; exact this))]
          rw [show BS A n V U D T F (k + 1) = BS A n V U D T F k from if_neg (fun q => c2 (q.2 a2))] at h1
          exact h1
      · rw [if_neg (fun q => a2 ((aim2 hA).mp q))]
        rw [show BS A n V U D T F (k + 1) = (k + 1, OW A n V U D T F (k + 1)) from if_pos ⟨by omega, fun q => absurd q a2⟩] at h1
        exact h1
/-- what the search finds -/
def BF (A n V U D : Nat) (T F : Nat → Nat) : Nat × Nat := BS A n V U D T F (2 ^ n - 1)
theorem fl_h {n V U D : Nat} {K T F : Nat → Nat} (h : NR n V U D K T F) {pp fp sp st : Int32} {yk yt yf : Nat → Int32} (hs : ShN n V U D K T F pp fp sp st yk yt yf) {A : Nat} (hA : A ≤ 2) (kd wk fs sc od x : Nat → Int32) :
    ∃ aw' kd' wk' fs' sc' od' x', S_X2_findLeast (nI A) pp fp sp st yk kd yf wk yt fs sc od x = some (nI (BF A n V U D T F).1, nI (BF A n V U D T F).2, nI n, aw', kd', wk', fs', sc', od', x') := by
  have h8 := h.1
  have hp := p2_b h8
  obtain ⟨kd', wk', fs', sc', od', g1, g2⟩ := la_h h hs kd wk fs sc od
  obtain ⟨x1, s1, s2⟩ := se_h h g2 (a := 0) (by omega) x
  have hp1 : 1 ≤ 2 ^ n := Nat.one_le_two_pow
  obtain ⟨aw', x', e⟩ := fl_loop h g2 hA (2 ^ n - 1) 0 300 (by omega) (by omega) (nI 0) x1
  refine ⟨aw', kd', wk', fs', sc', od', x', ?_⟩
  unfold S_X2_findLeast BF
  rw [g1, Option.bind_some]
  dsimp only
  rw [nI_0] at s1 e
  rw [s1, Option.bind_some]
  dsimp only
  rw [wo3 h hA s2, Option.bind_some, hs.1, sh_h n (by omega)]
  exact e
/-- nobody is overtaken where nobody is sent -/
theorem sumS_m (T : Nat → Nat) {i : Nat} : ∀ k, i < k → sumS 0 T i + T i ≤ sumS 0 T k := by
  intro k
  induction k with
  | zero => intro q; omega
  | succ k ih =>
    intro q
    simp only [sumS, Nat.zero_testBit]
    by_cases e : i = k
    · subst e; simp
    · have := ih (by omega)
      simp; omega
theorem RD_0 {n V U D : Nat} {T F : Nat → Nat} (i : Nat) : RD n V U D T F 0 i = RI V T 0 i := by
  unfold RD; rw [Nat.zero_testBit]; rfl
theorem RI_m (V : Nat) (T : Nat → Nat) {i k : Nat} (h : i < k) : RI V T 0 i ≤ RI V T 0 k := by
  have := sumS_m T k h
  exact Nat.mul_le_mul (Nat.le_refl V) (by omega)
theorem ovF_n {n V U D : Nat} {T F : Nat → Nat} (i : Nat) : ∀ k, ovF (RD n V U D T F 0) i k = 0 := by
  intro k
  induction k with
  | zero => rfl
  | succ k ih =>
    simp only [ovF]
    rw [if_neg (fun q => by have := RI_m V T q.1; rw [RD_0, RD_0] at q; omega)]
    exact ih
theorem pcn_0 : pcn 0 = 0 := by decide +kernel
theorem ovN_n {n V U D : Nat} {T F : Nat → Nat} (m : Nat) : ∀ k, ovN (RD n V U D T F 0) m k = 0 := by
  intro k
  induction k with
  | zero => rfl
  | succ k ih => simp only [ovN, ovF_n, ih, pcn_0]
/-- the reference's aims -/
def a7 (A : Nat) : Int32 := if A = 0 then 0 else 1
def b7 (A : Nat) : Int32 := if A = 2 then 1 else 0
theorem a7_0 (A : Nat) : (a7 A = 0) ↔ A = 0 := by unfold a7; by_cases c : A = 0 <;> simp [c]
theorem b7_0 (A : Nat) : (b7 A = 0) ↔ ¬ A = 2 := by unfold b7; by_cases c : A = 2 <;> simp [c]
theorem lo_loop {n V U D : Nat} {K T F : Nat → Nat} {row : Nat → Int32} (h : NR n V U D K T F) (hr : RoN n V U D K T F row) {A : Nat} (hA : A ≤ 2) :
    ∀ (m k f : Nat), k + m + 1 = 2 ^ n → m < f → ∀ (aw : Int32) (od x : Nat → Int32), ∃ aw' od' x', S_X7_leastOf_L5 (a7 A) (b7 A) row f (nI (BS A n V U D T F k).2) (nI (k + 1)) aw (nI (BS A n V U D T F k).1) od x
      = some (nI (BS A n V U D T F (2 ^ n - 1)).2, aw', nI (BS A n V U D T F (2 ^ n - 1)).1, od', x') := by
  have h8 := h.1
  have hp := p2_b h8
  intro m
  induction m with
  | zero =>
    intro k f hk hf aw od x
    obtain ⟨f, rfl⟩ : ∃ z, f = z + 1 := ⟨f - 1, by omega⟩
    obtain rfl : k = 2 ^ n - 1 := by omega
    refine ⟨aw, od, x, ?_⟩
    rw [S_X7_leastOf_L5, hr.1, sh_h n (by omega), if_pos (nI_le (by omega) (by omega))]
  | succ m ih =>
    intro k f hk hf aw od x
    obtain ⟨f, rfl⟩ : ∃ z, f = z + 1 := ⟨f - 1, by omega⟩
    obtain ⟨od1, x1, s1, s2⟩ := s7_h h hr (a := k + 1) (by omega) od x
    obtain ⟨aw', od', x', h1⟩ := ih (k + 1) f (by omega) (by omega) (nI (k + 1)) od1 x1
    refine ⟨aw', od', x', ?_⟩
    have hb1 := OW_b h A (k + 1)
    have hb2 := (BS_b h A k).1
    have hbr : ∀ i, i < n → RD n V U D T F (k + 1) i ≤ 100000 := fun i hi => by have := RD_b h (k + 1) hi; omega
    rw [S_X7_leastOf_L5, hr.1, sh_h n (by omega), if_neg (nI_ge (by omega) (by omega)), s1, Option.bind_some]
    unfold jn
    dsimp only
    have key : (if b7 A = 0 then
          (if nI (BS A n V U D T F k).2 < 0 then S_X7_leastOf_L5 (a7 A) (b7 A) row f (nI (OW A n V U D T F (k + 1))) (nI (k + 1) + 1) (nI (k + 1)) (nI (k + 1)) od1 x1 else
            if nI (BS A n V U D T F k).2 ≤ nI (OW A n V U D T F (k + 1)) then S_X7_leastOf_L5 (a7 A) (b7 A) row f (nI (BS A n V U D T F k).2) (nI (k + 1) + 1) (nI (k + 1)) (nI (BS A n V U D T F k).1) od1 x1 else
              S_X7_leastOf_L5 (a7 A) (b7 A) row f (nI (OW A n V U D T F (k + 1))) (nI (k + 1) + 1) (nI (k + 1)) (nI (k + 1)) od1 x1)
        else Option.bind (S_X7_overtakings row x1) (fun r46 => if r46 = 0 then
          (if nI (BS A n V U D T F k).2 < 0 then S_X7_leastOf_L5 (a7 A) (b7 A) row f (nI (OW A n V U D T F (k + 1))) (nI (k + 1) + 1) (nI (k + 1)) (nI (k + 1)) od1 x1 else
            if nI (BS A n V U D T F k).2 ≤ nI (OW A n V U D T F (k + 1)) then S_X7_leastOf_L5 (a7 A) (b7 A) row f (nI (BS A n V U D T F k).2) (nI (k + 1) + 1) (nI (k + 1)) (nI (BS A n V U D T F k).1) od1 x1 else
              S_X7_leastOf_L5 (a7 A) (b7 A) row f (nI (OW A n V U D T F (k + 1))) (nI (k + 1) + 1) (nI (k + 1)) (nI (k + 1)) od1 x1)
          else S_X7_leastOf_L5 (a7 A) (b7 A) row f (nI (BS A n V U D T F k).2) (nI (k + 1) + 1) (nI (k + 1)) (nI (BS A n V U D T F k).1) od1 x1)) = some (nI (BS A n V U D T F (2 ^ n - 1)).2, aw', nI (BS A n V U D T F (2 ^ n - 1)).1, od', x') := by
      rw [nI_1, if_neg (nI_pos (by omega))]
      by_cases c : (BS A n V U D T F k).2 ≤ OW A n V U D T F (k + 1)
      · rw [if_pos (nI_le c (by omega))]
        rw [show BS A n V U D T F (k + 1) = BS A n V U D T F k from if_neg (by omega)] at h1
        rw [ovs7 h8 hr.1 hbr s2, Option.bind_some, h1]
        simp
      · rw [if_neg (nI_ge (by omega) (by omega))]
        by_cases a2 : A = 2
        · rw [if_neg (fun q => (b7_0 A).mp q a2), ovs7 h8 hr.1 hbr s2, Option.bind_some]
          by_cases c2 : ovN (RD n V U D T F (k + 1)) n n = 0
          · rw [if_pos (by rw [c2]; rfl)]
            rw [show BS A n V U D T F (k + 1) = (k + 1, OW A n V U D T F (k + 1)) from if_pos ⟨by omega, fun _ => c2⟩] at h1
            exact h1
          · have hb3 := ovN_b (RD n V U D T F (k + 1)) h8 n
            rw [if_neg (fun q => c2 (by have := congrArg Int32.toNatClampNeg q; rw [nI_clamp (by omega)] at this; exact this))]
            rw [show BS A n V U D T F (k + 1) = BS A n V U D T F k from if_neg (fun q => c2 (q.2 a2))] at h1
            exact h1
        · rw [if_pos ((b7_0 A).mpr a2)]
          rw [show BS A n V U D T F (k + 1) = (k + 1, OW A n V U D T F (k + 1)) from if_pos ⟨by omega, fun q => absurd q a2⟩] at h1
          exact h1
    by_cases c : A = 0
    · rw [if_pos ((a7_0 A).mpr c), lat7 h8 hr.1 hbr s2, Option.bind_some]
      rw [show latN (RD n V U D T F (k + 1)) n = OW A n V U D T F (k + 1) from (if_pos c).symm]
      exact key
    · rw [if_neg (fun q => c ((a7_0 A).mp q)), sum7 h8 hr.1 s2, Option.bind_some]
      rw [show sumN (RD n V U D T F (k + 1)) n = OW A n V U D T F (k + 1) from (if_neg c).symm]
      exact key
theorem lo_h {n V U D : Nat} {K T F : Nat → Nat} {row : Nat → Int32} (h : NR n V U D K T F) (hr : RoN n V U D K T F row) {A : Nat} (hA : A ≤ 2) (aw bs : Int32) (od x : Nat → Int32) :
    ∃ aw' od' x', S_X7_leastOf (a7 A) (b7 A) aw bs row od x = some (nI (BF A n V U D T F).2, aw', nI (BF A n V U D T F).1, od', x') := by
  have h8 := h.1
  have hp := p2_b h8
  have hp1 : 1 ≤ 2 ^ n := Nat.one_le_two_pow
  obtain ⟨od1, x1, s1, s2⟩ := s7_h h hr (a := 0) (by omega) od x
  obtain ⟨aw', od', x', e⟩ := lo_loop h hr hA (2 ^ n - 1) 0 299 (by omega) (by omega) (nI 0) od1 x1
  refine ⟨aw', od', x', ?_⟩
  have hbr : ∀ i, i < n → RD n V U D T F 0 i ≤ 100000 := fun i hi => by have := RD_b h 0 hi; omega
  unfold S_X7_leastOf BF
  simp only [BS, nI_0, Nat.zero_add] at e
  rw [nI_0] at s1
  rw [S_X7_leastOf_L5, hr.1, sh_h n (by omega), ← nI_0, if_neg (nI_ge (by omega) (by omega)), nI_0, s1, Option.bind_some]
  unfold jn
  dsimp only
  have one : (0 : Int32) + 1 = nI 1 := rfl
  by_cases c : A = 0
  · rw [if_pos ((a7_0 A).mpr c), lat7 h8 hr.1 hbr s2, Option.bind_some]
    rw [show latN (RD n V U D T F 0) n = OW A n V U D T F 0 from (if_pos c).symm]
    rw [if_pos (show (-1 : Int32) < 0 by decide), ovs7 h8 hr.1 hbr s2, ovN_n, nI_0, Option.bind_some, if_pos rfl, ite_self, one]
    exact e
  · rw [if_neg (fun q => c ((a7_0 A).mp q)), sum7 h8 hr.1 s2, Option.bind_some]
    rw [show sumN (RD n V U D T F 0) n = OW A n V U D T F 0 from (if_neg c).symm]
    rw [if_pos (show (-1 : Int32) < 0 by decide), ovs7 h8 hr.1 hbr s2, ovN_n, nI_0, Option.bind_some, if_pos rfl, ite_self, one]
    exact e
