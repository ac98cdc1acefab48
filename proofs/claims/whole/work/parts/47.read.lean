/-! the text is read -/
def chN (t : Nat) (C : Nat → Nat) (p : Nat) : Nat := if p < t then C p else 0
def fgN (t : Nat) (C : Nat → Nat) (p : Nat) : Prop := 48 ≤ chN t C p ∧ chN t C p ≤ 57
def fgD (t : Nat) (C : Nat → Nat) (p : Nat) : Decidable (fgN t C p) := by unfold fgN; exact inferInstance
def enN (t : Nat) (C : Nat → Nat) (p : Nat) : Nat := if 48 ≤ chN t C (p + 1) ∧ chN t C (p + 1) ≤ 57 then p + 2 else p + 1
def vlN (t : Nat) (C : Nat → Nat) (p : Nat) : Nat := if 48 ≤ chN t C (p + 1) ∧ chN t C (p + 1) ≤ 57 then 10 * (chN t C p - 48) + (chN t C (p + 1) - 48) else chN t C p - 48
def TX (t : Nat) (C : Nat → Nat) (lt mt : Nat → Int32) : Prop := t ≤ 200 ∧ ∀ j, j < t → C j < 60000 ∧ lt j = nI (C j) ∧ mt j = nI (C j)
theorem chN_b {t : Nat} {C : Nat → Nat} {lt mt : Nat → Int32} (h : TX t C lt mt) (p : Nat) : chN t C p < 60000 := by
  unfold chN
  split
  · rename_i q; exact (h.2 p q).1
  · omega
theorem la5 {t : Nat} {C : Nat → Nat} {lt mt : Nat → Int32} (h : TX t C lt mt) {p : Nat} (hp : p < 1000) : S_X5_letterAt (nI p) (nI t) lt = some (nI (chN t C p)) := by
  have ht := h.1
  unfold S_X5_letterAt chN
  rw [if_neg (nI_pos (by omega))]
  by_cases c : p < t
  · rw [if_neg (nI_ge c (by omega)), if_neg (nin' (by omega) (by omega)), nI_clamp (by omega), (h.2 p c).2.1, chn_id (by have := (h.2 p c).1; omega), if_pos rfl, if_pos c]
  · rw [if_pos (nI_le (by omega) (by omega)), if_neg c, nI_0]
theorem fi5 {c : Nat} (hc : c < 60000) : S_X5_isFigure (nI c) = some (if 48 ≤ c ∧ c ≤ 57 then 1 else 0) := by
  unfold S_X5_isFigure
  by_cases a : 48 ≤ c
  · rw [if_neg (show ¬ nI c < (48 : Int32) from (nI_nlt a (by omega) : ¬ nI c < nI 48))]
    by_cases b : c ≤ 57
    · rw [if_neg (show ¬ (57 : Int32) < nI c from (nI_nlt b (by omega) : ¬ nI 57 < nI c)), if_pos ⟨a, b⟩]
    · rw [if_pos (show (57 : Int32) < nI c from (nI_lt (by omega) (by omega) : nI 57 < nI c)), if_neg (by omega)]
  · rw [if_pos (show nI c < (48 : Int32) from (nI_lt (by omega) (by omega) : nI c < nI 48)), if_neg (by omega)]
theorem n2 (p : Nat) : nI p + (2 : Int32) = nI (p + 2) := by rw [show (2 : Int32) = nI 2 from rfl, nI_add]
theorem en5 {t : Nat} {C : Nat → Nat} {lt mt : Nat → Int32} (h : TX t C lt mt) {p : Nat} (hp : p < 900) : S_X5_endOfNumber (nI p) (nI t) lt = some (nI (if 48 ≤ chN t C p ∧ chN t C p ≤ 57 then enN t C p else p)) := by
  unfold S_X5_endOfNumber
  rw [S_X5_endOfNumber_L2, n2, if_neg (nI_ge (by omega) (by omega)), la5 h (by omega), Option.bind_some, fi5 (chN_b h p), Option.bind_some]
  by_cases a : 48 ≤ chN t C p ∧ chN t C p ≤ 57
  · rw [if_pos a, if_neg one_ne, nI_1, S_X5_endOfNumber_L2, n2, if_neg (nI_ge (by omega) (by omega)), la5 h (by omega), Option.bind_some, fi5 (chN_b h _), Option.bind_some, if_pos a]
    unfold enN
    by_cases b : 48 ≤ chN t C (p + 1) ∧ chN t C (p + 1) ≤ 57
    · rw [if_pos b, if_neg one_ne, nI_1, S_X5_endOfNumber_L2, n2, if_pos (nI_rf _), if_pos b]
    · rw [if_neg b, if_pos rfl, if_neg b]
  · rw [if_neg a, if_pos rfl, if_neg a]
theorem nv (z c : Nat) (h : 48 ≤ c) : nI z * (10 : Int32) + (nI c - (48 : Int32)) = nI (10 * z + (c - 48)) := by
  rw [show (10 : Int32) = nI 10 from rfl, show (48 : Int32) = nI 48 from rfl, pk_mul, pk_sub h, nI_add, Nat.mul_comm]
theorem nb5 {t : Nat} {C : Nat → Nat} {lt mt : Nat → Int32} (h : TX t C lt mt) {p : Nat} (hp : p < 900) (a : 48 ≤ chN t C p ∧ chN t C p ≤ 57) : S_X5_numberBetween (nI p) (nI (enN t C p)) (nI t) lt = some (nI (vlN t C p)) := by
  unfold S_X5_numberBetween enN vlN
  by_cases b : 48 ≤ chN t C (p + 1) ∧ chN t C (p + 1) ≤ 57
  · rw [if_pos b, if_pos b, S_X5_numberBetween_L5, if_neg (nI_ge (by omega) (by omega)), la5 h (by omega), Option.bind_some]
    unfold nm
    dsimp only
    rw [← nI_0, nv 0 _ a.1, nI_1, S_X5_numberBetween_L5, if_neg (nI_ge (by omega) (by omega)), la5 h (by omega), Option.bind_some]
    unfold nm
    dsimp only
    rw [nv _ _ b.1, nI_1, S_X5_numberBetween_L5, if_pos (nI_rf _), Nat.mul_zero, Nat.zero_add]
  · rw [if_neg b, if_neg b, S_X5_numberBetween_L5, if_neg (nI_ge (by omega) (by omega)), la5 h (by omega), Option.bind_some]
    unfold nm
    dsimp only
    rw [← nI_0, nv 0 _ a.1, nI_1, S_X5_numberBetween_L5, if_pos (nI_rf _), Nat.mul_zero, Nat.zero_add]
theorem enN_b (t : Nat) (C : Nat → Nat) (p : Nat) : p < enN t C p ∧ enN t C p ≤ p + 2 := by unfold enN; split <;> omega
/-- one number and what must stand behind it -/
def nuN (t : Nat) (C : Nat → Nat) (p s : Nat) : Prop := (48 ≤ chN t C p ∧ chN t C p ≤ 57) ∧ chN t C (enN t C p) = s
theorem nu_t {t : Nat} {C : Nat → Nat} {p s : Nat} (hs : 0 < s) (h : nuN t C p s) : enN t C p < t := by
  have e := h.2
  unfold chN at e
  by_cases c : enN t C p < t
  · exact c
  · rw [if_neg c] at e; omega
theorem e22y {t : Nat} {C : Nat → Nat} {lt mt : Nat → Int32} (h : TX t C lt mt) {p k c s f : Nat} (hp : p < 900) (hk : k < c) (hc : c ≤ 3) (hs : s = if k + 1 = c then 59 else 44) (z : Int32) (nu : Nat → Int32) (q : nuN t C p s) :
    S_X5_endOfItem_L22 z (nI c) (nI t) lt (f + 1) (nI p) (nI k) nu = S_X5_endOfItem_L22 z (nI c) (nI t) lt f (nI (enN t C p + 1)) (nI (k + 1)) (upd nu k (nI (vlN t C p))) := by
  have hb := enN_b t C p
  have ne : ¬ nI (enN t C p) = nI p := fun e => by have := (n_eq (by omega) (by omega)).mp e; omega
  have hi3 := nin (n := k) (N := 3) (by omega) (by omega)
  rw [S_X5_endOfItem_L22, if_neg (nI_ge hk (by omega)), en5 h hp, if_pos q.1, Option.bind_some]
  unfold jn
  dsimp only
  simp only [nI_1, ne, ↓reduceIte, la5 h (show enN t C p < 1000 by omega), Option.bind_some, q.2, nb5 h hp q.1, nI_clamp (show k < 2 ^ 31 by omega), hi3]
  by_cases d : k + 1 = c
  · rw [if_pos (nI_le (by omega) (by omega)), hs, if_pos d, if_pos (show nI 59 = (59 : Int32) from rfl)]
  · rw [if_neg (nI_ge (by omega) (by omega)), hs, if_neg d, if_pos (show nI 44 = (44 : Int32) from rfl)]
theorem e22n {t : Nat} {C : Nat → Nat} {lt mt : Nat → Int32} (h : TX t C lt mt) {p k c s f : Nat} (hp : p < 900) (hk : k < c) (hc : c ≤ 3) (hs : s = if k + 1 = c then 59 else 44) (z : Int32) (nu : Nat → Int32) (q : ¬ nuN t C p s) :
    S_X5_endOfItem_L22 z (nI c) (nI t) lt (f + 1) (nI p) (nI k) nu = some (z, nu) := by
  have hb := enN_b t C p
  have hcb := chN_b h (enN t C p)
  have ne : ¬ nI (enN t C p) = nI p := fun e => by have := (n_eq (by omega) (by omega)).mp e; omega
  rw [S_X5_endOfItem_L22, if_neg (nI_ge hk (by omega)), en5 h hp, Option.bind_some]
  unfold jn
  dsimp only
  by_cases a : 48 ≤ chN t C p ∧ chN t C p ≤ 57
  · simp only [if_pos a, nI_1, ne, ↓reduceIte, la5 h (show enN t C p < 1000 by omega), Option.bind_some]
    by_cases d : k + 1 = c
    · rw [if_pos d] at hs
      rw [if_pos (nI_le (by omega) (by omega)), if_neg (show ¬ nI (chN t C (enN t C p)) = (59 : Int32) from fun e => q ⟨a, by rw [hs]; exact (n_eq (b := 59) (by omega) (by omega)).mp e⟩)]
    · rw [if_neg d] at hs
      rw [if_neg (nI_ge (by omega) (by omega)), if_neg (show ¬ nI (chN t C (enN t C p)) = (44 : Int32) from fun e => q ⟨a, by rw [hs]; exact (n_eq (b := 44) (by omega) (by omega)).mp e⟩)]
  · simp only [if_neg a, ↓reduceIte, ite_self]
theorem e22e {t c f p : Nat} {lt : Nat → Int32} (z : Int32) (nu : Nat → Int32) : S_X5_endOfItem_L22 z (nI c) (nI t) lt (f + 1) (nI p) (nI c) nu = some (nI p, nu) := by
  rw [S_X5_endOfItem_L22, if_pos (nI_rf c)]
/-- .. and the reference -/
theorem f7 {t : Nat} {C : Nat → Nat} {lt mt : Nat → Int32} (h : TX t C lt mt) {p : Nat} (hp : p < 1000) : S_X7_isFigure (nI t) (nI p) mt = some (if 48 ≤ chN t C p ∧ chN t C p ≤ 57 then 1 else 0) := by
  have ht := h.1
  unfold S_X7_isFigure chN
  by_cases c : p < t
  · have hc := (h.2 p c).1
    rw [if_neg (nI_ge c (by omega)), if_neg (nin' (by omega) (by omega)), nI_clamp (by omega), (h.2 p c).2.2, inl _ 48 57 48 57 rfl rfl, if_pos c, Option.bind_some]
    by_cases a : 48 ≤ C p ∧ C p ≤ 57
    · rw [if_pos (show (48 : Int32) ≤ nI (C p) ∧ nI (C p) ≤ 57 from ⟨(nI_le a.1 (by omega) : nI 48 ≤ nI (C p)), (nI_le a.2 (by omega) : nI (C p) ≤ nI 57)⟩), if_neg one_ne, if_pos a]
    · have q : ¬ ((48 : Int32) ≤ nI (C p) ∧ nI (C p) ≤ 57) := fun e => by
        by_cases b : 48 ≤ C p
        · exact (nI_ge (by omega) (by omega) : ¬ nI (C p) ≤ nI 57) e.2
        · exact (nI_ge (by omega) (by omega) : ¬ nI 48 ≤ nI (C p)) e.1
      rw [if_neg q, if_pos rfl, if_neg a]
  · rw [if_pos (nI_le (by omega) (by omega)), if_neg c, if_neg (by omega)]
def tl7 (i1 i2 i3 i4 len : Int32) (mt read : Nat → Int32) (v e : Int32) : Option (Int32 × Int32 × (Nat → Int32)) :=
  Option.bind (S_X7_in v.toInt64 i2.toInt64 i3.toInt64) (fun r77 =>
  (jn (fun (s0_113 : Int32) => (if i1 < 0 ∨ 28 ≤ i1.toNatClampNeg then none else
  (if vp_nar .boolean s0_113 = s0_113 then some (s0_113, e + (1 : Int32), upd read i1.toNatClampNeg v) else none))) (fun J113 =>
  (jn ((J113 (0 : Int32))) (fun J112 =>
  (if r77 = 0 then
  J112 else
  (if len ≤ e then
  J112 else
  (if e < 0 ∨ 200 ≤ e.toNatClampNeg then none else
  (if (mt e.toNatClampNeg) = i4 then
  (J113 (1 : Int32)) else
  J112)))))))))
theorem tl7_h {t : Nat} {C : Nat → Nat} {lt mt : Nat → Int32} (h : TX t C lt mt) {x lo hi s v e : Nat} (hx : x < 28) (hlo : lo < 1000) (hhi : hi < 1000) (hs : 0 < s) (hs2 : s < 60000) (hv : v < 1000) (he : e < 1000) (read : Nat → Int32) :
    tl7 (nI x) (nI lo) (nI hi) (nI s) (nI t) mt read (nI v) (nI e) = some (if (lo ≤ v ∧ v ≤ hi) ∧ chN t C e = s then 1 else 0, nI (e + 1), upd read x (nI v)) := by
  have ht := h.1
  unfold tl7 jn
  rw [inn, Option.bind_some]
  dsimp only
  have hx2 := nin (n := x) (N := 28) hx (by omega)
  have v0 : vp_nar .boolean 0 = 0 := by decide
  have v1 : vp_nar .boolean 1 = 1 := by decide
  simp only [nI_clamp (show x < 2 ^ 31 by omega), hx2, ↓reduceIte, v0, v1, nI_1]
  by_cases r : lo ≤ v ∧ v ≤ hi
  · rw [if_pos (show nI lo ≤ nI v ∧ nI v ≤ nI hi from ⟨nI_le r.1 (by omega), nI_le r.2 (by omega)⟩), if_neg one_ne]
    by_cases c : e < t
    · have hc := (h.2 e c).1
      rw [if_neg (nI_ge c (by omega)), if_neg (nin' (by omega) (by omega)), nI_clamp (by omega), (h.2 e c).2.2]
      have ce : chN t C e = C e := if_pos c
      by_cases d : C e = s
      · rw [if_pos (by rw [d]), if_pos ⟨r, by rw [ce]; exact d⟩]
      · rw [if_neg (fun q => d ((n_eq (by omega) (by omega)).mp q)), if_neg (fun q => d (by rw [← ce]; exact q.2))]
    · have ce : chN t C e = 0 := if_neg c
      rw [if_pos (nI_le (by omega) (by omega)), if_neg (fun q => by have := q.2; omega)]
  · have q : ¬ (nI lo ≤ nI v ∧ nI v ≤ nI hi) := fun e => by
      by_cases b : lo ≤ v
      · exact nI_ge (show hi < v by omega) (by omega) e.2
      · exact nI_ge (show v < lo by omega) (by omega) e.1
    rw [if_neg q, if_pos rfl, if_neg (fun z => r z.1)]
theorem n7y {t : Nat} {C : Nat → Nat} {lt mt : Nat → Int32} (h : TX t C lt mt) {p x lo hi s : Nat} (hp : p < 900) (hx : x < 28) (hlo : lo < 1000) (hhi : hi < 1000) (hs : 0 < s) (hs2 : s < 60000) (read : Nat → Int32) (a : 48 ≤ chN t C p ∧ chN t C p ≤ 57) :
    S_X7_number (nI x) (nI lo) (nI hi) (nI s) (nI t) (nI p) mt read = some (if (lo ≤ vlN t C p ∧ vlN t C p ≤ hi) ∧ chN t C (enN t C p) = s then 1 else 0, nI (enN t C p + 1), upd read x (nI (vlN t C p))) := by
  have ht := h.1
  have hpt : p < t := by
    by_cases c : p < t
    · exact c
    · unfold chN at a; rw [if_neg c] at a; omega
  have e0 : mt p = nI (chN t C p) := by unfold chN; rw [if_pos hpt]; exact (h.2 p hpt).2.2
  have fold : S_X7_number (nI x) (nI lo) (nI hi) (nI s) (nI t) (nI p) mt read = Option.bind (S_X7_isFigure (nI t) (nI p) mt) (fun r1 => if r1 = 0 then some (0, nI p, read) else if nI p < 0 ∨ 200 ≤ (nI p).toNatClampNeg then none else Option.bind (S_X7_isFigure (nI t) (nI p + 1) mt) (fun r34 => if r34 = 0 then tl7 (nI x) (nI lo) (nI hi) (nI s) (nI t) mt read (mt (nI p).toNatClampNeg - 48) (nI p + 1) else if nI p + 1 < 0 ∨ 200 ≤ (nI p + 1).toNatClampNeg then none else tl7 (nI x) (nI lo) (nI hi) (nI s) (nI t) mt read (10 * (mt (nI p).toNatClampNeg - 48) + mt (nI p + 1).toNatClampNeg - 48) (nI p + 1 + 1))) := rfl
  rw [fold, f7 h (by omega), Option.bind_some, if_pos a, if_neg one_ne, if_neg (nin' (by omega) (by omega)), nI_1, f7 h (by omega), Option.bind_some, nI_clamp (by omega), e0]
  have ev : nI (chN t C p) - (48 : Int32) = nI (chN t C p - 48) := by rw [show (48 : Int32) = nI 48 from rfl, pk_sub a.1]
  unfold enN vlN
  by_cases b : 48 ≤ chN t C (p + 1) ∧ chN t C (p + 1) ≤ 57
  · have hpt1 : p + 1 < t := by
      by_cases c : p + 1 < t
      · exact c
      · unfold chN at b; rw [if_neg c] at b; omega
    have e1 : mt (p + 1) = nI (chN t C (p + 1)) := by
      have : chN t C (p + 1) = C (p + 1) := if_pos hpt1
      rw [this]; exact (h.2 _ hpt1).2.2
    rw [if_pos b, if_neg one_ne, if_neg (nin' (by omega) (by omega)), nI_clamp (by omega), e1, nI_1, ev, if_pos b, if_pos b]
    have e2 : (10 : Int32) * nI (chN t C p - 48) + nI (chN t C (p + 1)) - (48 : Int32) = nI (10 * (chN t C p - 48) + (chN t C (p + 1) - 48)) := by
      rw [show (10 : Int32) = nI 10 from rfl, show (48 : Int32) = nI 48 from rfl, pk_mul, nI_add, pk_sub (by omega)]
      congr 1; omega
    rw [e2, tl7_h h hx hlo hhi hs hs2 (by omega) (by omega)]
  · rw [if_neg b, if_pos rfl, ev, if_neg b, if_neg b, tl7_h h hx hlo hhi hs hs2 (by omega) (by omega)]
theorem n7n {t : Nat} {C : Nat → Nat} {lt mt : Nat → Int32} (h : TX t C lt mt) {p : Nat} (hp : p < 900) (i1 i2 i3 i4 : Int32) (read : Nat → Int32) (a : ¬ (48 ≤ chN t C p ∧ chN t C p ≤ 57)) :
    S_X7_number i1 i2 i3 i4 (nI t) (nI p) mt read = some (0, nI p, read) := by
  unfold S_X7_number
  rw [f7 h (by omega), Option.bind_some, if_neg a, if_pos rfl]
