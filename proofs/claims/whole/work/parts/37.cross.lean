/-! the shop in whole numbers; what the class looks at, what the reference reads -/
def NR (n V U D : Nat) (K T F : Nat → Nat) : Prop := n ≤ 8 ∧ 1 ≤ V ∧ V ≤ 9 ∧ 1 ≤ U ∧ U ≤ 9 ∧ D ≤ 20 ∧ ∀ i, i < n → K i ≤ 3 ∧ 1 ≤ T i ∧ T i ≤ 20 ∧ 1 ≤ F i ∧ F i ≤ 9
def ShN (n V U D : Nat) (K T F : Nat → Nat) (pp fp sp st : Int32) (kd th ft : Nat → Int32) : Prop := pp = nI n ∧ fp = nI V ∧ sp = nI U ∧ st = nI D ∧ ∀ i, i < n → kd i = nI (K i) ∧ th i = nI (T i) ∧ ft i = nI (F i)
def RoN (n V U D : Nat) (K T F : Nat → Nat) (row : Nat → Int32) : Prop := row 0 = nI n ∧ row 1 = nI V ∧ row 2 = nI U ∧ row 3 = nI D ∧ ∀ i, i < n → row (4 + 3 * i) = nI (K i) ∧ row (5 + 3 * i) = nI (T i) ∧ row (6 + 3 * i) = nI (F i)
theorem RR.nat {pp fp sp st : Int32} {kd th ft row : Nat → Int32} (h : RR pp fp sp st kd th ft row) : ∃ n V U D K T F, NR n V U D K T F ∧ ShN n V U D K T F pp fp sp st kd th ft ∧ RoN n V U D K T F row := by
  obtain ⟨n, ⟨h8, rfl, ⟨V, v1, v2, rfl⟩, ⟨U, u1, u2, rfl⟩, ⟨D, d1, rfl⟩, hp⟩, r0, r1, r2, r3, hr⟩ := h
  have key : ∀ i, i < n → kd i = nI (kd i).toNatClampNeg ∧ th i = nI (th i).toNatClampNeg ∧ ft i = nI (ft i).toNatClampNeg ∧ (kd i).toNatClampNeg ≤ 3 ∧ 1 ≤ (th i).toNatClampNeg ∧ (th i).toNatClampNeg ≤ 20 ∧ 1 ≤ (ft i).toNatClampNeg ∧ (ft i).toNatClampNeg ≤ 9 := fun i hi => by
    obtain ⟨⟨k, k1, ek⟩, ⟨t, t1, t2, et⟩, ⟨f, f1, f2, ef⟩⟩ := hp i hi
    rw [ek, et, ef, nI_clamp (by omega), nI_clamp (by omega), nI_clamp (by omega)]
    exact ⟨rfl, rfl, rfl, k1, t1, t2, f1, f2⟩
  refine ⟨n, V, U, D, fun i => (kd i).toNatClampNeg, fun i => (th i).toNatClampNeg, fun i => (ft i).toNatClampNeg, ⟨h8, v1, v2, u1, u2, d1, fun i hi => ?_⟩, ⟨rfl, rfl, rfl, rfl, fun i hi => ?_⟩, ⟨r0, r1, r2, r3, fun i hi => ?_⟩⟩
  · obtain ⟨-, -, -, a⟩ := key i hi; exact a
  · obtain ⟨a, b, c, -⟩ := key i hi; exact ⟨a, b, c⟩
  · obtain ⟨a, b, c, -⟩ := key i hi
    obtain ⟨x, y, z⟩ := hr i hi
    exact ⟨x.trans a, y.trans b, z.trans c⟩
def Wk (n D : Nat) (F : Nat → Nat) (i : Nat) : Nat := F i * (D + n - i)
theorem Wk_b {n V U D : Nat} {K T F : Nat → Nat} (h : NR n V U D K T F) : ∀ i, i < n → Wk n D F i ≤ 252 := fun i hi => by
  obtain ⟨a, -, -, -, -, b, c⟩ := h
  obtain ⟨-, -, -, d1, d2⟩ := c i hi
  have : F i * (D + n - i) ≤ 9 * 28 := Nat.mul_le_mul d2 (by omega)
  exact this
theorem wk_e {n D i f : Nat} (hi : i < n) : nI f * (nI D + nI n - nI i) = nI (f * (D + n - i)) := by rw [nI_add, pk_sub (by omega), pk_mul]
theorem wk7 {n V U D : Nat} {K T F : Nat → Nat} {row : Nat → Int32} (h : NR n V U D K T F) (hr : RoN n V U D K T F row) {i : Nat} (hi : i < n) : S_X7_walk (nI i) row = some (nI (Wk n D F i)) := by
  have h8 := h.1
  rw [walk7 row (by omega), (hr.2.2.2.2 i hi).2.2, hr.2.2.2.1, hr.1, wk_e hi]; rfl
theorem wk3 {n V U D : Nat} {K T F : Nat → Nat} {ft : Nat → Int32} (h : NR n V U D K T F) (hf : ∀ i, i < n → ft i = nI (F i)) {i : Nat} (hi : i < n) : S_X3_walk (nI i) (nI n) (nI D) ft = some (nI (Wk n D F i)) := by
  rw [walk3 _ _ hi h.1, hf i hi, wk_e hi]; rfl
/-- the order that both come to -/
def Oc (W : Nat → Nat) (n p : Nat) : Nat := ((List.range n).find? (fun i => decide (rk W n 0 i = p))).getD 0
theorem Oc_eq {W : Nat → Nat} {n : Nat} {o : Nat → Nat} (h : OrdM W n 0 o) {p : Nat} (hp : p < n) : o p = Oc W n p := by
  obtain ⟨-, h2, h3⟩ := h p (by omega)
  unfold Oc
  cases e : (List.range n).find? (fun i => decide (rk W n 0 i = p)) with
  | none =>
    have := List.find?_eq_none.mp e (o p) (List.mem_range.mpr h2)
    simp [h3] at this
  | some j =>
    have hj := List.find?_some e
    have hm := List.mem_range.mp (List.mem_of_find?_eq_some e)
    simp at hj
    show o p = j
    exact rk_inj (Nat.zero_le _) h2 (Nat.zero_le _) hm (h3.trans hj.symm)
theorem Oc_ok {W : Nat → Nat} {n : Nat} (hn : n ≤ 8) (hb : ∀ i, i < n → W i < 2 ^ 31) : OrdM W n 0 (Oc W n) := by
  obtain ⟨x', o, h1, h2, h3⟩ := lu_h (wk := fun i => nI (W i)) hn (fun _ _ => rfl) hb (fun _ => 0)
  intro p hp
  rw [← Oc_eq h2 (by omega)]
  exact h2 p hp
/-- what a Crossing holds behind lookAt -/
def CrN (n V U D : Nat) (K T F : Nat → Nat) (kd wk fs sc od : Nat → Int32) : Prop := (∀ i, i < n → kd i = nI (K i) ∧ wk i = nI (Wk n D F i) ∧ fs i = nI (V * T i) ∧ sc i = nI (U * T i)) ∧ ∀ p, p < n → od p = nI (Oc (Wk n D F) n p)
theorem la_loop {n V U D : Nat} {K T F : Nat → Nat} (h : NR n V U D K T F) {pp fp sp st : Int32} {yk yt yf : Nat → Int32} (hs : ShN n V U D K T F pp fp sp st yk yt yf) (od : Nat → Int32) :
    ∀ (m i f : Nat), i + m = n → m < f → ∀ (kd wk fs sc : Nat → Int32), (∀ j, j < i → kd j = nI (K j) ∧ wk j = nI (Wk n D F j) ∧ fs j = nI (V * T j) ∧ sc j = nI (U * T j)) →
    ∃ kd' wk' fs' sc' od', S_X0_lookAt_L10 (nI n) od pp fp sp st yk yf yt f (nI i) kd wk fs sc = some (nI n, kd', wk', fs', sc', od') ∧ CrN n V U D K T F kd' wk' fs' sc' od' := by
  have h8 := h.1
  obtain ⟨rfl, rfl, rfl, rfl, hy⟩ := hs
  intro m
  induction m with
  | zero =>
    intro i f hi hf kd wk fs sc hj
    obtain ⟨f, rfl⟩ : ∃ z, f = z + 1 := ⟨f - 1, by omega⟩
    obtain rfl : i = n := by omega
    obtain ⟨od', o, g1, g2, g3⟩ := lu_h h8 (fun j hjn => (hj j hjn).2.1) (fun j hjn => by have := Wk_b h j hjn; omega) od
    refine ⟨kd, wk, fs, sc, od', ?_, hj, fun p hp => by rw [g3 p hp, Oc_eq g2 hp]⟩
    rw [S_X0_lookAt_L10, if_pos (nI_rf i), g1]; rfl
  | succ m ih =>
    intro i f hi hf kd wk fs sc hj
    obtain ⟨f, rfl⟩ : ∃ z, f = z + 1 := ⟨f - 1, by omega⟩
    have h0 := nin' (n := i) (N := 8) (by omega) (by omega)
    obtain ⟨y1, y2, y3⟩ := hy i (by omega)
    obtain ⟨kd', wk', fs', sc', od', g1, g2⟩ := ih (i + 1) f (by omega) (by omega) (upd kd i (nI (K i))) (upd wk i (nI (Wk n D F i))) (upd fs i (nI (V * T i))) (upd sc i (nI (U * T i))) (fun j hji => by
      by_cases e : j = i
      · subst e; rw [pk_us, pk_us, pk_us, pk_us]; exact ⟨rfl, rfl, rfl, rfl⟩
      · rw [pk_un e, pk_un e, pk_un e, pk_un e]; exact hj j (by omega))
    refine ⟨kd', wk', fs', sc', od', ?_, g2⟩
    rw [S_X0_lookAt_L10, if_neg (nI_ge (by omega) (by omega)), if_neg h0, if_neg h0, wk3 h (fun j hjn => (hy j hjn).2.2) (by omega), Option.bind_some, if_neg h0, if_neg h0, if_neg h0, if_neg h0, if_neg h0, nI_clamp (by omega), nI_1, y1, y2, pk_mul, pk_mul]
    exact g1
theorem la_h {n V U D : Nat} {K T F : Nat → Nat} (h : NR n V U D K T F) {pp fp sp st : Int32} {yk yt yf : Nat → Int32} (hs : ShN n V U D K T F pp fp sp st yk yt yf) (kd wk fs sc od : Nat → Int32) :
    ∃ kd' wk' fs' sc' od', S_X0_lookAt pp fp sp st yk kd yf wk yt fs sc od = some (nI n, kd', wk', fs', sc', od') ∧ CrN n V U D K T F kd' wk' fs' sc' od' := by
  obtain ⟨kd', wk', fs', sc', od', g1, g2⟩ := la_loop h hs od n 0 300 (by omega) (by have := h.1; omega) kd wk fs sc (fun j hj => absurd hj (by omega))
  refine ⟨kd', wk', fs', sc', od', ?_, g2⟩
  unfold S_X0_lookAt
  rw [← hs.1] at g1
  exact (by rw [hs.1] at g1 ⊢; exact g1)
theorem or7 {n V U D : Nat} {K T F : Nat → Nat} {row : Nat → Int32} (h : NR n V U D K T F) (hr : RoN n V U D K T F row) (x : Nat → Int32) : ∃ x', S_X7_orders row x = some x' ∧ ∀ p, p < n → x' p = nI (Oc (Wk n D F) n p) := by
  have hb : ∀ i, i < n → Wk n D F i < 2 ^ 31 := fun i hi => by have := Wk_b h i hi; omega
  obtain ⟨x', h1, h2⟩ := or_h h.1 hr.1 (fun i hi => wk7 h hr hi) hb x
  refine ⟨x', h1, fun p hp => ?_⟩
  obtain ⟨-, o2, o3⟩ := Oc_ok h.1 hb p (by omega)
  have := h2 _ o2
  rw [o3] at this
  exact this
/-! bits -/
theorem bit_h : ∀ a, a < 256 → ∀ i, i < 8 → (nI a >>> (nI i &&& 31)) &&& (1 : Int32) = (if a.testBit i then 1 else 0) := by decide +kernel
theorem bit1 {a i : Nat} (ha : a < 256) (hi : i < 8) : ((nI a >>> (nI i &&& 31)) &&& (1 : Int32) = 1) ↔ a.testBit i = true := by
  rw [bit_h a ha i hi]; cases a.testBit i <;> simp
theorem bit0 {a i : Nat} (ha : a < 256) (hi : i < 8) : ((nI a >>> (nI i &&& 31)) &&& (1 : Int32) = 0) ↔ ¬ a.testBit i = true := by
  rw [bit_h a ha i hi]; cases a.testBit i <;> simp
theorem isAw {a i : Nat} (ha : a < 256) (hi : i < 8) : S_X0_isAway (nI i) (nI a) = some (if a.testBit i then 1 else 0) := by
  unfold S_X0_isAway
  rw [bit_h a ha i hi]; cases a.testBit i <;> rfl
theorem or_b : ∀ a, a < 256 → ∀ i, i < 8 → nI a ||| ((1 : Int32) <<< (nI i &&& 31)) = nI (a ||| 2 ^ i) ∧ a ||| 2 ^ i < 256 := by decide +kernel
theorem and_b : ∀ a, a < 256 → ∀ i, i < 8 → nI a &&& (((1 : Int32) <<< (nI i &&& 31)) ^^^ (-1 : Int32)) = nI (a &&& (255 - 2 ^ i)) ∧ a &&& (255 - 2 ^ i) < 256 := by decide +kernel
def pcn (a : Nat) : Nat := ((S_J6_bitCount_0f7a4 (nI a)).getD 0).toNatClampNeg
theorem pc_h : ∀ a, a < 256 → S_J6_bitCount_0f7a4 (nI a) = some (nI (pcn a)) ∧ S_X7_many (nI a) = some (nI (pcn a)) ∧ pcn a ≤ 8 := by decide +kernel
def stay (a i : Nat) : Int32 := (S_X0_stayingAheadOf (nI i) (nI a)).getD 0
theorem stay_h : ∀ a, a < 256 → ∀ i, i < 8 → S_X0_stayingAheadOf (nI i) (nI a) = some (stay a i) ∧ S_X7_many ((((1 : Int32) <<< (nI i &&& 31)) - (1 : Int32)) &&& (nI a ^^^ (-1 : Int32))) = some (stay a i) := by decide +kernel
