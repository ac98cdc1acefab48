/-! when the second till opens -/
def cK (row : Nat → Int32) (i : Nat) : Nat := (row (4 + 3 * i)).toNatClampNeg
def cT (row : Nat → Int32) (i : Nat) : Nat := (row (5 + 3 * i)).toNatClampNeg
def cF (row : Nat → Int32) (i : Nat) : Nat := (row (6 + 3 * i)).toNatClampNeg
theorem RR.natR {n V U D : Nat} {kd th ft row : Nat → Int32} (hn : n ≤ 8) (hV : V ≤ 9) (hU : U ≤ 9) (hD : D ≤ 20) (h : RR (nI n) (nI V) (nI U) (nI D) kd th ft row) :
    NR n V U D (cK row) (cT row) (cF row) ∧ ShN n V U D (cK row) (cT row) (cF row) (nI n) (nI V) (nI U) (nI D) kd th ft ∧ RoN n V U D (cK row) (cT row) (cF row) row := by
  obtain ⟨n2, V2, U2, D2, K2, T2, F2, hN, hS, hO⟩ := h.nat
  obtain ⟨b1, b2, b3, b4, b5, b6, b7⟩ := id hN
  obtain ⟨s1, s2, s3, s4, s5⟩ := hS
  obtain rfl := (n_eq (by omega) (by omega)).mp s1
  obtain rfl := (n_eq (by omega) (by omega)).mp s2
  obtain rfl := (n_eq (by omega) (by omega)).mp s3
  obtain rfl := (n_eq (by omega) (by omega)).mp s4
  obtain ⟨r0, r1, r2, r3, r4⟩ := hO
  have e : ∀ i, i < n → cK row i = K2 i ∧ cT row i = T2 i ∧ cF row i = F2 i := fun i hi => by
    obtain ⟨a, b, c⟩ := r4 i hi
    obtain ⟨d1, d2, d3, d4, d5⟩ := b7 i hi
    unfold cK cT cF
    rw [a, b, c, nI_clamp (by omega), nI_clamp (by omega), nI_clamp (by omega)]
    exact ⟨rfl, rfl, rfl⟩
  refine ⟨⟨b1, b2, b3, b4, b5, b6, fun i hi => ?_⟩, ⟨rfl, rfl, rfl, rfl, fun i hi => ?_⟩, ⟨r0, r1, r2, r3, fun i hi => ?_⟩⟩
  · obtain ⟨a, b, c⟩ := e i hi
    rw [a, b, c]; exact b7 i hi
  · obtain ⟨a, b, c⟩ := e i hi
    rw [a, b, c]; exact s5 i hi
  · obtain ⟨a, b, c⟩ := e i hi
    rw [a, b, c]; exact r4 i hi
theorem RR.natR2 {n V U D : Nat} {kd th ft row row2 : Nat → Int32} (hn : n ≤ 8) (hV : V ≤ 9) (hU : U ≤ 9) (hD : D ≤ 20) (h : RR (nI n) (nI V) (nI U) (nI D) kd th ft row) (h2 : RR (nI n) (nI V) (nI U) (nI D) kd th ft row2) : RoN n V U D (cK row) (cT row) (cF row) row2 := by
  obtain ⟨-, s, -⟩ := h.natR hn hV hU hD
  obtain ⟨-, s', o'⟩ := h2.natR hn hV hU hD
  refine ⟨o'.1, o'.2.1, o'.2.2.1, o'.2.2.2.1, fun i hi => ?_⟩
  obtain ⟨a, b, c⟩ := s.2.2.2.2 i hi
  obtain ⟨a', b', c'⟩ := s'.2.2.2.2 i hi
  obtain ⟨a2, b2, c2⟩ := o'.2.2.2.2 i hi
  exact ⟨by rw [a2, ← a', a], by rw [b2, ← b', b], by rw [c2, ← c', c]⟩
theorem gb_eq {a : Nat → Int32} {V t : Nat} (h1 : a 1 = nI V) (hV : 1 ≤ V) (hV2 : V ≤ 9) (ht : t ≤ 30) (e : t / V = (t - 1) / V) : S_X7_goesBy (nI t) a = S_X7_goesBy (nI (t - 1)) a := by
  unfold S_X7_goesBy
  rw [h1, if_neg (nI_ne0 (by omega) (by omega)), if_neg (nI_ne0 (by omega) (by omega)), pk_div (by omega) (by omega) (by omega), pk_div (by omega) (by omega) (by omega), e]
/-- those gone, the row behind, and the least seconds of those who are left -/
def gR (a : Nat → Int32) (t : Nat) : Nat → Int32 := ((S_X7_goesBy (nI t) a).getD (0, a)).2
def gJ (a : Nat → Int32) (t : Nat) : Nat := ((S_X7_goesBy (nI t) a).getD (0, a)).1.toNatClampNeg
def gL (n V U D : Nat) (a : Nat → Int32) (t : Nat) : Nat := (BF 1 (n - gJ a t) V U D (cT (gR a t)) (cF (gR a t))).2
theorem gL_eq {a : Nat → Int32} {n V U D t : Nat} (h1 : a 1 = nI V) (hV : 1 ≤ V) (hV2 : V ≤ 9) (ht : t ≤ 30) (e : t / V = (t - 1) / V) : gL n V U D a t = gL n V U D a (t - 1) := by
  unfold gL gJ gR
  rw [gb_eq h1 hV hV2 ht e]
/-- one step of both: who has gone by t, and the least of the rest -/
theorem gb_h {n V U D t : Nat} {kd0 th0 ft0 kS tS fS a row : Nat → Int32} (hn : n ≤ 8) (hV1 : 1 ≤ V) (hV : V ≤ 9) (hU : U ≤ 9) (hD : D ≤ 20) (ht : t ≤ 30) (hA : RR (nI n) (nI V) (nI U) (nI D) kd0 th0 ft0 a) (hk : ∀ j, j < 8 → kS j = kd0 j ∧ tS j = th0 j ∧ fS j = ft0 j) (hrow : ∀ k, k < 28 → row k = a k) :
    gJ a t ≤ n ∧ ∃ t2 k2 w2 row2, S_X3_letGoBy (nI t) (nI n) (nI V) tS kS fS = some (nI (gJ a t), nI (n - gJ a t), t2, k2, w2) ∧ S_X7_goesBy (nI t) row = some (nI (gJ a t), row2) ∧
      NR (n - gJ a t) V U D (cK (gR a t)) (cT (gR a t)) (cF (gR a t)) ∧ ShN (n - gJ a t) V U D (cK (gR a t)) (cT (gR a t)) (cF (gR a t)) (nI (n - gJ a t)) (nI V) (nI U) (nI D) k2 t2 w2 ∧ RoN (n - gJ a t) V U D (cK (gR a t)) (cT (gR a t)) (cF (gR a t)) row2 := by
  obtain ⟨j, n', t', k', w', rowA, g0, g1, g2, g3⟩ := lg_h (t := t) hn hV1 hV (by omega) (hA.congr hk (fun _ _ => rfl))
  obtain ⟨j', n'', t'', k'', w'', rowB, p0, p1, p2, p3⟩ := lg_h (t := t) hn hV1 hV (by omega) (hA.congr hk hrow)
  rw [g1] at p1
  simp only [Option.some.injEq, Prod.mk.injEq] at p1
  obtain ⟨q1, q2, rfl, rfl, rfl⟩ := p1
  obtain rfl := (n_eq (by omega) (by omega)).mp q1
  obtain rfl : n'' = n' := by omega
  have ej : gJ a t = j := by unfold gJ; rw [g2]; exact nI_clamp (by omega)
  have er : gR a t = rowA := by unfold gR; rw [g2]; rfl
  have en : n - j = n'' := by omega
  rw [ej, er, en]
  obtain ⟨x1, x2, x3⟩ := g3.natR (by omega) hV hU hD
  exact ⟨by omega, t', k', w', rowB, g1, p2, x1, x2, g3.natR2 (by omega) hV hU hD p3⟩
theorem o66_loop {n V U D j t c : Nat} {K T F : Nat → Nat} {rc : Int32 → Int32 → Int32 → Int32 → Int32 → (Nat → Int32) → (Nat → Int32) → (Nat → Int32) → Option (Int32 × Int32 × Int32 × (Nat → Int32) × (Nat → Int32) × (Nat → Int32) × (Nat → Int32))} {i3 i4 aw bs : Int32} {row2 a od dn : Nat → Int32} (hO : RoN n V U D K T F a) (hn : n ≤ 8) (hj : j ≤ n) (h1 : row2 1 = nI V) :
    ∀ (m q f : Nat), q + m = j → m < f → ∃ f', S_X7_open_L66 rc i3 i4 (nI t) (nI j) aw bs row2 a od dn f (nI (c + sumN (RI V T 0) q)) (nI (sumS 0 T q)) (nI q) = S_X7_open_L66 rc i3 i4 (nI t) (nI j) aw bs row2 a od dn (f' + 1) (nI (c + sumN (RI V T 0) j)) (nI (sumS 0 T j)) (nI j) := by
  intro m
  induction m with
  | zero =>
    intro q f hq hf
    obtain ⟨f, rfl⟩ : ∃ z, f = z + 1 := ⟨f - 1, by omega⟩
    obtain rfl : q = j := by omega
    exact ⟨f, rfl⟩
  | succ m ih =>
    intro q f hq hf
    obtain ⟨f, rfl⟩ : ∃ z, f = z + 1 := ⟨f - 1, by omega⟩
    obtain ⟨f', h2⟩ := ih (q + 1) f (by omega) (by omega)
    refine ⟨f', ?_⟩
    rw [← h2, S_X7_open_L66, if_neg (nI_ge (by omega) (by omega)), i5, if_neg (nin' (by omega) (by omega)), nI_clamp (by omega), (hO.2.2.2.2 q (by omega)).2.1, nI_add, nI_1, h1]
    unfold nm
    dsimp only
    rw [pk_mul, nI_add]
    have e1 : sumS 0 T q + T q = sumS 0 T (q + 1) := by simp only [sumS, Nat.zero_testBit]; rfl
    have e2 : c + sumN (RI V T 0) q + (sumS 0 T q + T q) * V = c + sumN (RI V T 0) (q + 1) := by
      simp only [sumN, RI]
      rw [Nat.mul_comm, Nat.add_assoc]
    rw [e2, e1]
def oC (n V U D w : Nat) (T : Nat → Nat) (a : Nat → Int32) (t : Nat) : Nat := sumN (RI V T 0) (gJ a t) + t * (n - gJ a t) + gL n V U D a t + w * (30 - t)
theorem op_loop {n V U D w : Nat} {K T F : Nat → Nat} {kd0 th0 ft0 a : Nat → Int32} (h : NR n V U D K T F) (hO : RoN n V U D K T F a) (hA : RR (nI n) (nI V) (nI U) (nI D) kd0 th0 ft0 a) (hw : w ≤ 20) (i2 ca : Int32) (ck cw cf cs co : Nat → Int32) {cr : Nat → Int32} (hcr : ∀ i, i < n → cr i = nI (RI V T 0 i)) :
    ∀ (m t f g : Nat), t + m = 31 → m < f → m < g → ∀ (i3 ic ir : Int32), ((t = 0 ∧ ir = -1) ∨ (1 ≤ t ∧ ∃ c, c ≤ 1000000 ∧ ic = nI c ∧ ir = nI c)) → ∀ (p1 p2 p3 p4 : Int32) (kS tS fS : Nat → Int32) (ss sl tp ta : Int32) (tk tw tf ts to tr : Nat → Int32), (1 ≤ t → sl = nI (gL n V U D a (t - 1))) → ∀ (aw bs : Int32) (row od dn : Nat → Int32), (∀ k, k < 28 → row k = a k) →
    ∃ r p1' p2' p3' p4' kS' tS' fS' ss' sl' tp' ta' tk' tw' tf' ts' to' tr' aw' bs' row' od' dn',
      S_X6_open_L48 (nI w) i2 (nI n) ca ck cw cf cs co cr (nI n) (nI V) (nI U) (nI D) kd0 ft0 th0 f i3 ic (nI t) p1 p2 p3 p4 kS tS fS ss sl tp ta tk tw tf ts to tr = some (r, nI n, ca, ck, cw, cf, cs, co, cr, p1', p2', p3', p4', kS', tS', fS', ss', sl', tp', ta', tk', tw', tf', ts', to', tr') ∧
      S_X7_open_L36 (nI w) i2 a g i3 ir (nI t) aw bs row od dn = some (r, aw', bs', row', a, od', dn') ∧ ∀ k, k < 28 → row' k = a k := by
  obtain ⟨h8, hV1, hV, hU1, hU, hD, hp⟩ := id h
  intro m
  induction m with
  | zero =>
    intro t f g ht hf hg i3 ic ir hi p1 p2 p3 p4 kS tS fS ss sl tp ta tk tw tf ts to tr hsl aw bs row od dn hrow
    obtain ⟨f, rfl⟩ : ∃ z, f = z + 1 := ⟨f - 1, by omega⟩
    obtain ⟨g, rfl⟩ : ∃ z, g = z + 1 := ⟨g - 1, by omega⟩
    obtain rfl : t = 31 := by omega
    have e : ic = ir := by
      rcases hi with ⟨q, -⟩ | ⟨-, c, -, q1, q2⟩
      · omega
      · rw [q1, q2]
    subst e
    rw [S_X6_open_L48, S_X7_open_L36, if_pos (show (30 : Int32) < nI 31 by decide), if_pos (show (31 : Int32) ≤ nI 31 by decide)]
    by_cases c : i2 = 0
    · rw [if_pos c, if_pos c]
      exact ⟨_, _, _, _, _, _, _, _, _, _, _, _, _, _, _, _, _, _, _, _, _, _, _, rfl, rfl, hrow⟩
    · rw [if_neg c, if_neg c]
      exact ⟨_, _, _, _, _, _, _, _, _, _, _, _, _, _, _, _, _, _, _, _, _, _, _, rfl, rfl, hrow⟩
  | succ m ih =>
    intro t f g ht hf hg i3 ic ir hi p1 p2 p3 p4 kS tS fS ss sl tp ta tk tw tf ts to tr hsl aw bs row od dn hrow
    obtain ⟨f, rfl⟩ : ∃ z, f = z + 1 := ⟨f - 1, by omega⟩
    obtain ⟨g, rfl⟩ : ∃ z, g = z + 1 := ⟨g - 1, by omega⟩
    obtain ⟨k', t', f', l1, l2⟩ := like_h (nI n) (nI V) (nI U) (nI D) kd0 th0 ft0 kS tS fS
    obtain ⟨hj, t2, k2, w2, row2, b1, b2, b3, b4, b5⟩ := gb_h (t := t) h8 hV1 hV hU hD (by omega) hA l2 hrow
    have hsum := soh_h (R := RI V T 0) h8 hj hcr
    have bS := sumN_b (R := RI V T 0) (B := 1440) (gJ a t) (fun i hi => RI_b h 0 (by omega))
    have bL : gL n V U D a t ≤ 16000 := (BS_b b3 1 _).1
    have bC : oC n V U D w T a t ≤ 1000000 := by
      have x1 : t * (n - gJ a t) ≤ 30 * 8 := Nat.mul_le_mul (by omega) (by omega)
      have x2 : w * (30 - t) ≤ 20 * 30 := Nat.mul_le_mul hw (by omega)
      unfold oC; omega
    have e30 : nI w * ((30 : Int32) - nI t) = nI (w * (30 - t)) := by rw [show (30 : Int32) = nI 30 from rfl, pk_sub (by omega), pk_mul]
    have cls : ∃ ss' tp' ta' tk' tw' tf' ts' to' tr', S_X6_secondsIfOpenedBehind (nI t) (nI n) (nI V) (nI U) (nI D) kd0 kS th0 tS ft0 fS ss sl tp ta tk tw tf ts to tr (nI n) cr
        = some (nI (sumN (RI V T 0) (gJ a t) + t * (n - gJ a t) + gL n V U D a t), nI (n - gJ a t), nI V, nI U, nI D, k2, t2, w2, ss', nI (gL n V U D a t), tp', ta', tk', tw', tf', ts', to', tr') := by
      obtain ⟨aw1, kd1, wk1, fs1, sc1, od1, x1, z1⟩ := fl_h b3 b4 (A := 1) (by omega) tk tw tf ts to tr
      rw [show nI 1 = (1 : Int32) from rfl] at z1
      unfold S_X6_secondsIfOpenedBehind jn
      rw [l1, Option.bind_some]
      dsimp only
      rw [b1, Option.bind_some]
      dsimp only
      rw [z1, hsum, Option.bind_some, Option.bind_some, Option.bind_some]
      dsimp only
      rw [pk_mul, nI_add, nI_add]
      by_cases c0 : t = 0
      · subst c0
        rw [if_pos (show nI 0 = 0 from rfl)]
        exact ⟨_, _, _, _, _, _, _, _, _, rfl⟩
      · rw [if_neg (nI_ne0 (by omega) (by omega)), through hV1 hV (by omega), show nI t - 1 = nI (t - 1) from by rw [show (1 : Int32) = nI 1 from rfl, pk_sub (by omega)], through hV1 hV (by omega), Option.bind_some, Option.bind_some]
        by_cases c1 : t / V = (t - 1) / V
        · rw [if_pos (by rw [c1]), hsl (by omega), ← gL_eq hO.2.1 hV1 hV (by omega) c1, nI_add]
          exact ⟨_, _, _, _, _, _, _, _, _, rfl⟩
        · have d1 : t / V ≤ t := Nat.div_le_self _ _
          have d2 : (t - 1) / V ≤ t - 1 := Nat.div_le_self _ _
          rw [if_neg (fun q => c1 ((n_eq (by omega) (by omega)).mp q))]
          exact ⟨_, _, _, _, _, _, _, _, _, rfl⟩
    obtain ⟨ss', tp', ta', tk', tw', tf', ts', to', tr', cls⟩ := cls
    obtain ⟨m1, m2, m3, lo⟩ := lo_h b3 b5 (A := 1) (by omega) aw bs od dn
    rw [show a7 1 = (1 : Int32) from rfl, show b7 1 = (0 : Int32) from rfl] at lo
    obtain ⟨rowB, bk1, bk2⟩ := bk_h a row2
    obtain ⟨f9, l66⟩ := o66_loop (t := t) (c := w * (30 - t)) (rc := S_X7_open_L36 (nI w) i2 a g) (i3 := i3) (i4 := ir) (aw := aw) (bs := bs) (row2 := row2) (od := od) (dn := dn) hO h8 hj b5.2.1 (gJ a t) 0 300 (by omega) (by omega)
    simp only [sumN, sumS, Nat.add_zero, nI_0] at l66
    have ref : S_X7_open_L36 (nI w) i2 a (g + 1) i3 ir (nI t) aw bs row od dn = if ir < 0 then S_X7_open_L36 (nI w) i2 a g (nI t) (nI (oC n V U D w T a t)) (nI (t + 1)) m1 (nI (BF 1 (n - gJ a t) V U D (cT (gR a t)) (cF (gR a t))).1) rowB m2 m3 else if ir ≤ nI (oC n V U D w T a t) then S_X7_open_L36 (nI w) i2 a g i3 ir (nI (t + 1)) m1 (nI (BF 1 (n - gJ a t) V U D (cT (gR a t)) (cF (gR a t))).1) rowB m2 m3 else S_X7_open_L36 (nI w) i2 a g (nI t) (nI (oC n V U D w T a t)) (nI (t + 1)) m1 (nI (BF 1 (n - gJ a t) V U D (cT (gR a t)) (cF (gR a t))).1) rowB m2 m3 := by
      have nle : ¬ (31 : Int32) ≤ nI t := (nI_ge (by omega) (by omega) : ¬ nI 31 ≤ nI t)
      rw [S_X7_open_L36, if_neg nle, b2, Option.bind_some]
      dsimp only
      rw [e30, l66, S_X7_open_L66, if_pos (nI_rf _), lo, Option.bind_some]
      dsimp only
      rw [bk1, Option.bind_some]
      unfold jn
      dsimp only
      have tot : nI (w * (30 - t) + sumN (RI V T 0) (gJ a t)) + (nI t * row2 0 + nI (BF 1 (n - gJ a t) V U D (cT (gR a t)) (cF (gR a t))).2) = nI (oC n V U D w T a t) := by
        rw [b5.1, pk_mul, nI_add, nI_add]
        congr 1
        unfold oC gL
        omega
      rw [tot, nI_1]
      by_cases c : ir < 0
      · rw [if_pos c, if_pos c, if_pos c]
      · rw [if_neg c, if_neg c, if_neg c, if_neg c]
        by_cases c2 : ir ≤ nI (oC n V U D w T a t)
        · rw [if_pos c2, if_pos c2, if_pos c2]
        · rw [if_neg c2, if_neg c2, if_neg c2]
    have nlt : ¬ (30 : Int32) < nI t := (nI_nlt (by omega) (by omega) : ¬ nI 30 < nI t)
    rw [ref, S_X6_open_L48, if_neg nlt, cls, Option.bind_some]
    unfold jn
    dsimp only
    have tot2 : nI (sumN (RI V T 0) (gJ a t) + t * (n - gJ a t) + gL n V U D a t) + nI w * ((30 : Int32) - nI t) = nI (oC n V U D w T a t) := by rw [e30, nI_add]; rfl
    rw [tot2, nI_1]
    have next := fun i3' ic' ir' hi' => ih (t + 1) f g (by omega) (by omega) (by omega) i3' ic' ir' hi' (nI (n - gJ a t)) (nI V) (nI U) (nI D) k2 t2 w2 ss' (nI (gL n V U D a t)) tp' ta' tk' tw' tf' ts' to' tr' (fun _ => rfl) m1 (nI (BF 1 (n - gJ a t) V U D (cT (gR a t)) (cF (gR a t))).1) rowB m2 m3 bk2
    rcases hi with ⟨q1, q2⟩ | ⟨q1, c, q2, q3, q4⟩
    · subst q1
      subst q2
      rw [if_pos (show nI 0 = 0 from rfl), if_pos (show (-1 : Int32) < 0 by decide)]
      exact next _ _ _ (Or.inr ⟨by omega, _, bC, rfl, rfl⟩)
    · subst q3
      subst q4
      rw [if_neg (nI_ne0 (by omega) (by omega)), if_neg (nI_pos (by omega))]
      by_cases c2 : nI c ≤ nI (oC n V U D w T a t)
      · rw [if_pos c2, if_pos c2]
        exact next _ _ _ (Or.inr ⟨by omega, c, q2, rfl, rfl⟩)
      · rw [if_neg c2, if_neg c2]
        exact next _ _ _ (Or.inr ⟨by omega, _, bC, rfl, rfl⟩)
