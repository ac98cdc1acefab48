/-! the whole text -/
theorem it_h {t : Nat} {C : Nat → Nat} {lt mt : Nat → Int32} (h : TX t C lt mt) {p i f : Nat} (hp : p < t) (hi : i ≤ p) {pp fp sp st : Int32} {kd th ft read : Nat → Int32} (nu : Nat → Int32) (hR : RR pp fp sp st kd th ft read) :
    (∃ (c1 c2 c3 c4 : Int32) (c5 c6 c7 c8 : Nat → Int32) (at' : Int32) (rd' : Nat → Int32), S_X5_readInto_L8 (nI t) lt (f + 1) (nI p) (nI i) pp fp sp st nu kd th ft = some (nI p, c1, c2, c3, c4, c5, c6, c7, c8) ∧ S_X7_item (nI t) (nI p) mt read = some (0, at', rd')) ∨
    (∃ (q : Nat) (c1 c2 c3 c4 : Int32) (c5 c6 c7 c8 rd' : Nat → Int32), p < q ∧ q ≤ t ∧ S_X5_readInto_L8 (nI t) lt (f + 1) (nI p) (nI i) pp fp sp st nu kd th ft = S_X5_readInto_L8 (nI t) lt f (nI q) (nI (i + 1)) c1 c2 c3 c4 c5 c6 c7 c8 ∧ S_X7_item (nI t) (nI p) mt read = some (1, nI q, rd') ∧ RR c1 c2 c3 c4 c6 c7 c8 rd') := by
  have ht := h.1
  obtain ⟨n, hV, r0, -⟩ := id hR
  have hn := hV.1
  have hpp := hV.2.1
  subst hpp
  have E := ei_h h (p := p) (by omega) nu
  obtain ⟨p2, e2⟩ : ∃ z, enN t C (p + 1) + 1 = z := ⟨_, rfl⟩
  obtain ⟨p3, e3⟩ : ∃ z, enN t C p2 + 1 = z := ⟨_, rfl⟩
  obtain ⟨p4, e4⟩ : ∃ z, enN t C p3 + 1 = z := ⟨_, rfl⟩
  have b1 := enN_b t C (p + 1)
  have b2 := enN_b t C p2
  have b3 := enN_b t C p3
  by_cases a : chN t C p = 112
  · rw [if_pos a] at E
    obtain ⟨i1, i2⟩ := ip_h h hp hn a e2 e3 e4 r0
    by_cases P : n < 8 ∧ (nuN t C (p + 1) 44 ∧ 0 ≤ vlN t C (p + 1) ∧ vlN t C (p + 1) ≤ 3) ∧ (nuN t C p2 44 ∧ 1 ≤ vlN t C p2 ∧ vlN t C p2 ≤ 20) ∧ (nuN t C p3 59 ∧ 1 ≤ vlN t C p3 ∧ vlN t C p3 ≤ 9)
    · right
      obtain ⟨hn8, q1, q2, q3⟩ := id P
      have E' := E.trans (c3y h (by omega) e2 e3 e4 _ _ q1.1 q2.1 q3.1)
      have T := te_p (n := n) nu fp sp st kd th ft (Or.inr rfl) (app3 hn8 q1.2.2 q2.2.1 q2.2.2 q3.2.1 q3.2.2 kd th ft)
      rw [← a] at T
      have l := nu_t (by omega) q3.1
      exact ⟨p4, _, _, _, _, _, _, _, _, _, by omega, by omega, cl_1 h hp hi (by omega) (by omega) E' T, i1 P, (RR_app hR hn8 q1.2.2 q2.2.1 q2.2.2 q3.2.1 q3.2.2).2⟩
    · left
      obtain ⟨at', rd', w⟩ := i2 P
      by_cases N : nuN t C (p + 1) 44 ∧ nuN t C p2 44 ∧ nuN t C p3 59
      · have E' := E.trans (c3y h (by omega) e2 e3 e4 _ _ N.1 N.2.1 N.2.2)
        have T := te_p (n := n) nu fp sp st kd th ft (Or.inl rfl) (app0 hn (vl_b N.1.1) (vl_b N.2.1.1) (vl_b N.2.2.1) (fun z => P ⟨z.1, ⟨N.1, z.2.1⟩, ⟨N.2.1, z.2.2.1⟩, ⟨N.2.2, z.2.2.2⟩⟩) kd th ft)
        rw [← a] at T
        exact ⟨_, _, _, _, _, _, _, _, _, _, cl_0 h hp hi (by omega) (by omega) E' T, w⟩
      · obtain ⟨nu', z⟩ := c3n (g := 296) h (by omega) e2 e3 (nI p) nu N
        exact ⟨_, _, _, _, _, _, _, _, _, _, cl_f h hp hi (E.trans z), w⟩
  · rw [if_neg a] at E
    by_cases b : chN t C p = 115
    · rw [if_pos b] at E
      obtain ⟨i1, i2⟩ := is_h h hp b e2 e3 read
      by_cases P : (nuN t C (p + 1) 44 ∧ 1 ≤ vlN t C (p + 1) ∧ vlN t C (p + 1) ≤ 9) ∧ (nuN t C p2 59 ∧ 1 ≤ vlN t C p2 ∧ vlN t C p2 ≤ 9)
      · right
        obtain ⟨q1, q2⟩ := id P
        have E' := E.trans (c2y h (by omega) e2 e3 _ _ q1.1 q2.1)
        have T := te_s (vl_b q1.1.1) (vl_b q2.1.1) nu (nI n) fp sp st kd th ft
        rw [if_pos ⟨q1.2, q2.2⟩, ← b] at T
        have l := nu_t (by omega) q2.1
        exact ⟨p3, _, _, _, _, _, _, _, _, _, by omega, by omega, cl_1 h hp hi (by omega) (by omega) E' T, i1 P, RR_pace hR q1.2 q2.2⟩
      · left
        obtain ⟨at', rd', w⟩ := i2 P
        by_cases N : nuN t C (p + 1) 44 ∧ nuN t C p2 59
        · have E' := E.trans (c2y h (by omega) e2 e3 _ _ N.1 N.2)
          have T := te_s (vl_b N.1.1) (vl_b N.2.1) nu (nI n) fp sp st kd th ft
          rw [if_neg (fun z => P ⟨⟨N.1, z.1⟩, ⟨N.2, z.2⟩⟩), ← b] at T
          exact ⟨_, _, _, _, _, _, _, _, _, _, cl_0 h hp hi (by omega) (by omega) E' T, w⟩
        · obtain ⟨nu', z⟩ := c2n (g := 296) h (by omega) e2 (nI p) nu N
          exact ⟨_, _, _, _, _, _, _, _, _, _, cl_f h hp hi (E.trans z), w⟩
    · rw [if_neg b] at E
      by_cases c : chN t C p = 100
      · rw [if_pos c] at E
        obtain ⟨i1, i2⟩ := id_h h hp c e2 read
        by_cases P : nuN t C (p + 1) 59 ∧ 0 ≤ vlN t C (p + 1) ∧ vlN t C (p + 1) ≤ 20
        · right
          have E' := E.trans (c1y h (by omega) e2 _ _ P.1)
          have T := te_d (vl_b P.1.1) nu (nI n) fp sp st kd th ft
          rw [if_pos P.2, ← c] at T
          have l := nu_t (by omega) P.1
          exact ⟨p2, _, _, _, _, _, _, _, _, _, by omega, by omega, cl_1 h hp hi (by omega) (by omega) E' T, i1 P, RR_step hR P.2.2⟩
        · left
          obtain ⟨at', rd', w⟩ := i2 P
          by_cases N : nuN t C (p + 1) 59
          · have E' := E.trans (c1y h (by omega) e2 _ _ N)
            have T := te_d (vl_b N.1) nu (nI n) fp sp st kd th ft
            rw [if_neg (fun z => P ⟨N, z⟩), ← c] at T
            exact ⟨_, _, _, _, _, _, _, _, _, _, cl_0 h hp hi (by omega) (by omega) E' T, w⟩
          · obtain ⟨nu', z⟩ := c1n (g := 296) h (by omega) (nI p) nu N
            exact ⟨_, _, _, _, _, _, _, _, _, _, cl_f h hp hi (E.trans z), w⟩
      · rw [if_neg c] at E
        left
        have hb := chN_b h p
        have e0 : mt p = nI (chN t C p) := by unfold chN; rw [if_pos hp]; exact (h.2 p hp).2.2
        refine ⟨_, _, _, _, _, _, _, _, nI p + 1, read, cl_f h hp hi E, ?_⟩
        unfold S_X7_item
        rw [if_neg (nin' (by omega) (by omega)), nI_clamp (by omega), e0, if_neg (show ¬ nI (chN t C p) = (112 : Int32) from fun q => a ((n_eq (b := 112) (by omega) (by omega)).mp q)), if_neg (show ¬ nI (chN t C p) = (115 : Int32) from fun q => b ((n_eq (b := 115) (by omega) (by omega)).mp q)), if_neg (show ¬ nI (chN t C p) = (100 : Int32) from fun q => c ((n_eq (b := 100) (by omega) (by omega)).mp q))]
theorem nI_nm4 {j : Nat} (h : j < 2 ^ 31) : ¬ nI j = (-4 : Int32) := fun q => by
  have := congrArg Int32.toInt q
  rw [nI_toInt h] at this
  have e : (-4 : Int32).toInt = -4 := by decide
  omega
theorem rd_loop {t : Nat} {C : Nat → Nat} {lt mt : Nat → Int32} (h : TX t C lt mt) : ∀ (m p i f g : Nat), t ≤ p + m → p ≤ t → i ≤ p → m < f → m < g → ∀ (pp fp sp st : Int32) (nu kd th ft read : Nat → Int32), RR pp fp sp st kd th ft read →
    ∃ (r c1 c2 c3 c4 : Int32) (c5 c6 c7 c8 : Nat → Int32) (at' : Int32) (rd' : Nat → Int32), S_X5_readInto_L8 (nI t) lt f (nI p) (nI i) pp fp sp st nu kd th ft = some (r, c1, c2, c3, c4, c5, c6, c7, c8) ∧ S_X7_fault_L39 (nI t) mt g (nI p) read = some (r, at', rd') ∧ (r = -4 → RR c1 c2 c3 c4 c6 c7 c8 rd') := by
  have ht := h.1
  intro m
  induction m with
  | zero =>
    intro p i f g hm hpt hi hf hg pp fp sp st nu kd th ft read hR
    obtain ⟨f, rfl⟩ : ∃ z, f = z + 1 := ⟨f - 1, by omega⟩
    obtain ⟨g, rfl⟩ : ∃ z, g = z + 1 := ⟨g - 1, by omega⟩
    obtain rfl : p = t := by omega
    rw [S_X5_readInto_L8, S_X7_fault_L39, if_pos (nI_rf p), if_pos (nI_rf p), ite_self]
    exact ⟨_, _, _, _, _, _, _, _, _, _, _, rfl, rfl, fun _ => hR⟩
  | succ m ih =>
    intro p i f g hm hpt hi hf hg pp fp sp st nu kd th ft read hR
    obtain ⟨f, rfl⟩ : ∃ z, f = z + 1 := ⟨f - 1, by omega⟩
    obtain ⟨g, rfl⟩ : ∃ z, g = z + 1 := ⟨g - 1, by omega⟩
    by_cases c : p = t
    · subst c
      rw [S_X5_readInto_L8, S_X7_fault_L39, if_pos (nI_rf p), if_pos (nI_rf p), ite_self]
      exact ⟨_, _, _, _, _, _, _, _, _, _, _, rfl, rfl, fun _ => hR⟩
    · rw [S_X7_fault_L39, if_neg (nI_ge (show p < t by omega) (by omega))]
      rcases it_h (f := f) h (show p < t by omega) hi nu hR with ⟨c1, c2, c3, c4, c5, c6, c7, c8, at', rd', q1, q2⟩ | ⟨q, c1, c2, c3, c4, c5, c6, c7, c8, rd', l1, l2, q1, q2, q3⟩
      · rw [q1, q2, Option.bind_some]
        exact ⟨_, _, _, _, _, _, _, _, _, _, _, rfl, rfl, fun z => absurd z (nI_nm4 (by omega))⟩
      · rw [q1, q2, Option.bind_some]
        dsimp only
        rw [if_neg one_ne]
        exact ih q (i + 1) f g (by omega) l2 (by omega) (by omega) (by omega) _ _ _ _ _ _ _ _ _ q3
theorem f2_loop (len : Int32) (mt : Nat → Int32) : ∀ (m k f : Nat), k + m = 28 → m < f → ∀ (rd : Nat → Int32), ∃ rd', S_X7_fault_L2 len mt f (nI k) rd = S_X7_fault_L39 len mt 300 0 rd' ∧ ∀ j, j < 28 → rd' j = if j < k then rd j else if 1 ≤ j ∧ j < 4 then 2 else 0 := by
  intro m
  induction m with
  | zero =>
    intro k f hk hf rd
    obtain ⟨f, rfl⟩ : ∃ z, f = z + 1 := ⟨f - 1, by omega⟩
    obtain rfl : k = 28 := by omega
    rw [S_X7_fault_L2, if_pos (show (28 : Int32) ≤ nI 28 by decide)]
    exact ⟨rd, rfl, fun j hj => by rw [if_pos hj]⟩
  | succ m ih =>
    intro k f hk hf rd
    obtain ⟨f, rfl⟩ : ∃ z, f = z + 1 := ⟨f - 1, by omega⟩
    have key : ∀ v, v = (if 1 ≤ k ∧ k < 4 then (2 : Int32) else 0) → ∃ rd', S_X7_fault_L2 len mt f (nI (k + 1)) (upd rd k v) = S_X7_fault_L39 len mt 300 0 rd' ∧ ∀ j, j < 28 → rd' j = if j < k then rd j else if 1 ≤ j ∧ j < 4 then 2 else 0 := fun v hv => by
      obtain ⟨rd', g1, g2⟩ := ih (k + 1) f (by omega) (by omega) (upd rd k v)
      refine ⟨rd', g1, fun j hj => ?_⟩
      rw [g2 j hj]
      by_cases e : j = k
      · subst e; rw [if_pos (by omega), if_neg (by omega), pk_us, hv]
      · by_cases e2 : j < k
        · rw [if_pos (by omega), if_pos e2, pk_un e]
        · rw [if_neg (by omega), if_neg e2]
    rw [S_X7_fault_L2, if_neg (show ¬ (28 : Int32) ≤ nI k from (nI_ge (by omega) (by omega) : ¬ nI 28 ≤ nI k))]
    unfold jn
    dsimp only
    have hi := nin (n := k) (N := 28) (by omega) (by omega)
    simp only [nI_clamp (show k < 2 ^ 31 by omega), hi, ↓reduceIte, nI_1]
    by_cases c1 : k = 0
    · subst c1
      rw [if_pos (show nI 0 ≤ 0 by decide)]
      exact key 0 (by rw [if_neg (by omega)])
    · rw [if_neg (show ¬ nI k ≤ (0 : Int32) from nI_nle (by omega) (by omega))]
      by_cases c2 : 4 ≤ k
      · rw [if_pos (show (4 : Int32) ≤ nI k from (nI_le c2 (by omega) : nI 4 ≤ nI k))]
        exact key 0 (by rw [if_neg (by omega)])
      · rw [if_neg (show ¬ (4 : Int32) ≤ nI k from (nI_ge (by omega) (by omega) : ¬ nI 4 ≤ nI k))]
        exact key 2 (by rw [if_pos (by omega)])
theorem fa_h {len mlen : Int32} {lt mt : Nat → Int32} (hT : TextR len lt mlen mt) (nu kd th ft rd : Nat → Int32) :
    ∃ (r c1 c2 c3 c4 : Int32) (c5 c6 c7 c8 : Nat → Int32) (at' : Int32) (rd' : Nat → Int32), S_X5_readInto len lt nu kd th ft = some (r, c1, c2, c3, c4, c5, c6, c7, c8) ∧ S_X7_fault mlen rd mt = some (r, at', rd') ∧ (r = -4 → RR c1 c2 c3 c4 c6 c7 c8 rd') := by
  obtain ⟨t, t1, rfl, rfl, t4⟩ := hT
  have hX : TX t (fun j => (lt j).toNatClampNeg) lt mt := ⟨t1, fun j hj => by
    obtain ⟨c, c1, c2, c3, c4⟩ := t4 j hj
    show (lt j).toNatClampNeg < 60000 ∧ lt j = nI (lt j).toNatClampNeg ∧ mt j = nI (lt j).toNatClampNeg
    rw [c3, c4, nI_clamp (by omega)]
    exact ⟨by omega, rfl, rfl⟩⟩
  obtain ⟨rd0, g1, g2⟩ := f2_loop (nI t) mt 28 0 300 (by omega) (by omega) rd
  have hR : RR 0 2 2 2 kd th ft rd0 := by
    refine ⟨0, ⟨by omega, rfl, ⟨2, by omega, by omega, rfl⟩, ⟨2, by omega, by omega, rfl⟩, ⟨2, by omega, rfl⟩, fun i hi => absurd hi (by omega)⟩, ?_, ?_, ?_, ?_, fun i hi => absurd hi (by omega)⟩
    · rw [g2 0 (by omega), if_neg (by omega), if_neg (by omega)]
    · rw [g2 1 (by omega), if_neg (by omega), if_pos (by omega)]
    · rw [g2 2 (by omega), if_neg (by omega), if_pos (by omega)]
    · rw [g2 3 (by omega), if_neg (by omega), if_pos (by omega)]
  obtain ⟨r, c1, c2, c3, c4, c5, c6, c7, c8, at', rd', q1, q2, q3⟩ := rd_loop hX t 0 0 300 300 (by omega) (by omega) (by omega) (by omega) (by omega) 0 2 2 2 nu kd th ft rd0 hR
  rw [nI_0] at q1 q2 g1
  refine ⟨r, c1, c2, c3, c4, c5, c6, c7, c8, at', rd', ?_, ?_, q3⟩
  · unfold S_X5_readInto S_X3_becomeUntold
    rw [Option.bind_some]
    exact q1
  · unfold S_X7_fault
    rw [g1]
    exact q2
theorem ly_loop (a : Int32) (rd : Nat → Int32) : ∀ (m k f : Nat), k + m = 28 → m < f → ∀ (row : Nat → Int32), (∀ j, j < k → row j = rd j) → ∃ row', S_X7_lay_L23 a rd f (nI k) row = some (row' 0, a, 0, 0, 0, rd, row') ∧ ∀ j, j < 28 → row' j = rd j := by
  intro m
  induction m with
  | zero =>
    intro k f hk hf row hr
    obtain ⟨f, rfl⟩ : ∃ z, f = z + 1 := ⟨f - 1, by omega⟩
    obtain rfl : k = 28 := by omega
    rw [S_X7_lay_L23, if_pos (show (28 : Int32) ≤ nI 28 by decide)]
    exact ⟨row, rfl, hr⟩
  | succ m ih =>
    intro k f hk hf row hr
    obtain ⟨f, rfl⟩ : ∃ z, f = z + 1 := ⟨f - 1, by omega⟩
    have hi := nin' (n := k) (N := 28) (by omega) (by omega)
    rw [S_X7_lay_L23, if_neg (show ¬ (28 : Int32) ≤ nI k from (nI_ge (by omega) (by omega) : ¬ nI 28 ≤ nI k)), if_neg hi, if_neg hi, nI_clamp (by omega), nI_1]
    refine ih (k + 1) f (by omega) (by omega) _ (fun j hj => ?_)
    by_cases e : j = k
    · subst e; rw [pk_us]
    · rw [pk_un e]; exact hr j (by omega)
