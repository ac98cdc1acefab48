/-! the learner -/
theorem RD_f {n V U D : Nat} {T F : Nat → Nat} : RD n V U D T F 0 = RI V T 0 := funext (fun i => RD_0 i)
def LSn (n V D : Nat) (T F : Nat → Nat) : Nat → Int32
  | 0 => -4
  | u + 1 => if sumN (RI V T 0) n ≤ (BF 1 n V (u + 1) D T F).2 then LSn n V D T F u else nI (u + 1)
theorem NR.sp {n V U D : Nat} {K T F : Nat → Nat} (h : NR n V U D K T F) {u : Nat} (h1 : 1 ≤ u) (h2 : u ≤ 9) : NR n V u D K T F := ⟨h.1, h.2.1, h.2.2.1, h1, h2, h.2.2.2.2.2⟩
theorem dec1 : ∀ u, u < 9 → nI (u + 1) + (-1 : Int32) = nI u := by decide +kernel
theorem lr_c {n V U D : Nat} {K T F : Nat → Nat} (h : NR n V U D K T F) {kd th ft : Nat → Int32} (hs : ∀ i, i < n → kd i = nI (K i) ∧ th i = nI (T i) ∧ ft i = nI (F i)) (cp ca : Int32) (ck cw cf cs co cr : Nat → Int32) :
    ∀ (u f : Nat), u ≤ 9 → u < f → ∀ (sp ss sl tp ta : Int32) (tk tw tf ts to tr : Nat → Int32), ∃ sp' ss' sl' tp' ta' tk' tw' tf' ts' to' tr', S_X6_learner_L41 (nI (sumN (RI V T 0) n)) cp ca ck cw cf cs co cr (nI n) (nI V) (nI D) kd th ft f (nI u) sp ss sl tp ta tk tw tf ts to tr
      = some (LSn n V D T F u, cp, ca, ck, cw, cf, cs, co, cr, nI n, nI V, sp', nI D, kd, th, ft, ss', sl', tp', ta', tk', tw', tf', ts', to', tr') := by
  have h8 := h.1
  have hb1 : sumN (RI V T 0) n ≤ 16000 := by have := OW_b h 1 0; unfold OW at this; rw [if_neg (by omega), RD_f] at this; exact this
  intro u
  induction u with
  | zero =>
    intro f _ hf sp ss sl tp ta tk tw tf ts to tr
    obtain ⟨f, rfl⟩ : ∃ z, f = z + 1 := ⟨f - 1, by omega⟩
    rw [S_X6_learner_L41, if_pos (show nI 0 < 1 by decide)]
    exact ⟨_, _, _, _, _, _, _, _, _, _, _, rfl⟩
  | succ u ih =>
    intro f hu hf sp ss sl tp ta tk tw tf ts to tr
    obtain ⟨f, rfl⟩ : ∃ z, f = z + 1 := ⟨f - 1, by omega⟩
    obtain ⟨aw', kd', wk', fs', sc', od', x', e1⟩ := fl_h (h.sp (u := u + 1) (by omega) hu) (⟨rfl, rfl, rfl, rfl, hs⟩ : ShN n V (u + 1) D K T F (nI n) (nI V) (nI (u + 1)) (nI D) kd th ft) (A := 1) (by omega) tk tw tf ts to tr
    have hb2 : (BF 1 n V (u + 1) D T F).2 ≤ 16000 := (BS_b (h.sp (u := u + 1) (by omega) hu) 1 _).1
    rw [show nI 1 = 1 from rfl] at e1
    rw [S_X6_learner_L41, if_neg (show ¬ nI (u + 1) < (1 : Int32) from (nI_nlt (by omega) (by omega) : ¬ nI (u + 1) < nI 1)), e1, Option.bind_some]
    dsimp only
    simp only [LSn]
    by_cases c : sumN (RI V T 0) n ≤ (BF 1 n V (u + 1) D T F).2
    · rw [if_pos (nI_le c (by omega)), if_pos c, dec1 u (by omega)]
      exact ih f (by omega) (by omega) _ _ _ _ _ _ _ _ _ _ _
    · rw [if_neg (nI_ge (by omega) (by omega)), if_neg c]
      exact ⟨_, _, _, _, _, _, _, _, _, _, _, rfl⟩
theorem lr_r {n V U D : Nat} {K T F : Nat → Nat} {row0 : Nat → Int32} (h : NR n V U D K T F) (hr : RoN n V U D K T F row0) :
    ∀ (m u f : Nat), u + m = 9 → m < f → ∀ (aw bs : Int32) (row od x : Nat → Int32), (∀ k, k ≠ 2 → row k = row0 k) → ∃ aw' bs' row' od' x', S_X7_learner_L12 (row0 2) f (LSn n V D T F u) (nI (u + 1)) aw bs row od x = some (LSn n V D T F 9, aw', bs', row', od', x') ∧ ∀ k, row' k = row0 k := by
  have h8 := h.1
  have hb1 : sumN (RI V T 0) n ≤ 16000 := by have := OW_b h 1 0; unfold OW at this; rw [if_neg (by omega), RD_f] at this; exact this
  intro m
  induction m with
  | zero =>
    intro u f hu hf aw bs row od x hk
    obtain ⟨f, rfl⟩ : ∃ z, f = z + 1 := ⟨f - 1, by omega⟩
    obtain rfl : u = 9 := by omega
    rw [S_X7_learner_L12, if_pos (show (10 : Int32) ≤ nI (9 + 1) by decide)]
    refine ⟨_, _, _, _, _, rfl, fun k => ?_⟩
    by_cases c : k = 2
    · subst c; rw [pk_us]
    · rw [pk_un c]; exact hk k c
  | succ m ih =>
    intro u f hu hf aw bs row od x hk
    obtain ⟨f, rfl⟩ : ∃ z, f = z + 1 := ⟨f - 1, by omega⟩
    have hN := h.sp (u := u + 1) (by omega) (by omega)
    have hO : RoN n V (u + 1) D K T F (upd row 2 (nI (u + 1))) := by
      refine ⟨?_, ?_, ?_, ?_, fun i hi => ?_⟩
      · rw [pk_un (by omega), hk 0 (by omega)]; exact hr.1
      · rw [pk_un (by omega), hk 1 (by omega)]; exact hr.2.1
      · rw [pk_us]
      · rw [pk_un (by omega), hk 3 (by omega)]; exact hr.2.2.2.1
      · rw [pk_un (by omega), pk_un (by omega), pk_un (by omega), hk _ (by omega), hk _ (by omega), hk _ (by omega)]; exact hr.2.2.2.2 i hi
    obtain ⟨od1, x1, s1, s2⟩ := s7_h hN hO (a := 0) (by omega) od x
    rw [nI_0] at s1
    obtain ⟨m1, m2, m3, e2⟩ := lo_h hN hO (A := 1) (by omega) (0 : Int32) bs od1 x1
    rw [show a7 1 = 1 from rfl, show b7 1 = 0 from rfl] at e2
    have hb2 : (BF 1 n V (u + 1) D T F).2 ≤ 16000 := (BS_b hN 1 _).1
    have e3 := sum7 h8 hO.1 s2
    rw [RD_f] at e3
    rw [S_X7_learner_L12, if_neg (show ¬ (10 : Int32) ≤ nI (u + 1) from (nI_ge (by omega) (by omega) : ¬ nI 10 ≤ nI (u + 1))), s1, Option.bind_some]
    dsimp only
    rw [e3, Option.bind_some, e2, Option.bind_some]
    dsimp only
    have h1 := fun row' aw' bs' od' x' => ih (u + 1) f (by omega) (by omega) aw' bs' row' od' x'
    simp only [LSn] at h1
    have hk' : ∀ k, k ≠ 2 → upd row 2 (nI (u + 1)) k = row0 k := fun k c => by rw [pk_un c]; exact hk k c
    rw [nI_1]
    by_cases c : sumN (RI V T 0) n ≤ (BF 1 n V (u + 1) D T F).2
    · rw [if_pos (nI_le c (by omega))]
      simp only [if_pos c] at h1
      exact h1 _ _ _ _ _ hk'
    · rw [if_neg (nI_ge (by omega) (by omega))]
      simp only [if_neg c] at h1
      exact h1 _ _ _ _ _ hk'
