/-! an item on both sides -/
theorem te_p {n a b c : Nat} (nu : Nat → Int32) (fp sp st : Int32) (kd th ft : Nat → Int32) {r pp' : Int32} {kd' th' ft' : Nat → Int32} (hr : r = 0 ∨ r = 1) (e : S_X3_append (nI a) (nI b) (nI c) (nI n) kd th ft = some (r, pp', kd', th', ft')) :
    S_X5_tell (nI 112) (upd (upd (upd nu 0 (nI a)) 1 (nI b)) 2 (nI c)) (nI n) fp sp st kd th ft = some (r, pp', fp, sp, st, kd', th', ft') := by
  have v : vp_nar .boolean r = r := by rcases hr with rfl | rfl <;> decide
  unfold S_X5_tell
  rw [if_pos (show nI 112 = (112 : Int32) from rfl), pk_us, pk_un (by omega), pk_un (by omega), pk_us, pk_un (by omega), pk_us, e, Option.bind_some]
  dsimp only
  rw [if_pos v]
theorem te_s {a b : Nat} (ha : a < 100) (hb : b < 100) (nu : Nat → Int32) (pp fp sp st : Int32) (kd th ft : Nat → Int32) :
    S_X5_tell (nI 115) (upd (upd nu 0 (nI a)) 1 (nI b)) pp fp sp st kd th ft = if (1 ≤ a ∧ a ≤ 9) ∧ (1 ≤ b ∧ b ≤ 9) then some (1, pp, nI a, nI b, st, kd, th, ft) else some (0, pp, fp, sp, st, kd, th, ft) := by
  unfold S_X5_tell S_X3_setPaces
  rw [if_neg (show ¬ nI 115 = (112 : Int32) by decide), if_pos (show nI 115 = (115 : Int32) from rfl), pk_us, pk_un (by omega), pk_us, wir (lo := 1) (hi := 9) (A := 1) (B := 9) (v := a) rfl rfl (by omega) (by omega) (by omega), wir (lo := 1) (hi := 9) (A := 1) (B := 9) (v := b) rfl rfl (by omega) (by omega) (by omega), Option.bind_some]
  by_cases r1 : 1 ≤ a ∧ a ≤ 9
  · rw [if_pos r1, if_neg one_ne, Option.bind_some]
    by_cases r2 : 1 ≤ b ∧ b ≤ 9
    · rw [if_pos r2, if_neg one_ne, Option.bind_some, if_pos ⟨r1, r2⟩]
      dsimp only
      rw [if_pos (show vp_nar .boolean 1 = 1 by decide)]
    · rw [if_neg r2, if_pos rfl, Option.bind_some, if_neg (fun q => r2 q.2)]
      dsimp only
      rw [if_pos (show vp_nar .boolean 0 = 0 by decide)]
  · rw [if_neg r1, if_pos rfl, Option.bind_some, if_neg (fun q => r1 q.1)]
    dsimp only
    rw [if_pos (show vp_nar .boolean 0 = 0 by decide)]
theorem te_d {a : Nat} (ha : a < 100) (nu : Nat → Int32) (pp fp sp st : Int32) (kd th ft : Nat → Int32) :
    S_X5_tell (nI 100) (upd nu 0 (nI a)) pp fp sp st kd th ft = if 0 ≤ a ∧ a ≤ 20 then some (1, pp, fp, sp, nI a, kd, th, ft) else some (0, pp, fp, sp, st, kd, th, ft) := by
  unfold S_X5_tell S_X3_setSteps
  rw [if_neg (show ¬ nI 100 = (112 : Int32) by decide), if_neg (show ¬ nI 100 = (115 : Int32) by decide), if_pos (show nI 100 = (100 : Int32) from rfl), pk_us, wir (lo := 0) (hi := 20) (A := 0) (B := 20) (v := a) rfl rfl (by omega) (by omega) (by omega), Option.bind_some]
  by_cases r1 : 0 ≤ a ∧ a ≤ 20
  · rw [if_pos r1, if_neg one_ne, Option.bind_some, if_pos r1]
    dsimp only
    rw [if_neg one_ne]
  · rw [if_neg r1, if_pos rfl, Option.bind_some, if_neg r1]
    dsimp only
    rw [if_pos rfl]
/-- the reference's item: a person -/
theorem ip_h {t : Nat} {C : Nat → Nat} {lt mt : Nat → Int32} (h : TX t C lt mt) {p p2 p3 p4 n : Nat} (hp : p < t) (hn : n ≤ 8) (e1 : chN t C p = 112) (e2 : enN t C (p + 1) + 1 = p2) (e3 : enN t C p2 + 1 = p3) (e4 : enN t C p3 + 1 = p4) {read : Nat → Int32} (r0 : read 0 = nI n) :
    (n < 8 ∧ (nuN t C (p + 1) 44 ∧ 0 ≤ vlN t C (p + 1) ∧ vlN t C (p + 1) ≤ 3) ∧ (nuN t C p2 44 ∧ 1 ≤ vlN t C p2 ∧ vlN t C p2 ≤ 20) ∧ (nuN t C p3 59 ∧ 1 ≤ vlN t C p3 ∧ vlN t C p3 ≤ 9) → S_X7_item (nI t) (nI p) mt read = some (1, nI p4, stR read n (nI (vlN t C (p + 1))) (nI (vlN t C p2)) (nI (vlN t C p3)))) ∧
    (¬ (n < 8 ∧ (nuN t C (p + 1) 44 ∧ 0 ≤ vlN t C (p + 1) ∧ vlN t C (p + 1) ≤ 3) ∧ (nuN t C p2 44 ∧ 1 ≤ vlN t C p2 ∧ vlN t C p2 ≤ 20) ∧ (nuN t C p3 59 ∧ 1 ≤ vlN t C p3 ∧ vlN t C p3 ≤ 9)) → ∃ at' rd', S_X7_item (nI t) (nI p) mt read = some (0, at', rd')) := by
  have ht := h.1
  have b1 := enN_b t C (p + 1)
  have b2 := enN_b t C p2
  have e0 : mt p = nI (chN t C p) := by unfold chN; rw [if_pos hp]; exact (h.2 p hp).2.2
  have y1 : (nuN t C (p + 1) 44 ∧ 0 ≤ vlN t C (p + 1) ∧ vlN t C (p + 1) ≤ 3) → n < 8 → S_X7_number (nI (4 + 3 * n)) 0 3 44 (nI t) (nI (p + 1)) mt read = some (1, nI p2, upd read (4 + 3 * n) (nI (vlN t C (p + 1)))) := fun q hn8 => n7Y h (lo := 0) (hi := 3) (s := 44) e2 (by omega) (by omega) (by omega) (by omega) (by omega) (by omega) read q
  have y2 : ∀ rd, (nuN t C p2 44 ∧ 1 ≤ vlN t C p2 ∧ vlN t C p2 ≤ 20) → n < 8 → S_X7_number (nI (5 + 3 * n)) 1 20 44 (nI t) (nI p2) mt rd = some (1, nI p3, upd rd (5 + 3 * n) (nI (vlN t C p2))) := fun rd q hn8 => n7Y h (lo := 1) (hi := 20) (s := 44) e3 (by omega) (by omega) (by omega) (by omega) (by omega) (by omega) rd q
  have y3 : ∀ rd, (nuN t C p3 59 ∧ 1 ≤ vlN t C p3 ∧ vlN t C p3 ≤ 9) → n < 8 → S_X7_number (nI (6 + 3 * n)) 1 9 59 (nI t) (nI p3) mt rd = some (1, nI p4, upd rd (6 + 3 * n) (nI (vlN t C p3))) := fun rd q hn8 => n7Y h (lo := 1) (hi := 9) (s := 59) e4 (by omega) (by omega) (by omega) (by omega) (by omega) (by omega) rd q
  unfold S_X7_item
  rw [if_neg (nin' (by omega) (by omega)), nI_clamp (by omega), e0, e1, if_pos (show nI 112 = (112 : Int32) from rfl), r0, i6, i5, i4]
  constructor
  · rintro ⟨hn8, q1, q2, q3⟩
    rw [if_neg (show ¬ nI n = (8 : Int32) from fun q => by have := (n_eq (b := 8) (by omega) (by omega)).mp q; omega), nI_1, y1 q1 hn8, Option.bind_some]
    dsimp only
    rw [if_neg one_ne, y2 _ q2 hn8, Option.bind_some]
    dsimp only
    rw [if_neg one_ne, y3 _ q3 hn8, Option.bind_some]
    dsimp only
    rw [if_neg one_ne, pk_un (by omega), pk_un (by omega), pk_un (by omega), r0, nI_1]
    rfl
  · intro q
    by_cases hn8 : n < 8
    · rw [if_neg (show ¬ nI n = (8 : Int32) from fun q => by have := (n_eq (b := 8) (by omega) (by omega)).mp q; omega), nI_1]
      by_cases q1 : nuN t C (p + 1) 44 ∧ 0 ≤ vlN t C (p + 1) ∧ vlN t C (p + 1) ≤ 3
      · rw [y1 q1 hn8, Option.bind_some]
        dsimp only
        rw [if_neg one_ne]
        by_cases q2 : nuN t C p2 44 ∧ 1 ≤ vlN t C p2 ∧ vlN t C p2 ≤ 20
        · rw [y2 _ q2 hn8, Option.bind_some]
          dsimp only
          rw [if_neg one_ne]
          have q3 : ¬ (nuN t C p3 59 ∧ 1 ≤ vlN t C p3 ∧ vlN t C p3 ≤ 9) := fun z => q ⟨hn8, q1, q2, z⟩
          obtain ⟨at', rd', z⟩ := n7N h (x := 6 + 3 * n) (p := p3) (lo := 1) (hi := 9) (s := 59) (by omega) (by omega) (by omega) (by omega) (by omega) (by omega) (upd (upd read (4 + 3 * n) (nI (vlN t C (p + 1)))) (5 + 3 * n) (nI (vlN t C p2))) q3
          rw [show S_X7_number (nI (6 + 3 * n)) 1 9 59 (nI t) (nI p3) mt (upd (upd read (4 + 3 * n) (nI (vlN t C (p + 1)))) (5 + 3 * n) (nI (vlN t C p2))) = some (0, at', rd') from z, Option.bind_some]
          exact ⟨_, _, rfl⟩
        · obtain ⟨at', rd', z⟩ := n7N h (x := 5 + 3 * n) (p := p2) (lo := 1) (hi := 20) (s := 44) (by omega) (by omega) (by omega) (by omega) (by omega) (by omega) (upd read (4 + 3 * n) (nI (vlN t C (p + 1)))) q2
          rw [show S_X7_number (nI (5 + 3 * n)) 1 20 44 (nI t) (nI p2) mt (upd read (4 + 3 * n) (nI (vlN t C (p + 1)))) = some (0, at', rd') from z, Option.bind_some]
          exact ⟨_, _, rfl⟩
      · obtain ⟨at', rd', z⟩ := n7N h (x := 4 + 3 * n) (p := p + 1) (lo := 0) (hi := 3) (s := 44) (by omega) (by omega) (by omega) (by omega) (by omega) (by omega) read q1
        rw [show S_X7_number (nI (4 + 3 * n)) 0 3 44 (nI t) (nI (p + 1)) mt read = some (0, at', rd') from z, Option.bind_some]
        exact ⟨_, _, rfl⟩
    · obtain rfl : n = 8 := by omega
      rw [if_pos (show nI 8 = (8 : Int32) from rfl)]
      exact ⟨_, _, rfl⟩
theorem is_h {t : Nat} {C : Nat → Nat} {lt mt : Nat → Int32} (h : TX t C lt mt) {p p2 p3 : Nat} (hp : p < t) (e1 : chN t C p = 115) (e2 : enN t C (p + 1) + 1 = p2) (e3 : enN t C p2 + 1 = p3) (read : Nat → Int32) :
    ((nuN t C (p + 1) 44 ∧ 1 ≤ vlN t C (p + 1) ∧ vlN t C (p + 1) ≤ 9) ∧ (nuN t C p2 59 ∧ 1 ≤ vlN t C p2 ∧ vlN t C p2 ≤ 9) → S_X7_item (nI t) (nI p) mt read = some (1, nI p3, upd (upd read 1 (nI (vlN t C (p + 1)))) 2 (nI (vlN t C p2)))) ∧
    (¬ ((nuN t C (p + 1) 44 ∧ 1 ≤ vlN t C (p + 1) ∧ vlN t C (p + 1) ≤ 9) ∧ (nuN t C p2 59 ∧ 1 ≤ vlN t C p2 ∧ vlN t C p2 ≤ 9)) → ∃ at' rd', S_X7_item (nI t) (nI p) mt read = some (0, at', rd')) := by
  have ht := h.1
  have b1 := enN_b t C (p + 1)
  have e0 : mt p = nI (chN t C p) := by unfold chN; rw [if_pos hp]; exact (h.2 p hp).2.2
  have y1 : (nuN t C (p + 1) 44 ∧ 1 ≤ vlN t C (p + 1) ∧ vlN t C (p + 1) ≤ 9) → S_X7_number 1 1 9 44 (nI t) (nI (p + 1)) mt read = some (1, nI p2, upd read 1 (nI (vlN t C (p + 1)))) := fun q => n7Y h (x := 1) (lo := 1) (hi := 9) (s := 44) e2 (by omega) (by omega) (by omega) (by omega) (by omega) (by omega) read q
  have y2 : ∀ rd, (nuN t C p2 59 ∧ 1 ≤ vlN t C p2 ∧ vlN t C p2 ≤ 9) → S_X7_number 2 1 9 59 (nI t) (nI p2) mt rd = some (1, nI p3, upd rd 2 (nI (vlN t C p2))) := fun rd q => n7Y h (x := 2) (lo := 1) (hi := 9) (s := 59) e3 (by omega) (by omega) (by omega) (by omega) (by omega) (by omega) rd q
  unfold S_X7_item
  rw [if_neg (nin' (by omega) (by omega)), nI_clamp (by omega), e0, e1, if_neg (show ¬ nI 115 = (112 : Int32) by decide), if_pos (show nI 115 = (115 : Int32) from rfl), nI_1]
  constructor
  · rintro ⟨q1, q2⟩
    rw [y1 q1, Option.bind_some]
    dsimp only
    rw [if_neg one_ne, y2 _ q2, Option.bind_some]
    dsimp only
    rw [if_neg one_ne]
  · intro q
    by_cases q1 : nuN t C (p + 1) 44 ∧ 1 ≤ vlN t C (p + 1) ∧ vlN t C (p + 1) ≤ 9
    · rw [y1 q1, Option.bind_some]
      dsimp only
      rw [if_neg one_ne]
      obtain ⟨at', rd', z⟩ := n7N h (x := 2) (p := p2) (lo := 1) (hi := 9) (s := 59) (by omega) (by omega) (by omega) (by omega) (by omega) (by omega) (upd read 1 (nI (vlN t C (p + 1)))) (fun z => q ⟨q1, z⟩)
      rw [show S_X7_number 2 1 9 59 (nI t) (nI p2) mt (upd read 1 (nI (vlN t C (p + 1)))) = some (0, at', rd') from z, Option.bind_some]
      exact ⟨_, _, rfl⟩
    · obtain ⟨at', rd', z⟩ := n7N h (x := 1) (p := p + 1) (lo := 1) (hi := 9) (s := 44) (by omega) (by omega) (by omega) (by omega) (by omega) (by omega) read q1
      rw [show S_X7_number 1 1 9 44 (nI t) (nI (p + 1)) mt read = some (0, at', rd') from z, Option.bind_some]
      exact ⟨_, _, rfl⟩
theorem id_h {t : Nat} {C : Nat → Nat} {lt mt : Nat → Int32} (h : TX t C lt mt) {p p2 : Nat} (hp : p < t) (e1 : chN t C p = 100) (e2 : enN t C (p + 1) + 1 = p2) (read : Nat → Int32) :
    ((nuN t C (p + 1) 59 ∧ 0 ≤ vlN t C (p + 1) ∧ vlN t C (p + 1) ≤ 20) → S_X7_item (nI t) (nI p) mt read = some (1, nI p2, upd read 3 (nI (vlN t C (p + 1))))) ∧
    (¬ (nuN t C (p + 1) 59 ∧ 0 ≤ vlN t C (p + 1) ∧ vlN t C (p + 1) ≤ 20) → ∃ at' rd', S_X7_item (nI t) (nI p) mt read = some (0, at', rd')) := by
  have ht := h.1
  have e0 : mt p = nI (chN t C p) := by unfold chN; rw [if_pos hp]; exact (h.2 p hp).2.2
  unfold S_X7_item
  rw [if_neg (nin' (by omega) (by omega)), nI_clamp (by omega), e0, e1, if_neg (show ¬ nI 100 = (112 : Int32) by decide), if_neg (show ¬ nI 100 = (115 : Int32) by decide), if_pos (show nI 100 = (100 : Int32) from rfl), nI_1]
  constructor
  · intro q
    rw [show S_X7_number 3 0 20 59 (nI t) (nI (p + 1)) mt read = some (1, nI p2, upd read 3 (nI (vlN t C (p + 1)))) from n7Y h (x := 3) (lo := 0) (hi := 20) (s := 59) e2 (by omega) (by omega) (by omega) (by omega) (by omega) (by omega) read q, Option.bind_some]
    dsimp only
    rw [if_neg one_ne]
  · intro q
    obtain ⟨at', rd', z⟩ := n7N h (x := 3) (p := p + 1) (lo := 0) (hi := 20) (s := 59) (by omega) (by omega) (by omega) (by omega) (by omega) (by omega) read q
    rw [show S_X7_number 3 0 20 59 (nI t) (nI (p + 1)) mt read = some (0, at', rd') from z, Option.bind_some]
    exact ⟨_, _, rfl⟩
theorem RR_pace {pp fp sp st : Int32} {kd th ft row : Nat → Int32} (hR : RR pp fp sp st kd th ft row) {a b : Nat} (ha : 1 ≤ a ∧ a ≤ 9) (hb : 1 ≤ b ∧ b ≤ 9) : RR pp (nI a) (nI b) st kd th ft (upd (upd row 1 (nI a)) 2 (nI b)) := by
  obtain ⟨n, ⟨v1, v2, v3, v4, v5⟩, r0, r1, r2, r3, hi⟩ := hR
  refine ⟨n, ⟨v1, v2, ⟨a, ha.1, ha.2, rfl⟩, ⟨b, hb.1, hb.2, rfl⟩, v5⟩, ?_, ?_, ?_, ?_, fun i hin => ?_⟩
  · rw [pk_un (by omega), pk_un (by omega), r0]
  · rw [pk_un (by omega), pk_us]
  · rw [pk_us]
  · rw [pk_un (by omega), pk_un (by omega), r3]
  · rw [pk_un (by omega), pk_un (by omega), pk_un (by omega), pk_un (by omega), pk_un (by omega), pk_un (by omega)]; exact hi i hin
theorem RR_step {pp fp sp st : Int32} {kd th ft row : Nat → Int32} (hR : RR pp fp sp st kd th ft row) {a : Nat} (ha : a ≤ 20) : RR pp fp sp (nI a) kd th ft (upd row 3 (nI a)) := by
  obtain ⟨n, ⟨v1, v2, v3, v4, v5, v6⟩, r0, r1, r2, r3, hi⟩ := hR
  refine ⟨n, ⟨v1, v2, v3, v4, ⟨a, ha, rfl⟩, v6⟩, ?_, ?_, ?_, ?_, fun i hin => ?_⟩
  · rw [pk_un (by omega), r0]
  · rw [pk_un (by omega), r1]
  · rw [pk_un (by omega), r2]
  · rw [pk_us]
  · rw [pk_un (by omega), pk_un (by omega), pk_un (by omega)]; exact hi i hin
