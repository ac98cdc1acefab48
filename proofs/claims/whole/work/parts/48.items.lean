/-! one item of the text -/
theorem n7Y {t : Nat} {C : Nat → Nat} {lt mt : Nat → Int32} (h : TX t C lt mt) {p p2 x lo hi s : Nat} (e : enN t C p + 1 = p2) (hp : p < 900) (hx : x < 28) (hlo : lo < 1000) (hhi : hi < 1000) (hs : 0 < s) (hs2 : s < 60000) (read : Nat → Int32) (q : nuN t C p s ∧ lo ≤ vlN t C p ∧ vlN t C p ≤ hi) :
    S_X7_number (nI x) (nI lo) (nI hi) (nI s) (nI t) (nI p) mt read = some (1, nI p2, upd read x (nI (vlN t C p))) := by
  rw [n7y h hp hx hlo hhi hs hs2 read q.1.1, if_pos ⟨q.2, q.1.2⟩, e]
theorem n7N {t : Nat} {C : Nat → Nat} {lt mt : Nat → Int32} (h : TX t C lt mt) {p x lo hi s : Nat} (hp : p < 900) (hx : x < 28) (hlo : lo < 1000) (hhi : hi < 1000) (hs : 0 < s) (hs2 : s < 60000) (read : Nat → Int32) (q : ¬ (nuN t C p s ∧ lo ≤ vlN t C p ∧ vlN t C p ≤ hi)) :
    ∃ at' rd', S_X7_number (nI x) (nI lo) (nI hi) (nI s) (nI t) (nI p) mt read = some (0, at', rd') := by
  by_cases a : 48 ≤ chN t C p ∧ chN t C p ≤ 57
  · refine ⟨nI (enN t C p + 1), upd read x (nI (vlN t C p)), ?_⟩
    rw [n7y h hp hx hlo hhi hs hs2 read a, if_neg (fun z => q ⟨⟨a, z.2⟩, z.1⟩)]
  · exact ⟨_, _, n7n h hp _ _ _ _ read a⟩
theorem c3y {t : Nat} {C : Nat → Nat} {lt mt : Nat → Int32} (h : TX t C lt mt) {p p2 p3 p4 g : Nat} (hp : p < 300) (e2 : enN t C p + 1 = p2) (e3 : enN t C p2 + 1 = p3) (e4 : enN t C p3 + 1 = p4) (z : Int32) (nu : Nat → Int32) (q1 : nuN t C p 44) (q2 : nuN t C p2 44) (q3 : nuN t C p3 59) :
    S_X5_endOfItem_L22 z (nI 3) (nI t) lt (g + 4) (nI p) (nI 0) nu = some (nI p4, upd (upd (upd nu 0 (nI (vlN t C p))) 1 (nI (vlN t C p2))) 2 (nI (vlN t C p3))) := by
  have b1 := enN_b t C p
  have b2 := enN_b t C p2
  have b3 := enN_b t C p3
  rw [e22y h (k := 0) (c := 3) (by omega) (by omega) (by omega) (by decide) z nu q1, e2, e22y h (k := 0 + 1) (c := 3) (by omega) (by omega) (by omega) (by decide) z _ q2, e3, e22y h (k := 0 + 1 + 1) (c := 3) (by omega) (by omega) (by omega) (by decide) z _ q3, e4]
  exact e22e z _
theorem c3n {t : Nat} {C : Nat → Nat} {lt mt : Nat → Int32} (h : TX t C lt mt) {p p2 p3 g : Nat} (hp : p < 300) (e2 : enN t C p + 1 = p2) (e3 : enN t C p2 + 1 = p3) (z : Int32) (nu : Nat → Int32) (q : ¬ (nuN t C p 44 ∧ nuN t C p2 44 ∧ nuN t C p3 59)) :
    ∃ nu', S_X5_endOfItem_L22 z (nI 3) (nI t) lt (g + 4) (nI p) (nI 0) nu = some (z, nu') := by
  have b1 := enN_b t C p
  have b2 := enN_b t C p2
  by_cases q1 : nuN t C p 44
  · rw [e22y h (k := 0) (c := 3) (by omega) (by omega) (by omega) (by decide) z nu q1, e2]
    by_cases q2 : nuN t C p2 44
    · rw [e22y h (k := 0 + 1) (c := 3) (by omega) (by omega) (by omega) (by decide) z _ q2, e3]
      by_cases q3 : nuN t C p3 59
      · exact absurd ⟨q1, q2, q3⟩ q
      · exact ⟨_, e22n h (k := 0 + 1 + 1) (c := 3) (by omega) (by omega) (by omega) (by decide) z _ q3⟩
    · exact ⟨_, e22n h (k := 0 + 1) (c := 3) (by omega) (by omega) (by omega) (by decide) z _ q2⟩
  · exact ⟨_, e22n h (k := 0) (c := 3) (by omega) (by omega) (by omega) (by decide) z _ q1⟩
theorem c2y {t : Nat} {C : Nat → Nat} {lt mt : Nat → Int32} (h : TX t C lt mt) {p p2 p3 g : Nat} (hp : p < 300) (e2 : enN t C p + 1 = p2) (e3 : enN t C p2 + 1 = p3) (z : Int32) (nu : Nat → Int32) (q1 : nuN t C p 44) (q2 : nuN t C p2 59) :
    S_X5_endOfItem_L22 z (nI 2) (nI t) lt (g + 4) (nI p) (nI 0) nu = some (nI p3, upd (upd nu 0 (nI (vlN t C p))) 1 (nI (vlN t C p2))) := by
  have b1 := enN_b t C p
  have b2 := enN_b t C p2
  rw [e22y h (k := 0) (c := 2) (by omega) (by omega) (by omega) (by decide) z nu q1, e2, e22y h (k := 0 + 1) (c := 2) (by omega) (by omega) (by omega) (by decide) z _ q2, e3]
  exact e22e z _
theorem c2n {t : Nat} {C : Nat → Nat} {lt mt : Nat → Int32} (h : TX t C lt mt) {p p2 g : Nat} (hp : p < 300) (e2 : enN t C p + 1 = p2) (z : Int32) (nu : Nat → Int32) (q : ¬ (nuN t C p 44 ∧ nuN t C p2 59)) :
    ∃ nu', S_X5_endOfItem_L22 z (nI 2) (nI t) lt (g + 4) (nI p) (nI 0) nu = some (z, nu') := by
  have b1 := enN_b t C p
  by_cases q1 : nuN t C p 44
  · rw [e22y h (k := 0) (c := 2) (by omega) (by omega) (by omega) (by decide) z nu q1, e2]
    by_cases q2 : nuN t C p2 59
    · exact absurd ⟨q1, q2⟩ q
    · exact ⟨_, e22n h (k := 0 + 1) (c := 2) (by omega) (by omega) (by omega) (by decide) z _ q2⟩
  · exact ⟨_, e22n h (k := 0) (c := 2) (by omega) (by omega) (by omega) (by decide) z _ q1⟩
theorem c1y {t : Nat} {C : Nat → Nat} {lt mt : Nat → Int32} (h : TX t C lt mt) {p p2 g : Nat} (hp : p < 300) (e2 : enN t C p + 1 = p2) (z : Int32) (nu : Nat → Int32) (q1 : nuN t C p 59) :
    S_X5_endOfItem_L22 z (nI 1) (nI t) lt (g + 4) (nI p) (nI 0) nu = some (nI p2, upd nu 0 (nI (vlN t C p))) := by
  rw [e22y h (k := 0) (c := 1) (by omega) (by omega) (by omega) (by decide) z nu q1, e2]
  exact e22e z _
theorem c1n {t : Nat} {C : Nat → Nat} {lt mt : Nat → Int32} (h : TX t C lt mt) {p g : Nat} (hp : p < 300) (z : Int32) (nu : Nat → Int32) (q : ¬ nuN t C p 59) :
    ∃ nu', S_X5_endOfItem_L22 z (nI 1) (nI t) lt (g + 4) (nI p) (nI 0) nu = some (z, nu') :=
  ⟨_, e22n h (k := 0) (c := 1) (by omega) (by omega) (by omega) (by decide) z _ q⟩
/-- the item's end, by its letter -/
theorem ei_h {t : Nat} {C : Nat → Nat} {lt mt : Nat → Int32} (h : TX t C lt mt) {p : Nat} (hp : p < 300) (nu : Nat → Int32) : S_X5_endOfItem (nI p) (nI t) lt nu =
    if chN t C p = 112 then S_X5_endOfItem_L22 (nI p) (nI 3) (nI t) lt (296 + 4) (nI (p + 1)) (nI 0) nu else if chN t C p = 115 then S_X5_endOfItem_L22 (nI p) (nI 2) (nI t) lt (296 + 4) (nI (p + 1)) (nI 0) nu else if chN t C p = 100 then S_X5_endOfItem_L22 (nI p) (nI 1) (nI t) lt (296 + 4) (nI (p + 1)) (nI 0) nu else some (nI p, nu) := by
  have hb := chN_b h p
  unfold S_X5_endOfItem S_X5_numbersBehind
  rw [la5 h (by omega), Option.bind_some, nI_1]
  by_cases a : chN t C p = 112
  · rw [if_pos a, a, if_pos (show nI 112 = (112 : Int32) from rfl), Option.bind_some, if_neg (show ¬ (3 : Int32) = 0 by decide)]; rfl
  · rw [if_neg a, if_neg (show ¬ nI (chN t C p) = (112 : Int32) from fun q => a ((n_eq (b := 112) (by omega) (by omega)).mp q))]
    by_cases b : chN t C p = 115
    · rw [if_pos b, b, if_pos (show nI 115 = (115 : Int32) from rfl), Option.bind_some, if_neg (show ¬ (2 : Int32) = 0 by decide)]; rfl
    · rw [if_neg b, if_neg (show ¬ nI (chN t C p) = (115 : Int32) from fun q => b ((n_eq (b := 115) (by omega) (by omega)).mp q))]
      by_cases c : chN t C p = 100
      · rw [if_pos c, c, if_pos (show nI 100 = (100 : Int32) from rfl), Option.bind_some, if_neg (show ¬ (1 : Int32) = 0 by decide)]; rfl
      · rw [if_neg c, if_neg (show ¬ nI (chN t C p) = (100 : Int32) from fun q => c ((n_eq (b := 100) (by omega) (by omega)).mp q)), Option.bind_some, if_pos rfl]
theorem cl_f {t : Nat} {C : Nat → Nat} {lt mt : Nat → Int32} (h : TX t C lt mt) {p i f : Nat} (hp : p < t) (hi : i ≤ p) {pp fp sp st : Int32} {nu nu' kd th ft : Nat → Int32} (e : S_X5_endOfItem (nI p) (nI t) lt nu = some (nI p, nu')) :
    S_X5_readInto_L8 (nI t) lt (f + 1) (nI p) (nI i) pp fp sp st nu kd th ft = some (nI p, pp, fp, sp, st, nu', kd, th, ft) := by
  have ht := h.1
  rw [S_X5_readInto_L8, if_neg (show ¬ (200 : Int32) ≤ nI i from (nI_ge (by omega) (by omega) : ¬ nI 200 ≤ nI i)), if_neg (nI_ge hp (by omega)), e, Option.bind_some]
  dsimp only
  rw [if_pos rfl]
theorem cl_0 {t : Nat} {C : Nat → Nat} {lt mt : Nat → Int32} (h : TX t C lt mt) {p i f q : Nat} (hp : p < t) (hi : i ≤ p) (hq : p < q) (hq2 : q < 1000) {pp fp sp st a1 a2 a3 a4 : Int32} {nu nu' kd th ft a5 a6 a7 : Nat → Int32} (e : S_X5_endOfItem (nI p) (nI t) lt nu = some (nI q, nu')) (tl : S_X5_tell (nI (chN t C p)) nu' pp fp sp st kd th ft = some (0, a1, a2, a3, a4, a5, a6, a7)) :
    S_X5_readInto_L8 (nI t) lt (f + 1) (nI p) (nI i) pp fp sp st nu kd th ft = some (nI p, a1, a2, a3, a4, nu', a5, a6, a7) := by
  have ht := h.1
  rw [S_X5_readInto_L8, if_neg (show ¬ (200 : Int32) ≤ nI i from (nI_ge (by omega) (by omega) : ¬ nI 200 ≤ nI i)), if_neg (nI_ge hp (by omega)), e, Option.bind_some]
  dsimp only
  rw [if_neg (fun z => by have := (n_eq (by omega) (by omega)).mp z; omega), la5 h (by omega), Option.bind_some, tl, Option.bind_some]
  dsimp only
  rw [if_pos rfl]
theorem cl_1 {t : Nat} {C : Nat → Nat} {lt mt : Nat → Int32} (h : TX t C lt mt) {p i f q : Nat} (hp : p < t) (hi : i ≤ p) (hq : p < q) (hq2 : q < 1000) {pp fp sp st a1 a2 a3 a4 : Int32} {nu nu' kd th ft a5 a6 a7 : Nat → Int32} (e : S_X5_endOfItem (nI p) (nI t) lt nu = some (nI q, nu')) (tl : S_X5_tell (nI (chN t C p)) nu' pp fp sp st kd th ft = some (1, a1, a2, a3, a4, a5, a6, a7)) :
    S_X5_readInto_L8 (nI t) lt (f + 1) (nI p) (nI i) pp fp sp st nu kd th ft = S_X5_readInto_L8 (nI t) lt f (nI q) (nI (i + 1)) a1 a2 a3 a4 nu' a5 a6 a7 := by
  have ht := h.1
  rw [S_X5_readInto_L8, if_neg (show ¬ (200 : Int32) ≤ nI i from (nI_ge (by omega) (by omega) : ¬ nI 200 ≤ nI i)), if_neg (nI_ge hp (by omega)), e, Option.bind_some]
  dsimp only
  rw [if_neg (fun z => by have := (n_eq (by omega) (by omega)).mp z; omega), la5 h (by omega), Option.bind_some, tl, Option.bind_some]
  dsimp only
  rw [if_neg one_ne, nI_1]
theorem rg {lo hi v : Nat} (hv : v < 2 ^ 31) (hh : hi < 2 ^ 31) (hl : lo < 2 ^ 31) : (nI lo ≤ nI v ∧ nI v ≤ nI hi) ↔ (lo ≤ v ∧ v ≤ hi) := by
  constructor
  · rintro ⟨a, b⟩
    constructor
    · by_cases c : lo ≤ v
      · exact c
      · exact absurd a (nI_ge (by omega) (by omega))
    · by_cases c : v ≤ hi
      · exact c
      · exact absurd b (nI_ge (by omega) (by omega))
  · rintro ⟨a, b⟩; exact ⟨nI_le a hv, nI_le b hh⟩
theorem wir {lo hi v : Nat} {A B : Int32} (hA : A = nI lo) (hB : B = nI hi) (hv : v < 2 ^ 31) (hh : hi < 2 ^ 31) (hl : lo < 2 ^ 31) : S_X6_within (nI v) A B = some (if lo ≤ v ∧ v ≤ hi then 1 else 0) := by
  rw [wi, hA, hB]
  by_cases c : lo ≤ v ∧ v ≤ hi
  · rw [if_pos c, if_pos ((rg hv hh hl).mpr c)]
  · rw [if_neg c, if_neg (fun q => c ((rg hv hh hl).mp q))]
theorem vl_b {t : Nat} {C : Nat → Nat} {p : Nat} (a : 48 ≤ chN t C p ∧ chN t C p ≤ 57) : vlN t C p < 100 := by
  unfold vlN
  split <;> omega
theorem app0 {n a b c : Nat} (hn : n ≤ 8) (ha : a < 100) (hb : b < 100) (hc : c < 100) (q : ¬ (n < 8 ∧ (0 ≤ a ∧ a ≤ 3) ∧ (1 ≤ b ∧ b ≤ 20) ∧ (1 ≤ c ∧ c ≤ 9))) (kd th ft : Nat → Int32) : S_X3_append (nI a) (nI b) (nI c) (nI n) kd th ft = some (0, nI n, kd, th, ft) := by
  unfold S_X3_append
  by_cases c1 : n < 8
  · rw [if_neg (show ¬ (8 : Int32) ≤ nI n from nI_ge (b := 8) c1 (by omega))]
    unfold S_X6_isPerson
    rw [wir (lo := 0) (hi := 3) (A := 0) (B := 3) (v := a) rfl rfl (by omega) (by omega) (by omega), Option.bind_some]
    by_cases r1 : 0 ≤ a ∧ a ≤ 3
    · rw [if_pos r1, if_neg one_ne, wir (lo := 1) (hi := 20) (A := 1) (B := 20) (v := b) rfl rfl (by omega) (by omega) (by omega), Option.bind_some]
      by_cases r2 : 1 ≤ b ∧ b ≤ 20
      · rw [if_pos r2, if_neg one_ne, wir (lo := 1) (hi := 9) (A := 1) (B := 9) (v := c) rfl rfl (by omega) (by omega) (by omega), Option.bind_some]
        by_cases r3 : 1 ≤ c ∧ c ≤ 9
        · exact absurd ⟨c1, r1, r2, r3⟩ q
        · rw [if_neg r3, if_pos rfl, Option.bind_some, if_pos rfl]
      · rw [if_neg r2, if_pos rfl, Option.bind_some, if_pos rfl]
    · rw [if_neg r1, if_pos rfl, Option.bind_some, if_pos rfl]
  · rw [if_pos (show (8 : Int32) ≤ nI n from (nI_le (by omega) (by omega) : nI 8 ≤ nI n))]
