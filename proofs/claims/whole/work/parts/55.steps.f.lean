set_option maxRecDepth 100000 in
theorem st_kinds (i1 : Int32) (x_text_length : Int32) (x_text_letters : Nat → Int32) (x_shop_people : Int32) (x_shop_firstPace : Int32) (x_shop_secondPace : Int32) (x_shop_steps : Int32) (x_shop_kind : Nat → Int32) (x_shop_things : Nat → Int32) (x_shop_feet : Nat → Int32) (x_spare_people : Int32) (x_spare_firstPace : Int32) (x_spare_secondPace : Int32) (x_spare_steps : Int32) (x_spare_kind : Nat → Int32) (x_spare_things : Nat → Int32) (x_spare_feet : Nat → Int32) (x_past_height : Int32) (x_past_pf : Nat → Option Nat) (x_past_ad : Nat → Nat) (x_past_pp : Nat → Int32) (x_past_fp : Nat → Int32) (x_past_sp : Nat → Int32) (x_past_st : Nat → Int32) (x_past_kd : Nat → Nat → Int32) (x_past_th : Nat → Nat → Int32) (x_past_ft : Nat → Nat → Int32) (x_shelf_height : Int32) (x_shelf_pf : Nat → Option Nat) (x_shelf_ad : Nat → Nat) (x_shelf_pp : Nat → Int32) (x_shelf_fp : Nat → Int32) (x_shelf_sp : Nat → Int32) (x_shelf_st : Nat → Int32) (x_shelf_kd : Nat → Nat → Int32) (x_shelf_th : Nat → Nat → Int32) (x_shelf_ft : Nat → Nat → Int32) (x_roll_length : Int32) (x_roll_who : Nat → Int32) (x_roll_where : Nat → Int32) (x_crossing_people : Int32) (x_crossing_away : Int32) (x_crossing_kind : Nat → Int32) (x_crossing_walk : Nat → Int32) (x_crossing_first : Nat → Int32) (x_crossing_second : Nat → Int32) (x_crossing_order : Nat → Int32) (x_crossing_ready : Nat → Int32) (m_letters : Int32) (m_undos : Int32) (m_away : Int32) (m_taped : Int32) (m_keeps : Int32) (m_row : Nat → Int32) (m_text : Nat → Int32) (m_undone : Nat → Int32) (m_order : Nat → Int32) (m_dones : Nat → Int32) (m_tapedWho : Nat → Int32) (m_tapedTill : Nat → Int32) (m_kept : Nat → Int32) (hR : Rel x_text_length x_text_letters x_shop_people x_shop_firstPace x_shop_secondPace x_shop_steps x_shop_kind x_shop_things x_shop_feet x_past_height x_past_pf x_past_ad x_past_pp x_past_fp x_past_sp x_past_st x_past_kd x_past_th x_past_ft x_shelf_height x_shelf_pf x_shelf_ad x_shelf_pp x_shelf_fp x_shelf_sp x_shelf_st x_shelf_kd x_shelf_th x_shelf_ft x_roll_length x_roll_who x_roll_where m_letters m_text m_row m_undos m_undone m_taped m_tapedWho m_tapedTill m_keeps m_kept) : ∃ (r : Int32) (o_x_spare_people : Int32) (o_x_spare_firstPace : Int32) (o_x_spare_secondPace : Int32) (o_x_spare_steps : Int32) (o_x_spare_kind : Nat → Int32) (o_x_spare_things : Nat → Int32) (o_x_spare_feet : Nat → Int32) (o_x_crossing_people : Int32) (o_x_crossing_away : Int32) (o_x_crossing_kind : Nat → Int32) (o_x_crossing_walk : Nat → Int32) (o_x_crossing_first : Nat → Int32) (o_x_crossing_second : Nat → Int32) (o_x_crossing_order : Nat → Int32) (o_x_crossing_ready : Nat → Int32) (o_m_away : Int32) (o_m_row : Nat → Int32) (o_m_order : Nat → Int32) (o_m_dones : Nat → Int32), S_X6_kinds i1 x_shop_people x_shop_firstPace x_shop_secondPace x_shop_steps x_spare_people x_spare_firstPace x_spare_secondPace x_spare_steps x_shop_kind x_spare_kind x_shop_things x_spare_things x_shop_feet x_spare_feet x_crossing_people x_crossing_away x_crossing_kind x_crossing_walk x_crossing_first x_crossing_second x_crossing_order x_crossing_ready x_roll_length x_roll_who x_roll_where = some (r, o_x_spare_people, o_x_spare_firstPace, o_x_spare_secondPace, o_x_spare_steps, o_x_spare_kind, o_x_spare_things, o_x_spare_feet, o_x_crossing_people, o_x_crossing_away, o_x_crossing_kind, o_x_crossing_walk, o_x_crossing_first, o_x_crossing_second, o_x_crossing_order, o_x_crossing_ready) ∧ S_X7_kinds i1 m_away m_taped m_row m_order m_dones m_tapedWho m_tapedTill = some (r, o_m_away, o_m_row, o_m_order, o_m_dones) ∧ Rel x_text_length x_text_letters x_shop_people x_shop_firstPace x_shop_secondPace x_shop_steps x_shop_kind x_shop_things x_shop_feet x_past_height x_past_pf x_past_ad x_past_pp x_past_fp x_past_sp x_past_st x_past_kd x_past_th x_past_ft x_shelf_height x_shelf_pf x_shelf_ad x_shelf_pp x_shelf_fp x_shelf_sp x_shelf_st x_shelf_kd x_shelf_th x_shelf_ft x_roll_length x_roll_who x_roll_where m_letters m_text o_m_row m_undos m_undone m_taped m_tapedWho m_tapedTill m_keeps m_kept := by
  obtain ⟨h1, h2, h3, h4, h5⟩ := id hR
  unfold S_X6_kinds S_X7_kinds
  obtain ⟨n, V, U, D, K, T, F, hN, hS, hO⟩ := h2.nat
  have h8 := hN.1
  obtain ⟨s0, s1, s2, s3, hs⟩ := hS
  obtain ⟨tq, t1, t2, t3, t4⟩ := h5
  rcases ix_split i1 (n := n) (by omega) with q | ⟨j, hj, rfl⟩
  · have e := has_no q
    rw [← s0] at e
    rw [e, isP_no (by omega) hO.1 q, Option.bind_some, Option.bind_some, if_pos rfl, if_pos rfl]
    exact ⟨_, _, _, _, _, _, _, _, _, _, _, _, _, _, _, _, _, _, _, _, rfl, rfl, hR⟩
  · have e := has_in hj (show n < 2 ^ 31 by omega)
    rw [← s0] at e
    obtain ⟨k', t', f', l1, l2⟩ := like_h x_shop_people x_shop_firstPace x_shop_secondPace x_shop_steps x_shop_kind x_shop_things x_shop_feet x_spare_kind x_spare_things x_spare_feet
    rw [e, isP_in (by omega) hO.1 hj, Option.bind_some, Option.bind_some, if_neg one_ne, if_neg one_ne, l1, kind7 m_row (by omega), Option.bind_some, Option.bind_some]
    dsimp only
    subst s0
    subst s1
    subst s2
    subst s3
    subst t2
    subst t3
    have hs' : ∀ i, i < n → t' i = nI (T i) ∧ f' i = nI (F i) := fun i hi => by
      obtain ⟨a, b, c⟩ := l2 i (by omega)
      rw [b, c]; exact (hs i hi).2
    have hk' : ∀ i, i < n → i ≠ j → k' i = nI (K i) := fun i hi _ => by
      rw [(l2 i (by omega)).1]; exact (hs i hi).1
    obtain ⟨r, kd', cp', ca', ck', cw', cf', cs', co', cr', aw', row', od', dn', q1, q2, q3⟩ := kn_loop hN hs' hO hj t1 t4 4 0 300 300 (by omega) (by omega) (by omega) 0 k' m_row hk' (fun _ _ => rfl) x_crossing_people x_crossing_away m_away x_crossing_kind x_crossing_walk x_crossing_first x_crossing_second x_crossing_order x_crossing_ready m_order m_dones
    rw [nI_0] at q1 q2
    exact ⟨_, _, _, _, _, _, _, _, _, _, _, _, _, _, _, _, _, _, _, _, q1, q2, h1, h2.congr (fun _ _ => ⟨rfl, rfl, rfl⟩) (fun k _ => q3 k), h3, h4, ⟨tq, t1, rfl, rfl, t4⟩⟩
set_option maxRecDepth 100000 in
theorem st_beaten (i1 : Int32) (i2 : Int32) (i3 : Int32) (x_text_length : Int32) (x_text_letters : Nat → Int32) (x_shop_people : Int32) (x_shop_firstPace : Int32) (x_shop_secondPace : Int32) (x_shop_steps : Int32) (x_shop_kind : Nat → Int32) (x_shop_things : Nat → Int32) (x_shop_feet : Nat → Int32) (x_past_height : Int32) (x_past_pf : Nat → Option Nat) (x_past_ad : Nat → Nat) (x_past_pp : Nat → Int32) (x_past_fp : Nat → Int32) (x_past_sp : Nat → Int32) (x_past_st : Nat → Int32) (x_past_kd : Nat → Nat → Int32) (x_past_th : Nat → Nat → Int32) (x_past_ft : Nat → Nat → Int32) (x_shelf_height : Int32) (x_shelf_pf : Nat → Option Nat) (x_shelf_ad : Nat → Nat) (x_shelf_pp : Nat → Int32) (x_shelf_fp : Nat → Int32) (x_shelf_sp : Nat → Int32) (x_shelf_st : Nat → Int32) (x_shelf_kd : Nat → Nat → Int32) (x_shelf_th : Nat → Nat → Int32) (x_shelf_ft : Nat → Nat → Int32) (x_roll_length : Int32) (x_roll_who : Nat → Int32) (x_roll_where : Nat → Int32) (x_crossing_people : Int32) (x_crossing_kind : Nat → Int32) (x_crossing_walk : Nat → Int32) (x_crossing_first : Nat → Int32) (x_crossing_second : Nat → Int32) (x_crossing_order : Nat → Int32) (m_letters : Int32) (m_undos : Int32) (m_taped : Int32) (m_keeps : Int32) (m_row : Nat → Int32) (m_text : Nat → Int32) (m_undone : Nat → Int32) (m_order : Nat → Int32) (m_tapedWho : Nat → Int32) (m_tapedTill : Nat → Int32) (m_kept : Nat → Int32) (hR : Rel x_text_length x_text_letters x_shop_people x_shop_firstPace x_shop_secondPace x_shop_steps x_shop_kind x_shop_things x_shop_feet x_past_height x_past_pf x_past_ad x_past_pp x_past_fp x_past_sp x_past_st x_past_kd x_past_th x_past_ft x_shelf_height x_shelf_pf x_shelf_ad x_shelf_pp x_shelf_fp x_shelf_sp x_shelf_st x_shelf_kd x_shelf_th x_shelf_ft x_roll_length x_roll_who x_roll_where m_letters m_text m_row m_undos m_undone m_taped m_tapedWho m_tapedTill m_keeps m_kept) : ∃ (r : Int32) (o_x_crossing_people : Int32) (o_x_crossing_kind : Nat → Int32) (o_x_crossing_walk : Nat → Int32) (o_x_crossing_first : Nat → Int32) (o_x_crossing_second : Nat → Int32) (o_x_crossing_order : Nat → Int32) (o_m_order : Nat → Int32), S_X6_beaten i1 i2 i3 x_shop_people x_shop_firstPace x_shop_secondPace x_shop_steps x_crossing_people x_shop_kind x_crossing_kind x_shop_feet x_crossing_walk x_shop_things x_crossing_first x_crossing_second x_crossing_order = some (r, o_x_crossing_people, o_x_crossing_kind, o_x_crossing_walk, o_x_crossing_first, o_x_crossing_second, o_x_crossing_order) ∧ S_X7_beaten i1 i2 i3 m_row m_order = some (r, o_m_order) ∧ Rel x_text_length x_text_letters x_shop_people x_shop_firstPace x_shop_secondPace x_shop_steps x_shop_kind x_shop_things x_shop_feet x_past_height x_past_pf x_past_ad x_past_pp x_past_fp x_past_sp x_past_st x_past_kd x_past_th x_past_ft x_shelf_height x_shelf_pf x_shelf_ad x_shelf_pp x_shelf_fp x_shelf_sp x_shelf_st x_shelf_kd x_shelf_th x_shelf_ft x_roll_length x_roll_who x_roll_where m_letters m_text m_row m_undos m_undone m_taped m_tapedWho m_tapedTill m_keeps m_kept := by
  obtain ⟨h1, h2, h3, h4, h5⟩ := id hR
  unfold S_X6_beaten S_X7_beaten
  obtain ⟨n, V, U, D, K, T, F, hN, hS, hO⟩ := h2.nat
  have h8 := hN.1
  rcases ix_split i1 (n := n) (by omega) with q | ⟨j, hj, rfl⟩
  · have e := has_no q
    rw [← hS.1] at e
    rw [e, isP_no (by omega) hO.1 q, Option.bind_some, Option.bind_some, if_pos rfl, if_pos rfl]
    exact ⟨_, _, _, _, _, _, _, _, rfl, rfl, hR⟩
  have e := has_in hj (show n < 2 ^ 31 by omega)
  rw [← hS.1] at e
  rw [e, isP_in (by omega) hO.1 hj, Option.bind_some, Option.bind_some, if_neg one_ne, if_neg one_ne, wi, inl _ 0 10 0 10 rfl rfl]
  by_cases a : (0 : Int32) ≤ i2 ∧ i2 ≤ 10
  rotate_left
  · rw [if_neg a]; exact ⟨-1, _, _, _, _, _, _, _, rfl, rfl, hR⟩
  rw [if_pos a, Option.bind_some, Option.bind_some, if_neg one_ne, if_neg one_ne, wi, inl _ 0 1 0 1 rfl rfl]
  by_cases b : (0 : Int32) ≤ i3 ∧ i3 ≤ 1
  rotate_left
  · rw [if_neg b]; exact ⟨-1, _, _, _, _, _, _, _, rfl, rfl, hR⟩
  rw [if_pos b, Option.bind_some, Option.bind_some, if_neg one_ne, if_neg one_ne]
  obtain ⟨x, -, hx, rfl⟩ := lit_of (A := 0) (B := 10) rfl rfl (by omega) (by omega) a
  obtain ⟨w, -, hw, rfl⟩ := lit_of (A := 0) (B := 1) rfl rfl (by omega) (by omega) b
  obtain ⟨kd', wk', fs', sc', od', g1, g2⟩ := la_h hN hS x_crossing_kind x_crossing_walk x_crossing_first x_crossing_second x_crossing_order
  obtain ⟨od7, o1, o2⟩ := or7 hN hO m_order
  have hbw : ∀ i, i < n → Wk n D F i < 2 ^ 31 := fun i hi => by have := Wk_b hN i hi; omega
  have hrk := rk_b (W := Wk n D F) (n := n) (m := 0) (Nat.zero_le j) hj
  have q1 := to_loop h8 (Oc_ok h8 hbw) g2.2 hj (rk (Wk n D F) n 0 j) 0 300 (by omega) (by omega)
  have q2 := b45_loop h8 (Oc_ok h8 hbw) o2 hj hx (nI w) (rk (Wk n D F) n 0 j) 0 300 (by omega) (by omega)
  rw [nI_0] at q1 q2
  rw [Nat.pow_zero, Nat.pow_zero, show nI 1 = (1 : Int32) from rfl, b86_h (by omega) (by omega) (by omega)] at q2
  obtain ⟨p1, p2⟩ := bgd_h x (by omega)
  have p3 := (bva_h x (by omega) (rk (Wk n D F) n 0 j) (by omega) w (by omega)).1
  rw [g1, o1, Option.bind_some, Option.bind_some, q2]
  unfold jn S_X0_turnOf
  dsimp only
  rw [p1, q1, Option.bind_some, Option.bind_some, Option.bind_some]
  have hwc : w = 0 ∨ w = 1 := by omega
  rcases hwc with rfl | rfl
  · rw [if_pos rfl] at p3
    rw [if_pos (show nI 0 = 0 from rfl), if_neg p2, p3, Option.bind_some]
    exact ⟨_, _, _, _, _, _, _, _, rfl, rfl, hR⟩
  · rw [if_neg (by omega)] at p3
    rw [if_neg (show ¬ nI 1 = 0 by decide), if_neg p2, p3, Option.bind_some]
    exact ⟨_, _, _, _, _, _, _, _, rfl, rfl, hR⟩
