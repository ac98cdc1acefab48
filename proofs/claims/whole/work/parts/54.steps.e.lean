set_option maxRecDepth 100000 in
theorem st_called (i1 : Int32) (i2 : Int32) (x_text_length : Int32) (x_text_letters : Nat → Int32) (x_shop_people : Int32) (x_shop_firstPace : Int32) (x_shop_secondPace : Int32) (x_shop_steps : Int32) (x_shop_kind : Nat → Int32) (x_shop_things : Nat → Int32) (x_shop_feet : Nat → Int32) (x_past_height : Int32) (x_past_pf : Nat → Option Nat) (x_past_ad : Nat → Nat) (x_past_pp : Nat → Int32) (x_past_fp : Nat → Int32) (x_past_sp : Nat → Int32) (x_past_st : Nat → Int32) (x_past_kd : Nat → Nat → Int32) (x_past_th : Nat → Nat → Int32) (x_past_ft : Nat → Nat → Int32) (x_shelf_height : Int32) (x_shelf_pf : Nat → Option Nat) (x_shelf_ad : Nat → Nat) (x_shelf_pp : Nat → Int32) (x_shelf_fp : Nat → Int32) (x_shelf_sp : Nat → Int32) (x_shelf_st : Nat → Int32) (x_shelf_kd : Nat → Nat → Int32) (x_shelf_th : Nat → Nat → Int32) (x_shelf_ft : Nat → Nat → Int32) (x_roll_length : Int32) (x_roll_who : Nat → Int32) (x_roll_where : Nat → Int32) (x_crossing_people : Int32) (x_crossing_away : Int32) (x_crossing_kind : Nat → Int32) (x_crossing_walk : Nat → Int32) (x_crossing_first : Nat → Int32) (x_crossing_second : Nat → Int32) (x_crossing_order : Nat → Int32) (x_crossing_ready : Nat → Int32) (m_letters : Int32) (m_undos : Int32) (m_away : Int32) (m_taped : Int32) (m_keeps : Int32) (m_row : Nat → Int32) (m_text : Nat → Int32) (m_undone : Nat → Int32) (m_order : Nat → Int32) (m_dones : Nat → Int32) (m_tapedWho : Nat → Int32) (m_tapedTill : Nat → Int32) (m_kept : Nat → Int32) (hR : Rel x_text_length x_text_letters x_shop_people x_shop_firstPace x_shop_secondPace x_shop_steps x_shop_kind x_shop_things x_shop_feet x_past_height x_past_pf x_past_ad x_past_pp x_past_fp x_past_sp x_past_st x_past_kd x_past_th x_past_ft x_shelf_height x_shelf_pf x_shelf_ad x_shelf_pp x_shelf_fp x_shelf_sp x_shelf_st x_shelf_kd x_shelf_th x_shelf_ft x_roll_length x_roll_who x_roll_where m_letters m_text m_row m_undos m_undone m_taped m_tapedWho m_tapedTill m_keeps m_kept) : ∃ (r : Int32) (o_x_crossing_people : Int32) (o_x_crossing_away : Int32) (o_x_crossing_kind : Nat → Int32) (o_x_crossing_walk : Nat → Int32) (o_x_crossing_first : Nat → Int32) (o_x_crossing_second : Nat → Int32) (o_x_crossing_order : Nat → Int32) (o_x_crossing_ready : Nat → Int32) (o_m_away : Int32) (o_m_order : Nat → Int32) (o_m_dones : Nat → Int32), S_X6_called i1 i2 x_crossing_people x_crossing_away x_shop_people x_shop_firstPace x_shop_secondPace x_shop_steps x_shop_kind x_crossing_kind x_shop_feet x_crossing_walk x_shop_things x_crossing_first x_crossing_second x_crossing_order x_crossing_ready = some (r, o_x_crossing_people, o_x_crossing_away, o_x_crossing_kind, o_x_crossing_walk, o_x_crossing_first, o_x_crossing_second, o_x_crossing_order, o_x_crossing_ready) ∧ S_X7_called i1 i2 m_away m_row m_order m_dones = some (r, o_m_away, o_m_order, o_m_dones) ∧ Rel x_text_length x_text_letters x_shop_people x_shop_firstPace x_shop_secondPace x_shop_steps x_shop_kind x_shop_things x_shop_feet x_past_height x_past_pf x_past_ad x_past_pp x_past_fp x_past_sp x_past_st x_past_kd x_past_th x_past_ft x_shelf_height x_shelf_pf x_shelf_ad x_shelf_pp x_shelf_fp x_shelf_sp x_shelf_st x_shelf_kd x_shelf_th x_shelf_ft x_roll_length x_roll_who x_roll_where m_letters m_text m_row m_undos m_undone m_taped m_tapedWho m_tapedTill m_keeps m_kept := by
  obtain ⟨h1, h2, h3, h4, h5⟩ := id hR
  unfold S_X6_called S_X7_called
  rw [wi, inl _ 0 2 0 2 rfl rfl]
  by_cases a : (0 : Int32) ≤ i1 ∧ i1 ≤ 2
  rotate_left
  · rw [if_neg a]; exact ⟨-1, _, _, _, _, _, _, _, _, _, _, _, rfl, rfl, hR⟩
  rw [if_pos a, Option.bind_some, Option.bind_some, if_neg one_ne, if_neg one_ne, wi, inl _ 0 1 0 1 rfl rfl]
  by_cases b : (0 : Int32) ≤ i2 ∧ i2 ≤ 1
  rotate_left
  · rw [if_neg b]; exact ⟨-1, _, _, _, _, _, _, _, _, _, _, _, rfl, rfl, hR⟩
  rw [if_pos b, Option.bind_some, Option.bind_some, if_neg one_ne, if_neg one_ne]
  obtain ⟨n, V, U, D, K, T, F, hN, hS, hO⟩ := h2.nat
  have h8 := hN.1
  obtain ⟨r, -, hr, rfl⟩ := lit_of (A := 0) (B := 2) rfl rfl (by omega) (by omega) a
  obtain ⟨kd', wk', fs', sc', od', g1, g2⟩ := la_h hN hS x_crossing_kind x_crossing_walk x_crossing_first x_crossing_second x_crossing_order
  have e := sbr r (by omega) n (by omega)
  rw [← hS.1] at e
  obtain ⟨x1, s1, s2⟩ := se_h hN g2 (a := stp r n n) (stp_b r n n h8) x_crossing_ready
  have hbr : ∀ i, i < n → RD n V U D T F (stp r n n) i ≤ 100000 := fun i hi => by have := RD_b hN (stp r n n) hi; omega
  obtain ⟨od7, x7, q⟩ := cd_loop (od := m_order) (x := m_dones) hN hO (r := r) (by omega) i2 n 0 300 (by omega) (by omega)
  rw [show stp r n 0 = 0 from rfl, nI_0, ← hO.1] at q
  rw [q, g1, Option.bind_some]
  dsimp only
  rw [e, Option.bind_some, s1, Option.bind_some]
  dsimp only
  by_cases c : i2 = 0
  · rw [if_pos c, if_pos c, lat3 h8 hbr s2, Option.bind_some]
    exact ⟨_, _, _, _, _, _, _, _, _, _, _, _, rfl, rfl, hR⟩
  · rw [if_neg c, if_neg c, sum3 h8 s2, Option.bind_some]
    exact ⟨_, _, _, _, _, _, _, _, _, _, _, _, rfl, rfl, hR⟩
set_option maxRecDepth 100000 in
theorem st_oneRow (i1 : Int32) (x_text_length : Int32) (x_text_letters : Nat → Int32) (x_shop_people : Int32) (x_shop_firstPace : Int32) (x_shop_secondPace : Int32) (x_shop_steps : Int32) (x_shop_kind : Nat → Int32) (x_shop_things : Nat → Int32) (x_shop_feet : Nat → Int32) (x_past_height : Int32) (x_past_pf : Nat → Option Nat) (x_past_ad : Nat → Nat) (x_past_pp : Nat → Int32) (x_past_fp : Nat → Int32) (x_past_sp : Nat → Int32) (x_past_st : Nat → Int32) (x_past_kd : Nat → Nat → Int32) (x_past_th : Nat → Nat → Int32) (x_past_ft : Nat → Nat → Int32) (x_shelf_height : Int32) (x_shelf_pf : Nat → Option Nat) (x_shelf_ad : Nat → Nat) (x_shelf_pp : Nat → Int32) (x_shelf_fp : Nat → Int32) (x_shelf_sp : Nat → Int32) (x_shelf_st : Nat → Int32) (x_shelf_kd : Nat → Nat → Int32) (x_shelf_th : Nat → Nat → Int32) (x_shelf_ft : Nat → Nat → Int32) (x_roll_length : Int32) (x_roll_who : Nat → Int32) (x_roll_where : Nat → Int32) (x_crossing_people : Int32) (x_crossing_kind : Nat → Int32) (x_crossing_walk : Nat → Int32) (x_crossing_first : Nat → Int32) (x_crossing_second : Nat → Int32) (x_crossing_order : Nat → Int32) (x_crossing_ready : Nat → Int32) (m_letters : Int32) (m_undos : Int32) (m_taped : Int32) (m_keeps : Int32) (m_row : Nat → Int32) (m_text : Nat → Int32) (m_undone : Nat → Int32) (m_dones : Nat → Int32) (m_tapedWho : Nat → Int32) (m_tapedTill : Nat → Int32) (m_kept : Nat → Int32) (hR : Rel x_text_length x_text_letters x_shop_people x_shop_firstPace x_shop_secondPace x_shop_steps x_shop_kind x_shop_things x_shop_feet x_past_height x_past_pf x_past_ad x_past_pp x_past_fp x_past_sp x_past_st x_past_kd x_past_th x_past_ft x_shelf_height x_shelf_pf x_shelf_ad x_shelf_pp x_shelf_fp x_shelf_sp x_shelf_st x_shelf_kd x_shelf_th x_shelf_ft x_roll_length x_roll_who x_roll_where m_letters m_text m_row m_undos m_undone m_taped m_tapedWho m_tapedTill m_keeps m_kept) : ∃ (r : Int32) (o_x_crossing_people : Int32) (o_x_crossing_kind : Nat → Int32) (o_x_crossing_walk : Nat → Int32) (o_x_crossing_first : Nat → Int32) (o_x_crossing_second : Nat → Int32) (o_x_crossing_order : Nat → Int32) (o_x_crossing_ready : Nat → Int32) (o_m_dones : Nat → Int32), S_X6_oneRow i1 x_shop_people x_shop_firstPace x_shop_secondPace x_shop_steps x_crossing_people x_shop_kind x_crossing_kind x_shop_feet x_crossing_walk x_shop_things x_crossing_first x_crossing_second x_crossing_order x_crossing_ready = some (r, o_x_crossing_people, o_x_crossing_kind, o_x_crossing_walk, o_x_crossing_first, o_x_crossing_second, o_x_crossing_order, o_x_crossing_ready) ∧ S_X7_oneRow i1 m_row m_dones = some (r, o_m_dones) ∧ Rel x_text_length x_text_letters x_shop_people x_shop_firstPace x_shop_secondPace x_shop_steps x_shop_kind x_shop_things x_shop_feet x_past_height x_past_pf x_past_ad x_past_pp x_past_fp x_past_sp x_past_st x_past_kd x_past_th x_past_ft x_shelf_height x_shelf_pf x_shelf_ad x_shelf_pp x_shelf_fp x_shelf_sp x_shelf_st x_shelf_kd x_shelf_th x_shelf_ft x_roll_length x_roll_who x_roll_where m_letters m_text m_row m_undos m_undone m_taped m_tapedWho m_tapedTill m_keeps m_kept := by
  obtain ⟨h1, h2, h3, h4, h5⟩ := id hR
  unfold S_X6_oneRow S_X7_oneRow
  obtain ⟨n, V, U, D, K, T, F, hN, hS, hO⟩ := h2.nat
  have h8 := hN.1
  rcases pos_h h8 hO.1 i1 with ⟨p1, p2⟩ | ⟨p1, p2, p3⟩
  · rw [← hS.1] at p1
    rw [p1, p2, Option.bind_some, Option.bind_some]; exact ⟨-1, _, _, _, _, _, _, _, _, rfl, rfl, hR⟩
  · rw [← hS.1] at p1
    obtain ⟨kd', wk', fs', sc', od', g1, g2⟩ := la_h hN hS x_crossing_kind x_crossing_walk x_crossing_first x_crossing_second x_crossing_order
    obtain ⟨x', y', q1, q2, q3⟩ := o1_loop hN g2 hO i1 n 0 300 300 (by omega) (by omega) (by omega) 0 0 x_crossing_ready m_dones (by omega) (by omega) (fun i hi => absurd hi (by omega))
    rw [nI_0] at q1 q2
    obtain ⟨r, e1, e2⟩ := ask_h (R := fun i => (x' i).toNatClampNeg) h8 hO.1 (x := x') (y := y') (fun i hi => by obtain ⟨z, z1, z2, z3⟩ := q3 i hi; show x' i = nI (x' i).toNatClampNeg; rw [z2, nI_clamp (by omega)]) (fun i hi => by obtain ⟨z, z1, z2, z3⟩ := q3 i hi; show y' i = nI (x' i).toNatClampNeg; rw [z2, z3, nI_clamp (by omega)]) (fun i hi => by obtain ⟨z, z1, z2, z3⟩ := q3 i hi; show (x' i).toNatClampNeg ≤ 100000; rw [z2, nI_clamp (by omega)]; omega) p3
    rw [p1, p2, Option.bind_some, Option.bind_some, if_neg one_ne, if_neg one_ne, g1, Option.bind_some]
    dsimp only
    unfold S_X0_shareOneRow
    rw [q1, Option.bind_some, e1, Option.bind_some, q2, e2, Option.bind_some]
    exact ⟨_, _, _, _, _, _, _, _, _, rfl, rfl, hR⟩
set_option maxRecDepth 100000 in
theorem st_goes (i1 : Int32) (x_text_length : Int32) (x_text_letters : Nat → Int32) (x_shop_people : Int32) (x_shop_firstPace : Int32) (x_shop_secondPace : Int32) (x_shop_steps : Int32) (x_shop_kind : Nat → Int32) (x_shop_things : Nat → Int32) (x_shop_feet : Nat → Int32) (x_past_height : Int32) (x_past_pf : Nat → Option Nat) (x_past_ad : Nat → Nat) (x_past_pp : Nat → Int32) (x_past_fp : Nat → Int32) (x_past_sp : Nat → Int32) (x_past_st : Nat → Int32) (x_past_kd : Nat → Nat → Int32) (x_past_th : Nat → Nat → Int32) (x_past_ft : Nat → Nat → Int32) (x_shelf_height : Int32) (x_shelf_pf : Nat → Option Nat) (x_shelf_ad : Nat → Nat) (x_shelf_pp : Nat → Int32) (x_shelf_fp : Nat → Int32) (x_shelf_sp : Nat → Int32) (x_shelf_st : Nat → Int32) (x_shelf_kd : Nat → Nat → Int32) (x_shelf_th : Nat → Nat → Int32) (x_shelf_ft : Nat → Nat → Int32) (x_roll_length : Int32) (x_roll_who : Nat → Int32) (x_roll_where : Nat → Int32) (x_crossing_people : Int32) (x_crossing_away : Int32) (x_crossing_kind : Nat → Int32) (x_crossing_walk : Nat → Int32) (x_crossing_first : Nat → Int32) (x_crossing_second : Nat → Int32) (x_crossing_order : Nat → Int32) (x_crossing_ready : Nat → Int32) (m_letters : Int32) (m_undos : Int32) (m_away : Int32) (m_taped : Int32) (m_keeps : Int32) (m_row : Nat → Int32) (m_text : Nat → Int32) (m_undone : Nat → Int32) (m_order : Nat → Int32) (m_dones : Nat → Int32) (m_tapedWho : Nat → Int32) (m_tapedTill : Nat → Int32) (m_kept : Nat → Int32) (hR : Rel x_text_length x_text_letters x_shop_people x_shop_firstPace x_shop_secondPace x_shop_steps x_shop_kind x_shop_things x_shop_feet x_past_height x_past_pf x_past_ad x_past_pp x_past_fp x_past_sp x_past_st x_past_kd x_past_th x_past_ft x_shelf_height x_shelf_pf x_shelf_ad x_shelf_pp x_shelf_fp x_shelf_sp x_shelf_st x_shelf_kd x_shelf_th x_shelf_ft x_roll_length x_roll_who x_roll_where m_letters m_text m_row m_undos m_undone m_taped m_tapedWho m_tapedTill m_keeps m_kept) : ∃ (r : Int32) (o_x_crossing_people : Int32) (o_x_crossing_away : Int32) (o_x_crossing_kind : Nat → Int32) (o_x_crossing_walk : Nat → Int32) (o_x_crossing_first : Nat → Int32) (o_x_crossing_second : Nat → Int32) (o_x_crossing_order : Nat → Int32) (o_x_crossing_ready : Nat → Int32) (o_m_away : Int32) (o_m_order : Nat → Int32) (o_m_dones : Nat → Int32), S_X6_goes i1 x_crossing_people x_crossing_away x_shop_people x_shop_firstPace x_shop_secondPace x_shop_steps x_shop_kind x_crossing_kind x_shop_feet x_crossing_walk x_shop_things x_crossing_first x_crossing_second x_crossing_order x_crossing_ready = some (r, o_x_crossing_people, o_x_crossing_away, o_x_crossing_kind, o_x_crossing_walk, o_x_crossing_first, o_x_crossing_second, o_x_crossing_order, o_x_crossing_ready) ∧ S_X7_goes i1 m_away m_row m_order m_dones = some (r, o_m_away, o_m_order, o_m_dones) ∧ Rel x_text_length x_text_letters x_shop_people x_shop_firstPace x_shop_secondPace x_shop_steps x_shop_kind x_shop_things x_shop_feet x_past_height x_past_pf x_past_ad x_past_pp x_past_fp x_past_sp x_past_st x_past_kd x_past_th x_past_ft x_shelf_height x_shelf_pf x_shelf_ad x_shelf_pp x_shelf_fp x_shelf_sp x_shelf_st x_shelf_kd x_shelf_th x_shelf_ft x_roll_length x_roll_who x_roll_where m_letters m_text m_row m_undos m_undone m_taped m_tapedWho m_tapedTill m_keeps m_kept := by
  obtain ⟨h1, h2, h3, h4, h5⟩ := id hR
  unfold S_X6_goes S_X7_goes
  rw [wi, inl _ (-1) 7 (-1) 7 rfl rfl]
  by_cases a : (-1 : Int32) ≤ i1 ∧ i1 ≤ 7
  rotate_left
  · rw [if_neg a]; exact ⟨-1, _, _, _, _, _, _, _, _, _, _, _, rfl, rfl, hR⟩
  rw [if_pos a, Option.bind_some, Option.bind_some, if_neg one_ne, if_neg one_ne]
  obtain ⟨n, V, U, D, K, T, F, hN, hS, hO⟩ := h2.nat
  have h8 := hN.1
  obtain ⟨kd', wk', fs', sc', od', g1, g2⟩ := la_h hN hS x_crossing_kind x_crossing_walk x_crossing_first x_crossing_second x_crossing_order
  obtain ⟨aw, R, x1, od7, y1, d1, d2, d3, d4, d5, d6, d7⟩ := dec_h hN g2 hO x_crossing_ready m_dones m_order
  rw [g1, Option.bind_some]
  dsimp only
  rw [d2, d3, Option.bind_some, Option.bind_some]
  dsimp only
  rcases m1_split a with rfl | ⟨j, hj, rfl⟩
  · rw [if_pos rfl, if_neg (show ¬ (0 : Int32) ≤ -1 by decide)]
    exact ⟨_, _, _, _, _, _, _, _, _, _, _, _, rfl, rfl, hR⟩
  · have hbw : ∀ i, i < n → Wk n D F i < 2 ^ 31 := fun i hi => by have := Wk_b hN i hi; omega
    obtain ⟨r, q1, q2⟩ := sv_loop (dn := y1) h8 d1 (Oc_ok h8 hbw) hO.1 g2.2 d4 hj n 0 300 300 (by omega) (by omega) (by omega) 0 (by omega) (by omega)
    rw [nI_0] at q1 q2
    rw [if_neg (nI_nm1 (by omega)), if_pos (nI_pos' (by omega)), q2]
    unfold S_X0_servedThere
    rw [q1, Option.bind_some]
    exact ⟨_, _, _, _, _, _, _, _, _, _, _, _, rfl, rfl, hR⟩
set_option maxRecDepth 100000 in
theorem st_done (i1 : Int32) (i2 : Int32) (x_text_length : Int32) (x_text_letters : Nat → Int32) (x_shop_people : Int32) (x_shop_firstPace : Int32) (x_shop_secondPace : Int32) (x_shop_steps : Int32) (x_shop_kind : Nat → Int32) (x_shop_things : Nat → Int32) (x_shop_feet : Nat → Int32) (x_past_height : Int32) (x_past_pf : Nat → Option Nat) (x_past_ad : Nat → Nat) (x_past_pp : Nat → Int32) (x_past_fp : Nat → Int32) (x_past_sp : Nat → Int32) (x_past_st : Nat → Int32) (x_past_kd : Nat → Nat → Int32) (x_past_th : Nat → Nat → Int32) (x_past_ft : Nat → Nat → Int32) (x_shelf_height : Int32) (x_shelf_pf : Nat → Option Nat) (x_shelf_ad : Nat → Nat) (x_shelf_pp : Nat → Int32) (x_shelf_fp : Nat → Int32) (x_shelf_sp : Nat → Int32) (x_shelf_st : Nat → Int32) (x_shelf_kd : Nat → Nat → Int32) (x_shelf_th : Nat → Nat → Int32) (x_shelf_ft : Nat → Nat → Int32) (x_roll_length : Int32) (x_roll_who : Nat → Int32) (x_roll_where : Nat → Int32) (x_crossing_people : Int32) (x_crossing_away : Int32) (x_crossing_kind : Nat → Int32) (x_crossing_walk : Nat → Int32) (x_crossing_first : Nat → Int32) (x_crossing_second : Nat → Int32) (x_crossing_order : Nat → Int32) (x_crossing_ready : Nat → Int32) (m_letters : Int32) (m_undos : Int32) (m_away : Int32) (m_taped : Int32) (m_keeps : Int32) (m_row : Nat → Int32) (m_text : Nat → Int32) (m_undone : Nat → Int32) (m_order : Nat → Int32) (m_dones : Nat → Int32) (m_tapedWho : Nat → Int32) (m_tapedTill : Nat → Int32) (m_kept : Nat → Int32) (hR : Rel x_text_length x_text_letters x_shop_people x_shop_firstPace x_shop_secondPace x_shop_steps x_shop_kind x_shop_things x_shop_feet x_past_height x_past_pf x_past_ad x_past_pp x_past_fp x_past_sp x_past_st x_past_kd x_past_th x_past_ft x_shelf_height x_shelf_pf x_shelf_ad x_shelf_pp x_shelf_fp x_shelf_sp x_shelf_st x_shelf_kd x_shelf_th x_shelf_ft x_roll_length x_roll_who x_roll_where m_letters m_text m_row m_undos m_undone m_taped m_tapedWho m_tapedTill m_keeps m_kept) : ∃ (r : Int32) (o_x_crossing_people : Int32) (o_x_crossing_away : Int32) (o_x_crossing_kind : Nat → Int32) (o_x_crossing_walk : Nat → Int32) (o_x_crossing_first : Nat → Int32) (o_x_crossing_second : Nat → Int32) (o_x_crossing_order : Nat → Int32) (o_x_crossing_ready : Nat → Int32) (o_m_away : Int32) (o_m_order : Nat → Int32) (o_m_dones : Nat → Int32), S_X6_done i1 i2 x_shop_people x_shop_firstPace x_shop_secondPace x_shop_steps x_crossing_people x_crossing_away x_shop_kind x_crossing_kind x_shop_feet x_crossing_walk x_shop_things x_crossing_first x_crossing_second x_crossing_order x_crossing_ready = some (r, o_x_crossing_people, o_x_crossing_away, o_x_crossing_kind, o_x_crossing_walk, o_x_crossing_first, o_x_crossing_second, o_x_crossing_order, o_x_crossing_ready) ∧ S_X7_done i1 i2 m_away m_row m_order m_dones = some (r, o_m_away, o_m_order, o_m_dones) ∧ Rel x_text_length x_text_letters x_shop_people x_shop_firstPace x_shop_secondPace x_shop_steps x_shop_kind x_shop_things x_shop_feet x_past_height x_past_pf x_past_ad x_past_pp x_past_fp x_past_sp x_past_st x_past_kd x_past_th x_past_ft x_shelf_height x_shelf_pf x_shelf_ad x_shelf_pp x_shelf_fp x_shelf_sp x_shelf_st x_shelf_kd x_shelf_th x_shelf_ft x_roll_length x_roll_who x_roll_where m_letters m_text m_row m_undos m_undone m_taped m_tapedWho m_tapedTill m_keeps m_kept := by
  obtain ⟨h1, h2, h3, h4, h5⟩ := id hR
  unfold S_X6_done S_X7_done
  obtain ⟨n, V, U, D, K, T, F, hN, hS, hO⟩ := h2.nat
  have h8 := hN.1
  rcases pos_h h8 hO.1 i1 with ⟨p1, p2⟩ | ⟨p1, p2, p3⟩
  · rw [← hS.1] at p1
    rw [p1, p2, Option.bind_some, Option.bind_some]; exact ⟨-1, _, _, _, _, _, _, _, _, _, _, _, rfl, rfl, hR⟩
  rw [← hS.1] at p1
  rw [p1, p2, Option.bind_some, Option.bind_some, if_neg one_ne, if_neg one_ne, wi, inl _ 0 1 0 1 rfl rfl]
  by_cases b : (0 : Int32) ≤ i2 ∧ i2 ≤ 1
  rotate_left
  · rw [if_neg b]; exact ⟨-1, _, _, _, _, _, _, _, _, _, _, _, rfl, rfl, hR⟩
  rw [if_pos b, Option.bind_some, Option.bind_some, if_neg one_ne, if_neg one_ne]
  obtain ⟨kd', wk', fs', sc', od', g1, g2⟩ := la_h hN hS x_crossing_kind x_crossing_walk x_crossing_first x_crossing_second x_crossing_order
  obtain ⟨aw, R, x1, od7, y1, d1, d2, d3, d4, d5, d6, d7⟩ := dec_h hN g2 hO x_crossing_ready m_dones m_order
  rw [g1, Option.bind_some]
  unfold jn
  dsimp only
  by_cases c : i2 = 1
  · rw [if_pos c, if_pos c, d2, d3, Option.bind_some, Option.bind_some]
    dsimp only
    obtain ⟨r, e1, e2⟩ := ask_h h8 hO.1 d6 d7 d5 p3
    rw [e1, e2, Option.bind_some, Option.bind_some]
    exact ⟨_, _, _, _, _, _, _, _, _, _, _, _, rfl, rfl, hR⟩
  · obtain ⟨x2, s1, s2⟩ := se_h hN g2 (a := 0) (by omega) x_crossing_ready
    obtain ⟨od2, y2, t1, t2⟩ := s7_h hN hO (a := 0) (by omega) m_order m_dones
    have hbr : ∀ i, i < n → RD n V U D T F 0 i ≤ 100000 := fun i hi => by have := RD_b hN 0 hi; omega
    obtain ⟨r, e1, e2⟩ := ask_h h8 hO.1 s2 t2 hbr p3
    rw [nI_0] at s1 t1
    rw [if_neg c, if_neg c, s1, t1, Option.bind_some, Option.bind_some]
    dsimp only
    rw [e1, e2, Option.bind_some, Option.bind_some]
    exact ⟨_, _, _, _, _, _, _, _, _, _, _, _, rfl, rfl, hR⟩
set_option maxRecDepth 100000 in
theorem st_overtaken (i1 : Int32) (x_text_length : Int32) (x_text_letters : Nat → Int32) (x_shop_people : Int32) (x_shop_firstPace : Int32) (x_shop_secondPace : Int32) (x_shop_steps : Int32) (x_shop_kind : Nat → Int32) (x_shop_things : Nat → Int32) (x_shop_feet : Nat → Int32) (x_past_height : Int32) (x_past_pf : Nat → Option Nat) (x_past_ad : Nat → Nat) (x_past_pp : Nat → Int32) (x_past_fp : Nat → Int32) (x_past_sp : Nat → Int32) (x_past_st : Nat → Int32) (x_past_kd : Nat → Nat → Int32) (x_past_th : Nat → Nat → Int32) (x_past_ft : Nat → Nat → Int32) (x_shelf_height : Int32) (x_shelf_pf : Nat → Option Nat) (x_shelf_ad : Nat → Nat) (x_shelf_pp : Nat → Int32) (x_shelf_fp : Nat → Int32) (x_shelf_sp : Nat → Int32) (x_shelf_st : Nat → Int32) (x_shelf_kd : Nat → Nat → Int32) (x_shelf_th : Nat → Nat → Int32) (x_shelf_ft : Nat → Nat → Int32) (x_roll_length : Int32) (x_roll_who : Nat → Int32) (x_roll_where : Nat → Int32) (x_crossing_people : Int32) (x_crossing_away : Int32) (x_crossing_kind : Nat → Int32) (x_crossing_walk : Nat → Int32) (x_crossing_first : Nat → Int32) (x_crossing_second : Nat → Int32) (x_crossing_order : Nat → Int32) (x_crossing_ready : Nat → Int32) (m_letters : Int32) (m_undos : Int32) (m_away : Int32) (m_taped : Int32) (m_keeps : Int32) (m_row : Nat → Int32) (m_text : Nat → Int32) (m_undone : Nat → Int32) (m_order : Nat → Int32) (m_dones : Nat → Int32) (m_tapedWho : Nat → Int32) (m_tapedTill : Nat → Int32) (m_kept : Nat → Int32) (hR : Rel x_text_length x_text_letters x_shop_people x_shop_firstPace x_shop_secondPace x_shop_steps x_shop_kind x_shop_things x_shop_feet x_past_height x_past_pf x_past_ad x_past_pp x_past_fp x_past_sp x_past_st x_past_kd x_past_th x_past_ft x_shelf_height x_shelf_pf x_shelf_ad x_shelf_pp x_shelf_fp x_shelf_sp x_shelf_st x_shelf_kd x_shelf_th x_shelf_ft x_roll_length x_roll_who x_roll_where m_letters m_text m_row m_undos m_undone m_taped m_tapedWho m_tapedTill m_keeps m_kept) : ∃ (r : Int32) (o_x_crossing_people : Int32) (o_x_crossing_away : Int32) (o_x_crossing_kind : Nat → Int32) (o_x_crossing_walk : Nat → Int32) (o_x_crossing_first : Nat → Int32) (o_x_crossing_second : Nat → Int32) (o_x_crossing_order : Nat → Int32) (o_x_crossing_ready : Nat → Int32) (o_m_away : Int32) (o_m_order : Nat → Int32) (o_m_dones : Nat → Int32), S_X6_overtaken i1 x_shop_people x_shop_firstPace x_shop_secondPace x_shop_steps x_crossing_people x_crossing_away x_shop_kind x_crossing_kind x_shop_feet x_crossing_walk x_shop_things x_crossing_first x_crossing_second x_crossing_order x_crossing_ready = some (r, o_x_crossing_people, o_x_crossing_away, o_x_crossing_kind, o_x_crossing_walk, o_x_crossing_first, o_x_crossing_second, o_x_crossing_order, o_x_crossing_ready) ∧ S_X7_overtaken i1 m_away m_row m_order m_dones = some (r, o_m_away, o_m_order, o_m_dones) ∧ Rel x_text_length x_text_letters x_shop_people x_shop_firstPace x_shop_secondPace x_shop_steps x_shop_kind x_shop_things x_shop_feet x_past_height x_past_pf x_past_ad x_past_pp x_past_fp x_past_sp x_past_st x_past_kd x_past_th x_past_ft x_shelf_height x_shelf_pf x_shelf_ad x_shelf_pp x_shelf_fp x_shelf_sp x_shelf_st x_shelf_kd x_shelf_th x_shelf_ft x_roll_length x_roll_who x_roll_where m_letters m_text m_row m_undos m_undone m_taped m_tapedWho m_tapedTill m_keeps m_kept := by
  obtain ⟨h1, h2, h3, h4, h5⟩ := id hR
  unfold S_X6_overtaken S_X7_overtaken jn
  dsimp only
  obtain ⟨n, V, U, D, K, T, F, hN, hS, hO⟩ := h2.nat
  have h8 := hN.1
  obtain ⟨kd', wk', fs', sc', od', g1, g2⟩ := la_h hN hS x_crossing_kind x_crossing_walk x_crossing_first x_crossing_second x_crossing_order
  obtain ⟨aw, R, x1, od7, y1, d1, d2, d3, d4, d5, d6, d7⟩ := dec_h hN g2 hO x_crossing_ready m_dones m_order
  rw [g1, Option.bind_some]
  dsimp only
  rw [d2, d3, Option.bind_some, Option.bind_some]
  dsimp only
  by_cases c : i1 = -1
  · subst c
    rw [if_pos rfl, if_pos rfl, if_pos rfl, if_neg (show ¬ (0 : Int32) ≤ -1 by decide), ovs3 h8 d5 d6, ovs7 h8 hO.1 d5 d7, Option.bind_some, Option.bind_some]
    exact ⟨_, _, _, _, _, _, _, _, _, _, _, _, rfl, rfl, hR⟩
  · rw [if_neg c, if_neg c, if_neg c]
    rcases ix_split i1 (n := n) (by omega) with q | ⟨j, hj, rfl⟩
    · have e := has_no q
      rw [← hS.1] at e
      rw [e, isP_no (by omega) hO.1 q, Option.bind_some, Option.bind_some, if_pos rfl, if_pos rfl]
      exact ⟨_, _, _, _, _, _, _, _, _, _, _, _, rfl, rfl, hR⟩
    · have e := has_in hj (show n < 2 ^ 31 by omega)
      rw [← hS.1] at e
      rw [e, isP_in (by omega) hO.1 hj, Option.bind_some, Option.bind_some, if_neg one_ne, if_neg one_ne, if_pos (nI_pos' (by omega)), ov3 h8 hj d5 d6, ov7 h8 hO.1 hj d5 d7, Option.bind_some, Option.bind_some]
      exact ⟨_, _, _, _, _, _, _, _, _, _, _, _, rfl, rfl, hR⟩
