set_option maxRecDepth 100000 in
theorem st_come (i1 : Int32) (i2 : Int32) (i3 : Int32) (x_text_length : Int32) (x_text_letters : Nat → Int32) (x_shop_people : Int32) (x_shop_firstPace : Int32) (x_shop_secondPace : Int32) (x_shop_steps : Int32) (x_shop_kind : Nat → Int32) (x_shop_things : Nat → Int32) (x_shop_feet : Nat → Int32) (x_past_height : Int32) (x_past_pf : Nat → Option Nat) (x_past_ad : Nat → Nat) (x_past_a1 : Nat → Nat) (x_past_a2 : Nat → Nat) (x_past_a3 : Nat → Nat) (x_past_pp : Nat → Int32) (x_past_fp : Nat → Int32) (x_past_sp : Nat → Int32) (x_past_st : Nat → Int32) (x_past_kd : Nat → Nat → Int32) (x_past_th : Nat → Nat → Int32) (x_past_ft : Nat → Nat → Int32) (x_shelf_height : Int32) (x_shelf_pf : Nat → Option Nat) (x_shelf_ad : Nat → Nat) (x_shelf_pp : Nat → Int32) (x_shelf_fp : Nat → Int32) (x_shelf_sp : Nat → Int32) (x_shelf_st : Nat → Int32) (x_shelf_kd : Nat → Nat → Int32) (x_shelf_th : Nat → Nat → Int32) (x_shelf_ft : Nat → Nat → Int32) (x_roll_length : Int32) (x_roll_who : Nat → Int32) (x_roll_where : Nat → Int32) (m_letters : Int32) (m_undos : Int32) (m_taped : Int32) (m_keeps : Int32) (m_row : Nat → Int32) (m_text : Nat → Int32) (m_undone : Nat → Int32) (m_tapedWho : Nat → Int32) (m_tapedTill : Nat → Int32) (m_kept : Nat → Int32) (hR : Rel x_text_length x_text_letters x_shop_people x_shop_firstPace x_shop_secondPace x_shop_steps x_shop_kind x_shop_things x_shop_feet x_past_height x_past_pf x_past_ad x_past_pp x_past_fp x_past_sp x_past_st x_past_kd x_past_th x_past_ft x_shelf_height x_shelf_pf x_shelf_ad x_shelf_pp x_shelf_fp x_shelf_sp x_shelf_st x_shelf_kd x_shelf_th x_shelf_ft x_roll_length x_roll_who x_roll_where m_letters m_text m_row m_undos m_undone m_taped m_tapedWho m_tapedTill m_keeps m_kept) : ∃ (r : Int32) (o_x_shop_people : Int32) (o_x_past_height : Int32) (o_x_past_pf : Nat → Option Nat) (o_x_past_ad : Nat → Nat) (o_x_past_a1 : Nat → Nat) (o_x_past_a2 : Nat → Nat) (o_x_past_a3 : Nat → Nat) (o_x_past_pp : Nat → Int32) (o_x_past_fp : Nat → Int32) (o_x_past_sp : Nat → Int32) (o_x_past_st : Nat → Int32) (o_x_past_kd : Nat → Nat → Int32) (o_x_past_th : Nat → Nat → Int32) (o_x_past_ft : Nat → Nat → Int32) (o_x_shop_kind : Nat → Int32) (o_x_shop_things : Nat → Int32) (o_x_shop_feet : Nat → Int32) (o_x_roll_length : Int32) (o_m_undos : Int32) (o_m_taped : Int32) (o_m_row : Nat → Int32) (o_m_undone : Nat → Int32), S_X6_come i1 i2 i3 x_shop_people x_shop_firstPace x_shop_secondPace x_shop_steps x_past_height x_past_pf x_past_ad x_past_a1 x_past_a2 x_past_a3 x_past_pp x_past_fp x_past_sp x_past_st x_past_kd x_past_th x_past_ft x_shop_kind x_shop_things x_shop_feet x_roll_length = some (r, o_x_shop_people, o_x_past_height, o_x_past_pf, o_x_past_ad, o_x_past_a1, o_x_past_a2, o_x_past_a3, o_x_past_pp, o_x_past_fp, o_x_past_sp, o_x_past_st, o_x_past_kd, o_x_past_th, o_x_past_ft, o_x_shop_kind, o_x_shop_things, o_x_shop_feet, o_x_roll_length) ∧ S_X7_come i1 i2 i3 m_undos m_taped m_row m_undone = some (r, o_m_undos, o_m_taped, o_m_row, o_m_undone) ∧ Rel x_text_length x_text_letters o_x_shop_people x_shop_firstPace x_shop_secondPace x_shop_steps o_x_shop_kind o_x_shop_things o_x_shop_feet o_x_past_height o_x_past_pf o_x_past_ad o_x_past_pp o_x_past_fp o_x_past_sp o_x_past_st o_x_past_kd o_x_past_th o_x_past_ft x_shelf_height x_shelf_pf x_shelf_ad x_shelf_pp x_shelf_fp x_shelf_sp x_shelf_st x_shelf_kd x_shelf_th x_shelf_ft o_x_roll_length x_roll_who x_roll_where m_letters m_text o_m_row o_m_undos o_m_undone o_m_taped m_tapedWho m_tapedTill m_keeps m_kept := by
  obtain ⟨h1, h2, h3, h4, h5⟩ := id hR
  unfold S_X6_come S_X7_come
  have no : ∀ (P : Prop), P → P := fun _ h => h
  rw [inl _ 0 3 0 3 rfl rfl]
  by_cases a : (0 : Int32) ≤ i1 ∧ i1 ≤ 3
  rotate_left
  · rw [if_neg a]
    unfold S_X6_isPerson
    rw [wi, if_neg a]
    exact ⟨-1, _, _, _, _, _, _, _, _, _, _, _, _, _, _, _, _, _, _, _, _, _, _, rfl, rfl, hR⟩
  rw [if_pos a, Option.bind_some, if_neg one_ne, inl _ 1 20 1 20 rfl rfl]
  by_cases b : (1 : Int32) ≤ i2 ∧ i2 ≤ 20
  rotate_left
  · rw [if_neg b]
    unfold S_X6_isPerson
    rw [wi, if_pos a, Option.bind_some, if_neg one_ne, wi, if_neg b]
    exact ⟨-1, _, _, _, _, _, _, _, _, _, _, _, _, _, _, _, _, _, _, _, _, _, _, rfl, rfl, hR⟩
  rw [if_pos b, Option.bind_some, if_neg one_ne, inl _ 1 9 1 9 rfl rfl]
  by_cases c : (1 : Int32) ≤ i3 ∧ i3 ≤ 9
  rotate_left
  · rw [if_neg c]
    unfold S_X6_isPerson
    rw [wi, if_pos a, Option.bind_some, if_neg one_ne, wi, if_pos b, Option.bind_some, if_neg one_ne, wi, if_neg c]
    exact ⟨-1, _, _, _, _, _, _, _, _, _, _, _, _, _, _, _, _, _, _, _, _, _, _, rfl, rfl, hR⟩
  rw [if_pos c, Option.bind_some, if_neg one_ne]
  obtain ⟨k, -, hk, rfl⟩ := lit_of (A := 0) (B := 3) rfl rfl (by omega) (by omega) a
  obtain ⟨t, ht1, ht2, rfl⟩ := lit_of (A := 1) (B := 20) rfl rfl (by omega) (by omega) b
  obtain ⟨f, hf1, hf2, rfl⟩ := lit_of (A := 1) (B := 9) rfl rfl (by omega) (by omega) c
  rw [isPer hk ht1 ht2 hf1 hf2, Option.bind_some, if_neg one_ne]
  obtain ⟨n, hV, r0, r1, r2, r3, hi⟩ := id h2
  have hn8 := hV.1
  have hpp := hV.2.1
  subst hpp
  rw [r0]
  by_cases h8 : n = 8
  · subst h8
    rw [if_neg (by decide), if_pos (by decide)]
    exact ⟨-3, _, _, _, _, _, _, _, _, _, _, _, _, _, _, _, _, _, _, _, _, _, _, rfl, rfl, hR⟩
  · rw [if_pos (show nI n < (8 : Int32) from nI_lt (b := 8) (by omega) (by omega)), if_neg (show ¬ nI n = (8 : Int32) from fun q => h8 ((nI_eq (b := 8) (by omega) (by omega)).mp q))]
    obtain ⟨hgt', pf', ad', a1', a2', a3', pp', fp', sp', st', kd', th', ft', und', arr', e1, e2, e3⟩ := note_step x_past_a1 x_past_a2 x_past_a3 h3 h2
    obtain ⟨g1, g2⟩ := RR_app h2 (by omega) hk ht1 ht2 hf1 hf2
    unfold S_X6_beforeRowChanges
    rw [e1, e2, g1, Option.bind_some, Option.bind_some]
    dsimp only
    rw [Option.bind_some]
    dsimp only
    rw [app3 (by omega) hk ht1 ht2 hf1 hf2]
    exact ⟨_, _, _, _, _, _, _, _, _, _, _, _, _, _, _, _, _, _, _, _, _, _, _, rfl, rfl, h1, g2, e3, h4, tape0⟩
set_option maxRecDepth 100000 in
theorem st_leave (i1 : Int32) (x_text_length : Int32) (x_text_letters : Nat → Int32) (x_shop_people : Int32) (x_shop_firstPace : Int32) (x_shop_secondPace : Int32) (x_shop_steps : Int32) (x_shop_kind : Nat → Int32) (x_shop_things : Nat → Int32) (x_shop_feet : Nat → Int32) (x_past_height : Int32) (x_past_pf : Nat → Option Nat) (x_past_ad : Nat → Nat) (x_past_a1 : Nat → Nat) (x_past_a2 : Nat → Nat) (x_past_a3 : Nat → Nat) (x_past_pp : Nat → Int32) (x_past_fp : Nat → Int32) (x_past_sp : Nat → Int32) (x_past_st : Nat → Int32) (x_past_kd : Nat → Nat → Int32) (x_past_th : Nat → Nat → Int32) (x_past_ft : Nat → Nat → Int32) (x_shelf_height : Int32) (x_shelf_pf : Nat → Option Nat) (x_shelf_ad : Nat → Nat) (x_shelf_pp : Nat → Int32) (x_shelf_fp : Nat → Int32) (x_shelf_sp : Nat → Int32) (x_shelf_st : Nat → Int32) (x_shelf_kd : Nat → Nat → Int32) (x_shelf_th : Nat → Nat → Int32) (x_shelf_ft : Nat → Nat → Int32) (x_roll_length : Int32) (x_roll_who : Nat → Int32) (x_roll_where : Nat → Int32) (m_letters : Int32) (m_undos : Int32) (m_taped : Int32) (m_keeps : Int32) (m_row : Nat → Int32) (m_text : Nat → Int32) (m_undone : Nat → Int32) (m_tapedWho : Nat → Int32) (m_tapedTill : Nat → Int32) (m_kept : Nat → Int32) (hR : Rel x_text_length x_text_letters x_shop_people x_shop_firstPace x_shop_secondPace x_shop_steps x_shop_kind x_shop_things x_shop_feet x_past_height x_past_pf x_past_ad x_past_pp x_past_fp x_past_sp x_past_st x_past_kd x_past_th x_past_ft x_shelf_height x_shelf_pf x_shelf_ad x_shelf_pp x_shelf_fp x_shelf_sp x_shelf_st x_shelf_kd x_shelf_th x_shelf_ft x_roll_length x_roll_who x_roll_where m_letters m_text m_row m_undos m_undone m_taped m_tapedWho m_tapedTill m_keeps m_kept) : ∃ (r : Int32) (o_x_shop_people : Int32) (o_x_past_height : Int32) (o_x_past_pf : Nat → Option Nat) (o_x_past_ad : Nat → Nat) (o_x_past_a1 : Nat → Nat) (o_x_past_a2 : Nat → Nat) (o_x_past_a3 : Nat → Nat) (o_x_past_pp : Nat → Int32) (o_x_past_fp : Nat → Int32) (o_x_past_sp : Nat → Int32) (o_x_past_st : Nat → Int32) (o_x_past_kd : Nat → Nat → Int32) (o_x_past_th : Nat → Nat → Int32) (o_x_past_ft : Nat → Nat → Int32) (o_x_shop_kind : Nat → Int32) (o_x_shop_things : Nat → Int32) (o_x_shop_feet : Nat → Int32) (o_x_roll_length : Int32) (o_m_undos : Int32) (o_m_taped : Int32) (o_m_row : Nat → Int32) (o_m_undone : Nat → Int32), S_X6_leave i1 x_shop_people x_shop_firstPace x_shop_secondPace x_shop_steps x_past_height x_past_pf x_past_ad x_past_a1 x_past_a2 x_past_a3 x_past_pp x_past_fp x_past_sp x_past_st x_past_kd x_past_th x_past_ft x_shop_kind x_shop_things x_shop_feet x_roll_length = some (r, o_x_shop_people, o_x_past_height, o_x_past_pf, o_x_past_ad, o_x_past_a1, o_x_past_a2, o_x_past_a3, o_x_past_pp, o_x_past_fp, o_x_past_sp, o_x_past_st, o_x_past_kd, o_x_past_th, o_x_past_ft, o_x_shop_kind, o_x_shop_things, o_x_shop_feet, o_x_roll_length) ∧ S_X7_leave i1 m_undos m_taped m_row m_undone = some (r, o_m_undos, o_m_taped, o_m_row, o_m_undone) ∧ Rel x_text_length x_text_letters o_x_shop_people x_shop_firstPace x_shop_secondPace x_shop_steps o_x_shop_kind o_x_shop_things o_x_shop_feet o_x_past_height o_x_past_pf o_x_past_ad o_x_past_pp o_x_past_fp o_x_past_sp o_x_past_st o_x_past_kd o_x_past_th o_x_past_ft x_shelf_height x_shelf_pf x_shelf_ad x_shelf_pp x_shelf_fp x_shelf_sp x_shelf_st x_shelf_kd x_shelf_th x_shelf_ft o_x_roll_length x_roll_who x_roll_where m_letters m_text o_m_row o_m_undos o_m_undone o_m_taped m_tapedWho m_tapedTill m_keeps m_kept := by
  obtain ⟨h1, h2, h3, h4, h5⟩ := id hR
  unfold S_X6_leave S_X7_leave
  obtain ⟨n, hV, r0, r1, r2, r3, hi⟩ := id h2
  have hn8 := hV.1
  have hpp := hV.2.1
  subst hpp
  rcases ix_split i1 (n := n) (by omega) with h | ⟨j, hjn, rfl⟩
  · rw [has_no h, isP_no (by omega) r0 h]
    exact ⟨-1, _, _, _, _, _, _, _, _, _, _, _, _, _, _, _, _, _, _, _, _, _, _, rfl, rfl, hR⟩
  · rw [has_in hjn (by omega), isP_in (by omega) r0 hjn, Option.bind_some, Option.bind_some, if_neg one_ne, if_neg one_ne]
    obtain ⟨hgt', pf', ad', a1', a2', a3', pp', fp', sp', st', kd', th', ft', und', arr', e1, e2, e3⟩ := note_step x_past_a1 x_past_a2 x_past_a3 h3 h2
    obtain ⟨k', t', w', row', g1, g2, g3, -⟩ := RR_rm h2 hn8 hjn
    unfold S_X6_beforeRowChanges
    rw [e1, e2, g2, Option.bind_some, Option.bind_some]
    dsimp only
    rw [Option.bind_some]
    dsimp only
    rw [g1]
    have hr' : row' 0 = nI (n - 1) := by obtain ⟨_, _, q, _⟩ := g3; exact q
    exact ⟨_, _, _, _, _, _, _, _, _, _, _, _, _, _, _, _, _, _, _, _, _, _, _, rfl, by rw [Option.bind_some, hr'], h1, g3, e3, h4, tape0⟩
set_option maxRecDepth 100000 in
theorem st_pass (i1 : Int32) (x_text_length : Int32) (x_text_letters : Nat → Int32) (x_shop_people : Int32) (x_shop_firstPace : Int32) (x_shop_secondPace : Int32) (x_shop_steps : Int32) (x_shop_kind : Nat → Int32) (x_shop_things : Nat → Int32) (x_shop_feet : Nat → Int32) (x_past_height : Int32) (x_past_pf : Nat → Option Nat) (x_past_ad : Nat → Nat) (x_past_a1 : Nat → Nat) (x_past_a2 : Nat → Nat) (x_past_a3 : Nat → Nat) (x_past_pp : Nat → Int32) (x_past_fp : Nat → Int32) (x_past_sp : Nat → Int32) (x_past_st : Nat → Int32) (x_past_kd : Nat → Nat → Int32) (x_past_th : Nat → Nat → Int32) (x_past_ft : Nat → Nat → Int32) (x_shelf_height : Int32) (x_shelf_pf : Nat → Option Nat) (x_shelf_ad : Nat → Nat) (x_shelf_pp : Nat → Int32) (x_shelf_fp : Nat → Int32) (x_shelf_sp : Nat → Int32) (x_shelf_st : Nat → Int32) (x_shelf_kd : Nat → Nat → Int32) (x_shelf_th : Nat → Nat → Int32) (x_shelf_ft : Nat → Nat → Int32) (x_roll_length : Int32) (x_roll_who : Nat → Int32) (x_roll_where : Nat → Int32) (m_letters : Int32) (m_undos : Int32) (m_taped : Int32) (m_keeps : Int32) (m_row : Nat → Int32) (m_text : Nat → Int32) (m_undone : Nat → Int32) (m_tapedWho : Nat → Int32) (m_tapedTill : Nat → Int32) (m_kept : Nat → Int32) (hR : Rel x_text_length x_text_letters x_shop_people x_shop_firstPace x_shop_secondPace x_shop_steps x_shop_kind x_shop_things x_shop_feet x_past_height x_past_pf x_past_ad x_past_pp x_past_fp x_past_sp x_past_st x_past_kd x_past_th x_past_ft x_shelf_height x_shelf_pf x_shelf_ad x_shelf_pp x_shelf_fp x_shelf_sp x_shelf_st x_shelf_kd x_shelf_th x_shelf_ft x_roll_length x_roll_who x_roll_where m_letters m_text m_row m_undos m_undone m_taped m_tapedWho m_tapedTill m_keeps m_kept) : ∃ (r : Int32) (o_x_past_height : Int32) (o_x_past_pf : Nat → Option Nat) (o_x_past_ad : Nat → Nat) (o_x_past_a1 : Nat → Nat) (o_x_past_a2 : Nat → Nat) (o_x_past_a3 : Nat → Nat) (o_x_past_pp : Nat → Int32) (o_x_past_fp : Nat → Int32) (o_x_past_sp : Nat → Int32) (o_x_past_st : Nat → Int32) (o_x_past_kd : Nat → Nat → Int32) (o_x_past_th : Nat → Nat → Int32) (o_x_past_ft : Nat → Nat → Int32) (o_x_shop_people : Int32) (o_x_shop_kind : Nat → Int32) (o_x_shop_things : Nat → Int32) (o_x_shop_feet : Nat → Int32) (o_x_roll_length : Int32) (o_m_undos : Int32) (o_m_taped : Int32) (o_m_undone : Nat → Int32) (o_m_row : Nat → Int32), S_X6_pass i1 x_past_height x_past_pf x_past_ad x_past_a1 x_past_a2 x_past_a3 x_past_pp x_past_fp x_past_sp x_past_st x_past_kd x_past_th x_past_ft x_shop_people x_shop_firstPace x_shop_secondPace x_shop_steps x_shop_kind x_shop_things x_shop_feet x_roll_length = some (r, o_x_past_height, o_x_past_pf, o_x_past_ad, o_x_past_a1, o_x_past_a2, o_x_past_a3, o_x_past_pp, o_x_past_fp, o_x_past_sp, o_x_past_st, o_x_past_kd, o_x_past_th, o_x_past_ft, o_x_shop_people, o_x_shop_kind, o_x_shop_things, o_x_shop_feet, o_x_roll_length) ∧ S_X7_pass i1 m_undos m_taped m_undone m_row = some (r, o_m_undos, o_m_taped, o_m_undone, o_m_row) ∧ Rel x_text_length x_text_letters o_x_shop_people x_shop_firstPace x_shop_secondPace x_shop_steps o_x_shop_kind o_x_shop_things o_x_shop_feet o_x_past_height o_x_past_pf o_x_past_ad o_x_past_pp o_x_past_fp o_x_past_sp o_x_past_st o_x_past_kd o_x_past_th o_x_past_ft x_shelf_height x_shelf_pf x_shelf_ad x_shelf_pp x_shelf_fp x_shelf_sp x_shelf_st x_shelf_kd x_shelf_th x_shelf_ft o_x_roll_length x_roll_who x_roll_where m_letters m_text o_m_row o_m_undos o_m_undone o_m_taped m_tapedWho m_tapedTill m_keeps m_kept := by
  obtain ⟨h1, h2, h3, h4, h5⟩ := id hR
  unfold S_X6_pass S_X7_pass
  rw [wi, inl _ 1 200 1 200 rfl rfl]
  by_cases h : (1 : Int32) ≤ i1 ∧ i1 ≤ 200
  rotate_left
  · rw [if_neg h]
    exact ⟨-1, _, _, _, _, _, _, _, _, _, _, _, _, _, _, _, _, _, _, _, _, _, _, rfl, rfl, hR⟩
  · rw [if_pos h, Option.bind_some, Option.bind_some, if_neg one_ne, if_neg one_ne]
    obtain ⟨t, ht1, ht2, rfl⟩ := lit_of (A := 1) (B := 200) rfl rfl (by omega) (by omega) h
    obtain ⟨hgt', pf', ad', a1', a2', a3', pp', fp', sp', st', kd', th', ft', und', arr', e1, e2, e3⟩ := note_step x_past_a1 x_past_a2 x_past_a3 h3 h2
    obtain ⟨n, hV, r0, r1, r2, r3, hi⟩ := id h2
    have hn8 := hV.1
    have hpp := hV.2.1
    subst hpp
    obtain ⟨v, hv1, hv2, hv⟩ := hV.2.2.1
    subst hv
    obtain ⟨j, n', t', k', w', row', g0, g1, g2, g3⟩ := lg_h (t := t) hn8 hv1 hv2 (by omega) h2
    unfold S_X6_beforeRowChanges
    rw [e1, e2, g2, Option.bind_some, Option.bind_some]
    dsimp only
    rw [Option.bind_some]
    dsimp only
    rw [g1]
    have hr' : row' 0 = nI n' := by obtain ⟨_, _, q, _⟩ := g3; exact q
    exact ⟨_, _, _, _, _, _, _, _, _, _, _, _, _, _, _, _, _, _, _, _, _, _, _, rfl, by rw [Option.bind_some]; dsimp only; rw [hr'], h1, g3, e3, h4, tape0⟩
set_option maxRecDepth 100000 in
theorem st_day (i1 : Int32) (i2 : Int32) (i3 : Int32) (x_text_length : Int32) (x_text_letters : Nat → Int32) (x_shop_people : Int32) (x_shop_firstPace : Int32) (x_shop_secondPace : Int32) (x_shop_steps : Int32) (x_shop_kind : Nat → Int32) (x_shop_things : Nat → Int32) (x_shop_feet : Nat → Int32) (x_spare_people : Int32) (x_spare_firstPace : Int32) (x_spare_secondPace : Int32) (x_spare_steps : Int32) (x_spare_kind : Nat → Int32) (x_spare_things : Nat → Int32) (x_spare_feet : Nat → Int32) (x_past_height : Int32) (x_past_pf : Nat → Option Nat) (x_past_ad : Nat → Nat) (x_past_pp : Nat → Int32) (x_past_fp : Nat → Int32) (x_past_sp : Nat → Int32) (x_past_st : Nat → Int32) (x_past_kd : Nat → Nat → Int32) (x_past_th : Nat → Nat → Int32) (x_past_ft : Nat → Nat → Int32) (x_shelf_height : Int32) (x_shelf_pf : Nat → Option Nat) (x_shelf_ad : Nat → Nat) (x_shelf_pp : Nat → Int32) (x_shelf_fp : Nat → Int32) (x_shelf_sp : Nat → Int32) (x_shelf_st : Nat → Int32) (x_shelf_kd : Nat → Nat → Int32) (x_shelf_th : Nat → Nat → Int32) (x_shelf_ft : Nat → Nat → Int32) (x_roll_length : Int32) (x_roll_who : Nat → Int32) (x_roll_where : Nat → Int32) (m_letters : Int32) (m_undos : Int32) (m_taped : Int32) (m_keeps : Int32) (m_row : Nat → Int32) (m_text : Nat → Int32) (m_undone : Nat → Int32) (m_aside : Nat → Int32) (m_tapedWho : Nat → Int32) (m_tapedTill : Nat → Int32) (m_kept : Nat → Int32) (hR : Rel x_text_length x_text_letters x_shop_people x_shop_firstPace x_shop_secondPace x_shop_steps x_shop_kind x_shop_things x_shop_feet x_past_height x_past_pf x_past_ad x_past_pp x_past_fp x_past_sp x_past_st x_past_kd x_past_th x_past_ft x_shelf_height x_shelf_pf x_shelf_ad x_shelf_pp x_shelf_fp x_shelf_sp x_shelf_st x_shelf_kd x_shelf_th x_shelf_ft x_roll_length x_roll_who x_roll_where m_letters m_text m_row m_undos m_undone m_taped m_tapedWho m_tapedTill m_keeps m_kept) : ∃ (r : Int32) (o_x_spare_people : Int32) (o_x_spare_firstPace : Int32) (o_x_spare_secondPace : Int32) (o_x_spare_steps : Int32) (o_x_spare_kind : Nat → Int32) (o_x_spare_things : Nat → Int32) (o_x_spare_feet : Nat → Int32) (o_m_row : Nat → Int32) (o_m_aside : Nat → Int32), S_X6_day i1 i2 i3 x_spare_people x_spare_firstPace x_spare_secondPace x_spare_steps x_shop_people x_shop_firstPace x_shop_secondPace x_shop_steps x_shop_kind x_spare_kind x_shop_things x_spare_things x_shop_feet x_spare_feet = some (r, o_x_spare_people, o_x_spare_firstPace, o_x_spare_secondPace, o_x_spare_steps, o_x_spare_kind, o_x_spare_things, o_x_spare_feet) ∧ S_X7_day i1 i2 i3 m_row m_aside = some (r, o_m_row, o_m_aside) ∧ Rel x_text_length x_text_letters x_shop_people x_shop_firstPace x_shop_secondPace x_shop_steps x_shop_kind x_shop_things x_shop_feet x_past_height x_past_pf x_past_ad x_past_pp x_past_fp x_past_sp x_past_st x_past_kd x_past_th x_past_ft x_shelf_height x_shelf_pf x_shelf_ad x_shelf_pp x_shelf_fp x_shelf_sp x_shelf_st x_shelf_kd x_shelf_th x_shelf_ft x_roll_length x_roll_who x_roll_where m_letters m_text o_m_row m_undos m_undone m_taped m_tapedWho m_tapedTill m_keeps m_kept := by
  obtain ⟨h1, h2, h3, h4, h5⟩ := id hR
  unfold S_X6_day S_X7_day
  rw [wi, inl _ 0 9999 0 9999 rfl rfl]
  by_cases a : (0 : Int32) ≤ i1 ∧ i1 ≤ 9999
  rotate_left
  · rw [if_neg a]; exact ⟨-1, _, _, _, _, _, _, _, _, _, rfl, rfl, hR⟩
  rw [if_pos a, Option.bind_some, Option.bind_some, if_neg one_ne, if_neg one_ne, wi, inl _ 1 30 1 30 rfl rfl]
  by_cases b : (1 : Int32) ≤ i2 ∧ i2 ≤ 30
  rotate_left
  · rw [if_neg b]; exact ⟨-1, _, _, _, _, _, _, _, _, _, rfl, rfl, hR⟩
  rw [if_pos b, Option.bind_some, Option.bind_some, if_neg one_ne, if_neg one_ne, wi, inl _ 0 1 0 1 rfl rfl]
  by_cases c : (0 : Int32) ≤ i3 ∧ i3 ≤ 1
  rotate_left
  · rw [if_neg c]; exact ⟨-1, _, _, _, _, _, _, _, _, _, rfl, rfl, hR⟩
  rw [if_pos c, Option.bind_some, Option.bind_some, if_neg one_ne, if_neg one_ne]
  obtain ⟨z, -, hz, rfl⟩ := lit_of (A := 0) (B := 9999) rfl rfl (by omega) (by omega) a
  obtain ⟨N, hN1, hN2, rfl⟩ := lit_of (A := 1) (B := 30) rfl rfl (by omega) (by omega) b
  obtain ⟨k', t', f', e1, e2⟩ := like_h x_shop_people x_shop_firstPace x_shop_secondPace x_shop_steps x_shop_kind x_shop_things x_shop_feet x_spare_kind x_spare_things x_spare_feet
  obtain ⟨a', g1, g2⟩ := as_h m_row m_aside
  rw [e1, g1, Option.bind_some, Option.bind_some]
  dsimp only
  obtain ⟨n, hV, -⟩ := id h2
  have hn8 := hV.1
  have hpp := hV.2.1
  obtain ⟨v, hv1, hv2, hv⟩ := hV.2.2.1
  subst hpp
  subst hv
  obtain ⟨r, p1, p2, p3, p4, k2, t2, w2, row2, q1, q2, q3⟩ := day_loop hz hN2 hv1 hv2 i3 x_shop_secondPace x_shop_steps a' N 0 300 300 (by omega) (by omega) (by omega) 0 n k' t' f' m_row hn8 (h2.congr e2 (fun _ _ => rfl))
  exact ⟨r, _, _, _, _, _, _, _, _, _, q1, q2, h1, h2.congr (fun _ _ => ⟨rfl, rfl, rfl⟩) (fun k hk => by rw [q3 k hk, g2 k hk]), h3, h4, h5⟩
