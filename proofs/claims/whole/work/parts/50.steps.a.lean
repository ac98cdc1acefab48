set_option maxRecDepth 100000 in
theorem st_write (i1 : Int32) (x_text_length : Int32) (x_text_letters : Nat → Int32) (x_shop_people : Int32) (x_shop_firstPace : Int32) (x_shop_secondPace : Int32) (x_shop_steps : Int32) (x_shop_kind : Nat → Int32) (x_shop_things : Nat → Int32) (x_shop_feet : Nat → Int32) (x_past_height : Int32) (x_past_pf : Nat → Option Nat) (x_past_ad : Nat → Nat) (x_past_pp : Nat → Int32) (x_past_fp : Nat → Int32) (x_past_sp : Nat → Int32) (x_past_st : Nat → Int32) (x_past_kd : Nat → Nat → Int32) (x_past_th : Nat → Nat → Int32) (x_past_ft : Nat → Nat → Int32) (x_shelf_height : Int32) (x_shelf_pf : Nat → Option Nat) (x_shelf_ad : Nat → Nat) (x_shelf_pp : Nat → Int32) (x_shelf_fp : Nat → Int32) (x_shelf_sp : Nat → Int32) (x_shelf_st : Nat → Int32) (x_shelf_kd : Nat → Nat → Int32) (x_shelf_th : Nat → Nat → Int32) (x_shelf_ft : Nat → Nat → Int32) (x_roll_length : Int32) (x_roll_who : Nat → Int32) (x_roll_where : Nat → Int32) (m_letters : Int32) (m_undos : Int32) (m_taped : Int32) (m_keeps : Int32) (m_row : Nat → Int32) (m_text : Nat → Int32) (m_undone : Nat → Int32) (m_tapedWho : Nat → Int32) (m_tapedTill : Nat → Int32) (m_kept : Nat → Int32) (hR : Rel x_text_length x_text_letters x_shop_people x_shop_firstPace x_shop_secondPace x_shop_steps x_shop_kind x_shop_things x_shop_feet x_past_height x_past_pf x_past_ad x_past_pp x_past_fp x_past_sp x_past_st x_past_kd x_past_th x_past_ft x_shelf_height x_shelf_pf x_shelf_ad x_shelf_pp x_shelf_fp x_shelf_sp x_shelf_st x_shelf_kd x_shelf_th x_shelf_ft x_roll_length x_roll_who x_roll_where m_letters m_text m_row m_undos m_undone m_taped m_tapedWho m_tapedTill m_keeps m_kept) : ∃ (r : Int32) (o_x_text_length : Int32) (o_x_text_letters : Nat → Int32) (o_m_letters : Int32) (o_m_text : Nat → Int32), S_X6_write i1 x_text_length x_text_letters = some (r, o_x_text_length, o_x_text_letters) ∧ S_X7_write i1 m_letters m_text = some (r, o_m_letters, o_m_text) ∧ Rel o_x_text_length o_x_text_letters x_shop_people x_shop_firstPace x_shop_secondPace x_shop_steps x_shop_kind x_shop_things x_shop_feet x_past_height x_past_pf x_past_ad x_past_pp x_past_fp x_past_sp x_past_st x_past_kd x_past_th x_past_ft x_shelf_height x_shelf_pf x_shelf_ad x_shelf_pp x_shelf_fp x_shelf_sp x_shelf_st x_shelf_kd x_shelf_th x_shelf_ft x_roll_length x_roll_who x_roll_where o_m_letters o_m_text m_row m_undos m_undone m_taped m_tapedWho m_tapedTill m_keeps m_kept := by
  obtain ⟨⟨t, ht, rfl, rfl, hj⟩, hR2⟩ := hR
  by_cases h : (32 : Int32) ≤ i1 ∧ i1 ≤ 126
  · obtain ⟨c, hc, rfl⟩ : ∃ c, c ≤ 126 ∧ i1 = nI c := nI_of2 (M := 126) (by decide) (fun q => absurd (Int32.le_trans h.1 (Int32.le_of_lt q)) (by decide)) h.2
    have hc32 : 32 ≤ c := (nI_leI (a := 32) (by omega) (by omega)).mp h.1
    by_cases h2 : t = 200
    · subst h2
      refine ⟨-3, nI 200, x_text_letters, nI 200, m_text, ?_, ?_, ⟨200, by omega, rfl, rfl, hj⟩, hR2⟩
      · unfold S_X6_write S_X5_append
        rw [wi, if_pos h]; rfl
      · unfold S_X7_write
        rw [inl _ 32 126 32 126 rfl rfl, if_pos h]; rfl
    · refine ⟨nI (t + 1), nI (t + 1), upd x_text_letters t (nI c), nI (t + 1), upd m_text t (nI c), ?_, ?_, ⟨t + 1, by omega, rfl, rfl, fun j hjt => ?_⟩, hR2⟩
      · unfold S_X6_write
        rw [wi, if_pos h, Option.bind_some, if_neg one_ne, ch_id (by omega), app_h _ _ _ (by omega), chn_id (by omega)]
        rfl
      · unfold S_X7_write
        rw [inl _ 32 126 32 126 rfl rfl, if_pos h, Option.bind_some, if_neg one_ne, if_neg (show ¬ nI t = (200 : Int32) from fun q => h2 ((nI_eq (b := 200) (by omega) (by omega)).mp q)), if_neg (nin' (by omega) (by omega)), nI_1, nI_clamp (by omega)]
      · by_cases e : j = t
        · subst e; exact ⟨c, hc32, hc, pk_us, pk_us⟩
        · rw [pk_un e, pk_un e]; exact hj j (by omega)
  · refine ⟨-1, nI t, x_text_letters, nI t, m_text, ?_, ?_, ⟨t, ht, rfl, rfl, hj⟩, hR2⟩
    · unfold S_X6_write
      rw [wi, if_neg h]; rfl
    · unfold S_X7_write
      rw [inl _ 32 126 32 126 rfl rfl, if_neg h]; rfl
set_option maxRecDepth 100000 in
theorem st_wipe (x_text_length : Int32) (x_text_letters : Nat → Int32) (x_shop_people : Int32) (x_shop_firstPace : Int32) (x_shop_secondPace : Int32) (x_shop_steps : Int32) (x_shop_kind : Nat → Int32) (x_shop_things : Nat → Int32) (x_shop_feet : Nat → Int32) (x_past_height : Int32) (x_past_pf : Nat → Option Nat) (x_past_ad : Nat → Nat) (x_past_pp : Nat → Int32) (x_past_fp : Nat → Int32) (x_past_sp : Nat → Int32) (x_past_st : Nat → Int32) (x_past_kd : Nat → Nat → Int32) (x_past_th : Nat → Nat → Int32) (x_past_ft : Nat → Nat → Int32) (x_shelf_height : Int32) (x_shelf_pf : Nat → Option Nat) (x_shelf_ad : Nat → Nat) (x_shelf_pp : Nat → Int32) (x_shelf_fp : Nat → Int32) (x_shelf_sp : Nat → Int32) (x_shelf_st : Nat → Int32) (x_shelf_kd : Nat → Nat → Int32) (x_shelf_th : Nat → Nat → Int32) (x_shelf_ft : Nat → Nat → Int32) (x_roll_length : Int32) (x_roll_who : Nat → Int32) (x_roll_where : Nat → Int32) (m_letters : Int32) (m_undos : Int32) (m_taped : Int32) (m_keeps : Int32) (m_row : Nat → Int32) (m_text : Nat → Int32) (m_undone : Nat → Int32) (m_tapedWho : Nat → Int32) (m_tapedTill : Nat → Int32) (m_kept : Nat → Int32) (hR : Rel x_text_length x_text_letters x_shop_people x_shop_firstPace x_shop_secondPace x_shop_steps x_shop_kind x_shop_things x_shop_feet x_past_height x_past_pf x_past_ad x_past_pp x_past_fp x_past_sp x_past_st x_past_kd x_past_th x_past_ft x_shelf_height x_shelf_pf x_shelf_ad x_shelf_pp x_shelf_fp x_shelf_sp x_shelf_st x_shelf_kd x_shelf_th x_shelf_ft x_roll_length x_roll_who x_roll_where m_letters m_text m_row m_undos m_undone m_taped m_tapedWho m_tapedTill m_keeps m_kept) : ∃ (r : Int32) (o_x_text_length : Int32) (o_m_letters : Int32), S_X6_wipe x_text_length = some (r, o_x_text_length) ∧ S_X7_wipe m_letters = some (r, o_m_letters) ∧ Rel o_x_text_length x_text_letters x_shop_people x_shop_firstPace x_shop_secondPace x_shop_steps x_shop_kind x_shop_things x_shop_feet x_past_height x_past_pf x_past_ad x_past_pp x_past_fp x_past_sp x_past_st x_past_kd x_past_th x_past_ft x_shelf_height x_shelf_pf x_shelf_ad x_shelf_pp x_shelf_fp x_shelf_sp x_shelf_st x_shelf_kd x_shelf_th x_shelf_ft x_roll_length x_roll_who x_roll_where o_m_letters m_text m_row m_undos m_undone m_taped m_tapedWho m_tapedTill m_keeps m_kept := by
  obtain ⟨⟨t, ht, rfl, rfl, hj⟩, hR2⟩ := hR
  exact ⟨nI t, 0, 0, rfl, rfl, ⟨0, by omega, rfl, rfl, fun j h => absurd h (by omega)⟩, hR2⟩
set_option maxRecDepth 100000 in
theorem st_forget (x_text_length : Int32) (x_text_letters : Nat → Int32) (x_shop_people : Int32) (x_shop_firstPace : Int32) (x_shop_secondPace : Int32) (x_shop_steps : Int32) (x_shop_kind : Nat → Int32) (x_shop_things : Nat → Int32) (x_shop_feet : Nat → Int32) (x_past_height : Int32) (x_past_pf : Nat → Option Nat) (x_past_ad : Nat → Nat) (x_past_pp : Nat → Int32) (x_past_fp : Nat → Int32) (x_past_sp : Nat → Int32) (x_past_st : Nat → Int32) (x_past_kd : Nat → Nat → Int32) (x_past_th : Nat → Nat → Int32) (x_past_ft : Nat → Nat → Int32) (x_shelf_height : Int32) (x_shelf_pf : Nat → Option Nat) (x_shelf_ad : Nat → Nat) (x_shelf_pp : Nat → Int32) (x_shelf_fp : Nat → Int32) (x_shelf_sp : Nat → Int32) (x_shelf_st : Nat → Int32) (x_shelf_kd : Nat → Nat → Int32) (x_shelf_th : Nat → Nat → Int32) (x_shelf_ft : Nat → Nat → Int32) (x_roll_length : Int32) (x_roll_who : Nat → Int32) (x_roll_where : Nat → Int32) (m_letters : Int32) (m_undos : Int32) (m_taped : Int32) (m_keeps : Int32) (m_row : Nat → Int32) (m_text : Nat → Int32) (m_undone : Nat → Int32) (m_tapedWho : Nat → Int32) (m_tapedTill : Nat → Int32) (m_kept : Nat → Int32) (hR : Rel x_text_length x_text_letters x_shop_people x_shop_firstPace x_shop_secondPace x_shop_steps x_shop_kind x_shop_things x_shop_feet x_past_height x_past_pf x_past_ad x_past_pp x_past_fp x_past_sp x_past_st x_past_kd x_past_th x_past_ft x_shelf_height x_shelf_pf x_shelf_ad x_shelf_pp x_shelf_fp x_shelf_sp x_shelf_st x_shelf_kd x_shelf_th x_shelf_ft x_roll_length x_roll_who x_roll_where m_letters m_text m_row m_undos m_undone m_taped m_tapedWho m_tapedTill m_keeps m_kept) : ∃ (r : Int32) (o_x_roll_length : Int32) (o_m_taped : Int32), S_X6_forget x_roll_length = some (r, o_x_roll_length) ∧ S_X7_forget m_taped = some (r, o_m_taped) ∧ Rel x_text_length x_text_letters x_shop_people x_shop_firstPace x_shop_secondPace x_shop_steps x_shop_kind x_shop_things x_shop_feet x_past_height x_past_pf x_past_ad x_past_pp x_past_fp x_past_sp x_past_st x_past_kd x_past_th x_past_ft x_shelf_height x_shelf_pf x_shelf_ad x_shelf_pp x_shelf_fp x_shelf_sp x_shelf_st x_shelf_kd x_shelf_th x_shelf_ft o_x_roll_length x_roll_who x_roll_where m_letters m_text m_row m_undos m_undone o_m_taped m_tapedWho m_tapedTill m_keeps m_kept := by
  obtain ⟨h1, h2, h3, h4, ⟨q, hq, rfl, rfl, hj⟩⟩ := hR
  exact ⟨nI q, 0, 0, rfl, rfl, h1, h2, h3, h4, ⟨0, by omega, rfl, rfl, fun j h => absurd h (by omega)⟩⟩
set_option maxRecDepth 100000 in
theorem st_tape (i1 : Int32) (i2 : Int32) (x_text_length : Int32) (x_text_letters : Nat → Int32) (x_shop_people : Int32) (x_shop_firstPace : Int32) (x_shop_secondPace : Int32) (x_shop_steps : Int32) (x_shop_kind : Nat → Int32) (x_shop_things : Nat → Int32) (x_shop_feet : Nat → Int32) (x_past_height : Int32) (x_past_pf : Nat → Option Nat) (x_past_ad : Nat → Nat) (x_past_pp : Nat → Int32) (x_past_fp : Nat → Int32) (x_past_sp : Nat → Int32) (x_past_st : Nat → Int32) (x_past_kd : Nat → Nat → Int32) (x_past_th : Nat → Nat → Int32) (x_past_ft : Nat → Nat → Int32) (x_shelf_height : Int32) (x_shelf_pf : Nat → Option Nat) (x_shelf_ad : Nat → Nat) (x_shelf_pp : Nat → Int32) (x_shelf_fp : Nat → Int32) (x_shelf_sp : Nat → Int32) (x_shelf_st : Nat → Int32) (x_shelf_kd : Nat → Nat → Int32) (x_shelf_th : Nat → Nat → Int32) (x_shelf_ft : Nat → Nat → Int32) (x_roll_length : Int32) (x_roll_who : Nat → Int32) (x_roll_where : Nat → Int32) (m_letters : Int32) (m_undos : Int32) (m_taped : Int32) (m_keeps : Int32) (m_row : Nat → Int32) (m_text : Nat → Int32) (m_undone : Nat → Int32) (m_tapedWho : Nat → Int32) (m_tapedTill : Nat → Int32) (m_kept : Nat → Int32) (hR : Rel x_text_length x_text_letters x_shop_people x_shop_firstPace x_shop_secondPace x_shop_steps x_shop_kind x_shop_things x_shop_feet x_past_height x_past_pf x_past_ad x_past_pp x_past_fp x_past_sp x_past_st x_past_kd x_past_th x_past_ft x_shelf_height x_shelf_pf x_shelf_ad x_shelf_pp x_shelf_fp x_shelf_sp x_shelf_st x_shelf_kd x_shelf_th x_shelf_ft x_roll_length x_roll_who x_roll_where m_letters m_text m_row m_undos m_undone m_taped m_tapedWho m_tapedTill m_keeps m_kept) : ∃ (r : Int32) (o_x_roll_length : Int32) (o_x_roll_who : Nat → Int32) (o_x_roll_where : Nat → Int32) (o_m_taped : Int32) (o_m_tapedWho : Nat → Int32) (o_m_tapedTill : Nat → Int32), S_X6_tape i1 i2 x_shop_people x_roll_length x_roll_who x_roll_where = some (r, o_x_roll_length, o_x_roll_who, o_x_roll_where) ∧ S_X7_tape i1 i2 m_taped m_row m_tapedWho m_tapedTill = some (r, o_m_taped, o_m_tapedWho, o_m_tapedTill) ∧ Rel x_text_length x_text_letters x_shop_people x_shop_firstPace x_shop_secondPace x_shop_steps x_shop_kind x_shop_things x_shop_feet x_past_height x_past_pf x_past_ad x_past_pp x_past_fp x_past_sp x_past_st x_past_kd x_past_th x_past_ft x_shelf_height x_shelf_pf x_shelf_ad x_shelf_pp x_shelf_fp x_shelf_sp x_shelf_st x_shelf_kd x_shelf_th x_shelf_ft o_x_roll_length o_x_roll_who o_x_roll_where m_letters m_text m_row m_undos m_undone o_m_taped o_m_tapedWho o_m_tapedTill m_keeps m_kept := by
  obtain ⟨h1, ⟨n, hV, hr0, hr⟩, h3, h4, ⟨q, hq, rfl, rfl, hj⟩⟩ := id hR
  have hn8 := hV.1
  have hpp := hV.2.1
  subst hpp
  rcases ix_split i1 (n := n) (by omega) with h | ⟨j, hjn, rfl⟩
  · refine ⟨-1, nI q, x_roll_who, x_roll_where, nI q, m_tapedWho, m_tapedTill, ?_, ?_, hR⟩
    · unfold S_X6_tape; rw [has_no h]; rfl
    · unfold S_X7_tape; rw [isP_no (by omega) hr0 h]; rfl
  by_cases h : (0 : Int32) ≤ i2 ∧ i2 ≤ 1
  · by_cases h8 : q = 8
    · subst h8
      refine ⟨-3, nI 8, x_roll_who, x_roll_where, nI 8, m_tapedWho, m_tapedTill, ?_, ?_, hR⟩
      · unfold S_X6_tape S_X4_append; rw [has_in hjn (by omega), Option.bind_some, if_neg one_ne, wi, if_pos h]; rfl
      · unfold S_X7_tape; rw [isP_in (by omega) hr0 hjn, Option.bind_some, if_neg one_ne, inl _ 0 1 0 1 rfl rfl, if_pos h]; rfl
    · refine ⟨nI (q + 1), nI (q + 1), upd x_roll_who q (nI j), upd x_roll_where q i2, nI (q + 1), upd m_tapedWho q (nI j), upd m_tapedTill q i2, ?_, ?_, h1, ⟨n, hV, hr0, hr⟩, h3, h4, ⟨q + 1, by omega, rfl, rfl, fun k hk => ?_⟩⟩
      · unfold S_X6_tape S_X4_append
        rw [has_in hjn (by omega), Option.bind_some, if_neg one_ne, wi, if_pos h, Option.bind_some, if_neg one_ne, if_pos (show nI q < (8 : Int32) from nI_lt (b := 8) (by omega) (by omega)), if_neg (nin' (by omega) (by omega)), if_neg (nin' (by omega) (by omega)), nI_clamp (by omega), nI_1]
        rfl
      · unfold S_X7_tape
        rw [isP_in (by omega) hr0 hjn, Option.bind_some, if_neg one_ne, inl _ 0 1 0 1 rfl rfl, if_pos h, Option.bind_some, if_neg one_ne, if_neg (show ¬ nI q = (8 : Int32) from fun z => h8 ((nI_eq (b := 8) (by omega) (by omega)).mp z)), if_neg (nin' (by omega) (by omega)), if_neg (nin' (by omega) (by omega)), nI_clamp (by omega), nI_1]
      · by_cases e : k = q
        · subst e; exact ⟨by rw [pk_us, pk_us], by rw [pk_us, pk_us]⟩
        · rw [pk_un e, pk_un e, pk_un e, pk_un e]; exact hj k (by omega)
  · refine ⟨-1, nI q, x_roll_who, x_roll_where, nI q, m_tapedWho, m_tapedTill, ?_, ?_, hR⟩
    · unfold S_X6_tape; rw [has_in hjn (by omega), Option.bind_some, if_neg one_ne, wi, if_neg h]; rfl
    · unfold S_X7_tape; rw [isP_in (by omega) hr0 hjn, Option.bind_some, if_neg one_ne, inl _ 0 1 0 1 rfl rfl, if_neg h]; rfl
set_option maxRecDepth 100000 in
theorem st_count (i1 : Int32) (x_text_length : Int32) (x_text_letters : Nat → Int32) (x_shop_people : Int32) (x_shop_firstPace : Int32) (x_shop_secondPace : Int32) (x_shop_steps : Int32) (x_shop_kind : Nat → Int32) (x_shop_things : Nat → Int32) (x_shop_feet : Nat → Int32) (x_past_height : Int32) (x_past_pf : Nat → Option Nat) (x_past_ad : Nat → Nat) (x_past_pp : Nat → Int32) (x_past_fp : Nat → Int32) (x_past_sp : Nat → Int32) (x_past_st : Nat → Int32) (x_past_kd : Nat → Nat → Int32) (x_past_th : Nat → Nat → Int32) (x_past_ft : Nat → Nat → Int32) (x_shelf_height : Int32) (x_shelf_pf : Nat → Option Nat) (x_shelf_ad : Nat → Nat) (x_shelf_pp : Nat → Int32) (x_shelf_fp : Nat → Int32) (x_shelf_sp : Nat → Int32) (x_shelf_st : Nat → Int32) (x_shelf_kd : Nat → Nat → Int32) (x_shelf_th : Nat → Nat → Int32) (x_shelf_ft : Nat → Nat → Int32) (x_roll_length : Int32) (x_roll_who : Nat → Int32) (x_roll_where : Nat → Int32) (m_letters : Int32) (m_undos : Int32) (m_taped : Int32) (m_keeps : Int32) (m_row : Nat → Int32) (m_text : Nat → Int32) (m_undone : Nat → Int32) (m_tapedWho : Nat → Int32) (m_tapedTill : Nat → Int32) (m_kept : Nat → Int32) (hR : Rel x_text_length x_text_letters x_shop_people x_shop_firstPace x_shop_secondPace x_shop_steps x_shop_kind x_shop_things x_shop_feet x_past_height x_past_pf x_past_ad x_past_pp x_past_fp x_past_sp x_past_st x_past_kd x_past_th x_past_ft x_shelf_height x_shelf_pf x_shelf_ad x_shelf_pp x_shelf_fp x_shelf_sp x_shelf_st x_shelf_kd x_shelf_th x_shelf_ft x_roll_length x_roll_who x_roll_where m_letters m_text m_row m_undos m_undone m_taped m_tapedWho m_tapedTill m_keeps m_kept) : ∃ (r : Int32), S_X6_count i1 x_shop_people x_shop_firstPace x_shop_secondPace x_shop_steps x_roll_length x_past_height x_shelf_height x_text_length = some r ∧ S_X7_count i1 m_letters m_undos m_taped m_keeps m_row = some r ∧ Rel x_text_length x_text_letters x_shop_people x_shop_firstPace x_shop_secondPace x_shop_steps x_shop_kind x_shop_things x_shop_feet x_past_height x_past_pf x_past_ad x_past_pp x_past_fp x_past_sp x_past_st x_past_kd x_past_th x_past_ft x_shelf_height x_shelf_pf x_shelf_ad x_shelf_pp x_shelf_fp x_shelf_sp x_shelf_st x_shelf_kd x_shelf_th x_shelf_ft x_roll_length x_roll_who x_roll_where m_letters m_text m_row m_undos m_undone m_taped m_tapedWho m_tapedTill m_keeps m_kept := by
  obtain ⟨⟨t, ht, e1, e2, hj⟩, ⟨n, hV, e3, e4, e5, e6, hr⟩, ⟨hp, h, hh, e7, e8, hh2⟩, ⟨hs, k, hk, e9, e10, hk2⟩, ⟨q, hq, e11, e12, hq2⟩⟩ := id hR
  unfold S_X6_count S_X7_count
  by_cases c0 : i1 = 0
  · subst c0; exact ⟨_, rfl, by rw [← e3]; rfl, hR⟩
  by_cases c1 : i1 = 1
  · subst c1; exact ⟨_, rfl, by rw [← e4]; rfl, hR⟩
  by_cases c2 : i1 = 2
  · subst c2; exact ⟨_, rfl, by rw [← e5]; rfl, hR⟩
  by_cases c3 : i1 = 3
  · subst c3; exact ⟨_, rfl, by rw [← e6]; rfl, hR⟩
  rw [if_neg c0, if_neg c1, if_neg c2, if_neg c3, if_neg c0, if_neg c1, if_neg c2, if_neg c3]
  by_cases c4 : i1 = 4
  · rw [if_pos c4, if_pos c4]; exact ⟨_, rfl, by rw [e11, e12], hR⟩
  by_cases c5 : i1 = 5
  · rw [if_neg c4, if_neg c4, if_pos c5, if_pos c5]; exact ⟨_, rfl, by rw [e7, e8], hR⟩
  by_cases c6 : i1 = 6
  · rw [if_neg c4, if_neg c4, if_neg c5, if_neg c5, if_pos c6, if_pos c6]; exact ⟨_, rfl, by rw [e9, e10], hR⟩
  by_cases c7 : i1 = 7
  · rw [if_neg c4, if_neg c4, if_neg c5, if_neg c5, if_neg c6, if_neg c6, if_pos c7, if_pos c7]; exact ⟨_, rfl, by rw [e1, e2], hR⟩
  rw [if_neg c4, if_neg c4, if_neg c5, if_neg c5, if_neg c6, if_neg c6, if_neg c7, if_neg c7]
  exact ⟨_, rfl, rfl, hR⟩
set_option maxRecDepth 100000 in
theorem st_person (i1 : Int32) (i2 : Int32) (x_text_length : Int32) (x_text_letters : Nat → Int32) (x_shop_people : Int32) (x_shop_firstPace : Int32) (x_shop_secondPace : Int32) (x_shop_steps : Int32) (x_shop_kind : Nat → Int32) (x_shop_things : Nat → Int32) (x_shop_feet : Nat → Int32) (x_past_height : Int32) (x_past_pf : Nat → Option Nat) (x_past_ad : Nat → Nat) (x_past_pp : Nat → Int32) (x_past_fp : Nat → Int32) (x_past_sp : Nat → Int32) (x_past_st : Nat → Int32) (x_past_kd : Nat → Nat → Int32) (x_past_th : Nat → Nat → Int32) (x_past_ft : Nat → Nat → Int32) (x_shelf_height : Int32) (x_shelf_pf : Nat → Option Nat) (x_shelf_ad : Nat → Nat) (x_shelf_pp : Nat → Int32) (x_shelf_fp : Nat → Int32) (x_shelf_sp : Nat → Int32) (x_shelf_st : Nat → Int32) (x_shelf_kd : Nat → Nat → Int32) (x_shelf_th : Nat → Nat → Int32) (x_shelf_ft : Nat → Nat → Int32) (x_roll_length : Int32) (x_roll_who : Nat → Int32) (x_roll_where : Nat → Int32) (m_letters : Int32) (m_undos : Int32) (m_taped : Int32) (m_keeps : Int32) (m_row : Nat → Int32) (m_text : Nat → Int32) (m_undone : Nat → Int32) (m_tapedWho : Nat → Int32) (m_tapedTill : Nat → Int32) (m_kept : Nat → Int32) (hR : Rel x_text_length x_text_letters x_shop_people x_shop_firstPace x_shop_secondPace x_shop_steps x_shop_kind x_shop_things x_shop_feet x_past_height x_past_pf x_past_ad x_past_pp x_past_fp x_past_sp x_past_st x_past_kd x_past_th x_past_ft x_shelf_height x_shelf_pf x_shelf_ad x_shelf_pp x_shelf_fp x_shelf_sp x_shelf_st x_shelf_kd x_shelf_th x_shelf_ft x_roll_length x_roll_who x_roll_where m_letters m_text m_row m_undos m_undone m_taped m_tapedWho m_tapedTill m_keeps m_kept) : ∃ (r : Int32), S_X6_person i1 i2 x_shop_people x_shop_steps x_shop_kind x_shop_things x_shop_feet = some r ∧ S_X7_person i1 i2 m_row = some r ∧ Rel x_text_length x_text_letters x_shop_people x_shop_firstPace x_shop_secondPace x_shop_steps x_shop_kind x_shop_things x_shop_feet x_past_height x_past_pf x_past_ad x_past_pp x_past_fp x_past_sp x_past_st x_past_kd x_past_th x_past_ft x_shelf_height x_shelf_pf x_shelf_ad x_shelf_pp x_shelf_fp x_shelf_sp x_shelf_st x_shelf_kd x_shelf_th x_shelf_ft x_roll_length x_roll_who x_roll_where m_letters m_text m_row m_undos m_undone m_taped m_tapedWho m_tapedTill m_keeps m_kept := by
  obtain ⟨h1, ⟨n, hV, hr0, hr1, hr2, hr3, hr⟩, h3⟩ := id hR
  have hn8 := hV.1
  have hpp := hV.2.1
  subst hpp
  unfold S_X6_person S_X7_person
  rcases ix_split i1 (n := n) (by omega) with h | ⟨j, hjn, rfl⟩
  · rw [has_no h, isP_no (by omega) hr0 h]; exact ⟨_, rfl, rfl, hR⟩
  rw [has_in hjn (by omega), isP_in (by omega) hr0 hjn, Option.bind_some, Option.bind_some, if_neg one_ne, if_neg one_ne, inl _ 0 3 0 3 rfl rfl]
  obtain ⟨g1, g2, g3⟩ := hr j hjn
  by_cases c0 : i2 = 0
  · subst c0
    rw [if_pos rfl, if_neg (nin' (by omega) (by omega)), nI_clamp (by omega)]
    refine ⟨_, rfl, ?_, hR⟩
    rw [if_pos (by decide), Option.bind_some, if_neg (by decide), if_neg (by decide), i4, show nI (4 + 3 * j) + (0 : Int32) = nI (4 + 3 * j + 0) from nI_add _ 0, Nat.add_zero, if_neg (nin' (by omega) (by omega)), nI_clamp (by omega), g1]
  by_cases c1 : i2 = 1
  · subst c1
    rw [if_neg c0, if_pos rfl, if_neg (nin' (by omega) (by omega)), nI_clamp (by omega)]
    refine ⟨_, rfl, ?_, hR⟩
    rw [if_pos (by decide), Option.bind_some, if_neg (by decide), if_neg (by decide), i5, if_neg (nin' (by omega) (by omega)), nI_clamp (by omega), g2]
  by_cases c2 : i2 = 2
  · subst c2
    rw [if_neg c0, if_neg c1, if_pos rfl, if_neg (nin' (by omega) (by omega)), nI_clamp (by omega)]
    refine ⟨_, rfl, ?_, hR⟩
    rw [if_pos (by decide), Option.bind_some, if_neg (by decide), if_neg (by decide), i6, if_neg (nin' (by omega) (by omega)), nI_clamp (by omega), g3]
  by_cases c3 : i2 = 3
  · subst c3
    rw [if_neg c0, if_neg c1, if_neg c2, if_pos rfl, walk3 _ _ hjn hn8]
    refine ⟨_, rfl, ?_, hR⟩
    rw [if_pos (by decide), Option.bind_some, if_neg (by decide), if_pos (by decide), walk7 _ (by omega), g3, hr3, hr0]
    rfl
  rw [if_neg c0, if_neg c1, if_neg c2, if_neg c3]
  refine ⟨_, rfl, ?_, hR⟩
  by_cases h : (0 : Int32) ≤ i2 ∧ i2 ≤ 3
  · obtain ⟨k, hk, rfl⟩ : ∃ k, k ≤ 3 ∧ i2 = nI k := nI_of2 (M := 3) (by decide) (Int32.not_lt.mpr h.1) h.2
    exfalso
    rcases (show k = 0 ∨ k = 1 ∨ k = 2 ∨ k = 3 by omega) with rfl | rfl | rfl | rfl
    · exact c0 rfl
    · exact c1 rfl
    · exact c2 rfl
    · exact c3 rfl
  · rw [if_neg h]; rfl
