abbrev rX7_in : Room := { frames := 0, cells := 0, slots := 0, locals := 0 }
set_option maxHeartbeats 4000000 in
set_option maxRecDepth 100000 in
theorem c_X7_in (l : Launch) (D : va_G) (cyI cyC cyS : ClassId) (sz : Nat) (j0 : Int64) (j2 : Int64) (j4 : Int64) {r : Int32} (hf : S_X7_in j0 j2 j4 = some r) : Met l yX7_in wsX7_in rX7_in (Cpre [.long j0, .long j2, .long j4] D cyI cyC cyS sz []) (CQi r D [] (va_A [] sz)) 0 0 (va_A [] sz) := by
  refine Met.ofW (cc := cX7_in) (maxL := 6) (ret := (some .boolean)) (by decide) rfl ?_
  intro p e s m args below meth c s₁ B hml hv
  obtain ⟨rfl, hsz, hP, hK, hD0⟩ := hv
  have hx := B.exec
  have hb := B.bytes
  have hr := B.returns
  have hts := atoms_spec (ws := wsX7_in) B.pre
  have hown : s.vm.findClass RX7 = some m.cls := findClass_of_methodNamed B.named
  have hlocks := B.notSynchronized
  subst hsz
  have hD := hD0.self (sz := s.heap.size)
  generalize hAe : va_A [] s.heap.size = A at hD ⊢
  have hA : ∀ q : Nat, s.heap.size ≤ q → A q := fun q h => by rw [← hAe]; exact Or.inr h
  have hS : va_S A s.heap s.heap [] := va_S.rf
  have hl := lv_entry ([.long j0, .long j2, .long j4]) (n := 6) (Nat.le_of_ble_eq_true rfl)
  rw [lg_entry_eq]
  generalize (lg_sl ([.long j0, .long j2, .long j4]) ++ List.replicate (6 - (lg_sl ([.long j0, .long j2, .long j4])).length) Slot.unset).toArray = ls at hl ⊢
  have hl : lv_has ls 6 [(0, .long j0), (2, .long j2), (4, .long j4)] := hl
  unfold S_X7_in at hf
  have hP : va_P D vwCl [] s.heap := hP
  suffices hgo : ∀ (H : Heap) (locs : List Loc), va_P D vwCl [] H → va_S A s.heap H locs → W p l e rX7_in s m (([.long j0, .long j2, .long j4] : List Value).toArray) below meth c H locs 0 0 (MQ below (CQi r D [] A) (([.long j0, .long j2, .long j4] : List Value).toArray) s 0 0 A) (F0 m 0 ls []) from hgo _ _ hP hS
  clear hP hS
  intro H locs hP hS
  refine lv_lload_n hx hb dX7_in_0 rfl (lv_at hl 0 rfl) ?_
  refine lv_lload_n hx hb dX7_in_1 rfl (lv_at hl 1 rfl) ?_
  refine W.lcmp hx hb dX7_in_2 ?_
  refine lv_if_lt (tgt := 17) hx hb dX7_in_3 (by decide) (fun c3 => ?_) (fun c3 => ?_)
  · replace hf := ip c3 hf
    refine lv_iconst (v := 0) hx hb dX7_in_17 (by decide) ?_
    obtain rfl := Option.some.inj hf
    exact W.zret hx hb hr rfl (fun t ht hW => ⟨⟨_, (), rfl, rfl, by rw [ht]; exact hP, hD⟩, hS.F ht⟩) hS.2.2 dX7_in_18
  · replace hf := iq c3 hf
    refine lv_lload_n hx hb dX7_in_6 rfl (lv_at hl 0 rfl) ?_
    refine lv_lload hx hb dX7_in_7 (lv_at hl 2 rfl) ?_
    refine W.lcmp hx hb dX7_in_9 ?_
    refine lv_if_gt (tgt := 17) hx hb dX7_in_10 (by decide) (fun c10 => ?_) (fun c10 => ?_)
    · replace hf := ip c10 hf
      refine lv_iconst (v := 0) hx hb dX7_in_17 (by decide) ?_
      obtain rfl := Option.some.inj hf
      exact W.zret hx hb hr rfl (fun t ht hW => ⟨⟨_, (), rfl, rfl, by rw [ht]; exact hP, hD⟩, hS.F ht⟩) hS.2.2 dX7_in_18
    · replace hf := iq c10 hf
      refine lv_iconst (v := 1) hx hb dX7_in_13 (by decide) ?_
      refine lv_goto (tgt := 18) hx hb dX7_in_14 (by decide) ?_
      obtain rfl := Option.some.inj hf
      exact W.zret hx hb hr rfl (fun t ht hW => ⟨⟨_, (), rfl, rfl, by rw [ht]; exact hP, hD⟩, hS.F ht⟩) hS.2.2 dX7_in_18
abbrev rX7_stands : Room := { frames := 0, cells := 0, slots := 0, locals := 0 }
set_option maxHeartbeats 4000000 in
set_option maxRecDepth 100000 in
theorem c_X7_stands (l : Launch) (D : va_G) (cyI cyC cyS : ClassId) (sz : Nat) (ax : Nat) (ax_row : Nat) (ax_text : Nat) (ax_read : Nat) (ax_undone : Nat) (ax_order : Nat) (ax_dones : Nat) (ax_aside : Nat) (ax_tapedWho : Nat) (ax_tapedTill : Nat) (ax_kept : Nat) (x_letters : Int32) (x_at : Int32) (x_undos : Int32) (x_away : Int32) (x_bestSet : Int32) (x_taped : Int32) (x_keeps : Int32) (x_row : Nat → Int32) (i1 : Int32) (i2 : Int32) (i3 : Int32) {o_x_row : Nat → Int32} (hf : S_X7_stands i1 i2 i3 x_row = some o_x_row) : Met l yX7_stands wsX7_stands rX7_stands (Cpre [.ref ax, .int i1, .int i2, .int i3] D cyI cyC cyS sz [(ax, .inr (7, [.ref ax_row, .ref ax_text, .int x_letters, .int x_at, .ref ax_read, .ref ax_undone, .int x_undos, .ref ax_order, .ref ax_dones, .int x_away, .int x_bestSet, .ref ax_aside, .ref ax_tapedWho, .ref ax_tapedTill, .int x_taped, .ref ax_kept, .int x_keeps])), (ax_row, .inl (cyI, 28, .inl x_row))]) (CQv D [(ax, .inr (7, [.ref ax_row, .ref ax_text, .int x_letters, .int x_at, .ref ax_read, .ref ax_undone, .int x_undos, .ref ax_order, .ref ax_dones, .int x_away, .int x_bestSet, .ref ax_aside, .ref ax_tapedWho, .ref ax_tapedTill, .int x_taped, .ref ax_kept, .int x_keeps])), (ax_row, .inl (cyI, 28, .inl o_x_row))] (va_A [(ax, .inr (7, [.ref ax_row, .ref ax_text, .int x_letters, .int x_at, .ref ax_read, .ref ax_undone, .int x_undos, .ref ax_order, .ref ax_dones, .int x_away, .int x_bestSet, .ref ax_aside, .ref ax_tapedWho, .ref ax_tapedTill, .int x_taped, .ref ax_kept, .int x_keeps])), (ax_row, .inl (cyI, 28, .inl x_row))] sz)) 0 0 (va_A [(ax, .inr (7, [.ref ax_row, .ref ax_text, .int x_letters, .int x_at, .ref ax_read, .ref ax_undone, .int x_undos, .ref ax_order, .ref ax_dones, .int x_away, .int x_bestSet, .ref ax_aside, .ref ax_tapedWho, .ref ax_tapedTill, .int x_taped, .ref ax_kept, .int x_keeps])), (ax_row, .inl (cyI, 28, .inl x_row))] sz) := by
  refine Met.ofW (cc := cX7_stands) (maxL := 5) (ret := none) (by decide) rfl ?_
  intro p e s m args below meth c s₁ B hml hv
  obtain ⟨rfl, hsz, hP, hK, hD0⟩ := hv
  have hx := B.exec
  have hb := B.bytes
  have hr := B.returns
  have hts := atoms_spec (ws := wsX7_stands) B.pre
  have hown : s.vm.findClass RX7 = some m.cls := findClass_of_methodNamed B.named
  have hlocks := B.notSynchronized
  subst hsz
  have hD := hD0.self (sz := s.heap.size)
  generalize hAe : va_A [(ax, .inr (7, [.ref ax_row, .ref ax_text, .int x_letters, .int x_at, .ref ax_read, .ref ax_undone, .int x_undos, .ref ax_order, .ref ax_dones, .int x_away, .int x_bestSet, .ref ax_aside, .ref ax_tapedWho, .ref ax_tapedTill, .int x_taped, .ref ax_kept, .int x_keeps])), (ax_row, .inl (cyI, 28, .inl x_row))] s.heap.size = A at hD ⊢
  have hA : ∀ q : Nat, s.heap.size ≤ q → A q := fun q h => by rw [← hAe]; exact Or.inr h
  have hS : va_S A s.heap s.heap [] := va_S.rf
  have hl := lv_entry ([.ref ax, .int i1, .int i2, .int i3]) (n := 5) (Nat.le_of_ble_eq_true rfl)
  rw [lg_entry_eq]
  generalize (lg_sl ([.ref ax, .int i1, .int i2, .int i3]) ++ List.replicate (5 - (lg_sl ([.ref ax, .int i1, .int i2, .int i3])).length) Slot.unset).toArray = ls at hl ⊢
  have hl : lv_has ls 5 [(0, .ref ax), (1, .int i1), (2, .int i2), (3, .int i3)] := hl
  have f7 := hts (.fieldLink RX7 7 "SecondTillModel" "row" "[I") (by decide +kernel)
  have inX7 : ∀ w ∈ u_ws RX7 TX7 17, w ∈ wsX7_stands := by decide +kernel
  unfold S_X7_stands at hf
  have hP : va_P D vwCl [(ax, .inr (7, [.ref ax_row, .ref ax_text, .int x_letters, .int x_at, .ref ax_read, .ref ax_undone, .int x_undos, .ref ax_order, .ref ax_dones, .int x_away, .int x_bestSet, .ref ax_aside, .ref ax_tapedWho, .ref ax_tapedTill, .int x_taped, .ref ax_kept, .int x_keeps])), (ax_row, .inl (cyI, 28, .inl x_row))] s.heap := hP
  suffices hgo : ∀ (H : Heap) (locs : List Loc), va_P D vwCl [(ax, .inr (7, [.ref ax_row, .ref ax_text, .int x_letters, .int x_at, .ref ax_read, .ref ax_undone, .int x_undos, .ref ax_order, .ref ax_dones, .int x_away, .int x_bestSet, .ref ax_aside, .ref ax_tapedWho, .ref ax_tapedTill, .int x_taped, .ref ax_kept, .int x_keeps])), (ax_row, .inl (cyI, 28, .inl x_row))] H → va_S A s.heap H locs → W p l e rX7_stands s m (([.ref ax, .int i1, .int i2, .int i3] : List Value).toArray) below meth c H locs 0 0 (MQ below (CQv D [(ax, .inr (7, [.ref ax_row, .ref ax_text, .int x_letters, .int x_at, .ref ax_read, .ref ax_undone, .int x_undos, .ref ax_order, .ref ax_dones, .int x_away, .int x_bestSet, .ref ax_aside, .ref ax_tapedWho, .ref ax_tapedTill, .int x_taped, .ref ax_kept, .int x_keeps])), (ax_row, .inl (cyI, 28, .inl o_x_row))] A) (([.ref ax, .int i1, .int i2, .int i3] : List Value).toArray) s 0 0 A) (F0 m 0 ls []) from hgo _ _ hP hS
  clear hP hS
  intro H locs hP hS
  refine lv_iconst (v := 4) hx hb dX7_stands_0 (by decide) ?_
  refine lv_iconst (v := 3) hx hb dX7_stands_1 (by decide) ?_
  refine lv_aload_n hx hb dX7_stands_2 rfl (lv_at hl 0 rfl) ?_
  refine va_get (C := RX7) (T := TX7) (N := 17) hx hb hts inX7 hown hK.1 hP 0 rfl rfl 0 (by decide) f7 (fun _ h9 => h9) rfl dX7_stands_3 ?_
  refine lv_iconst (v := 0) hx hb dX7_stands_6 (by decide) ?_
  refine a_ild hx hb hK hP 1 rfl (vin (by decide)) 0 (by decide) dX7_stands_7 ?_
  refine lv_imul hx hb dX7_stands_8 ?_
  refine lv_iadd hx hb dX7_stands_9 ?_
  refine lv_istore (lv' := [(4, .int ((4 : Int32) + ((3 : Int32) * (x_row 0)))), (0, .ref ax), (1, .int i1), (2, .int i2), (3, .int i3)]) hx hb dX7_stands_10 hl (by decide) rfl (fun ls hl => ?_)
  refine lv_aload_n hx hb dX7_stands_12 rfl (lv_at hl 1 rfl) ?_
  refine va_get (C := RX7) (T := TX7) (N := 17) hx hb hts inX7 hown hK.1 hP 0 rfl rfl 0 (by decide) f7 (fun _ h9 => h9) rfl dX7_stands_13 ?_
  refine lv_iload hx hb dX7_stands_16 (lv_at hl 0 rfl) ?_
  refine lv_iload_n hx hb dX7_stands_18 rfl (lv_at hl 2 rfl) ?_
  obtain ⟨z19, hf⟩ := oi hf
  refine a_ist (wn := [(ax, .inr (7, [.ref ax_row, .ref ax_text, .int x_letters, .int x_at, .ref ax_read, .ref ax_undone, .int x_undos, .ref ax_order, .ref ax_dones, .int x_away, .int x_bestSet, .ref ax_aside, .ref ax_tapedWho, .ref ax_tapedTill, .int x_taped, .ref ax_kept, .int x_keeps])), (ax_row, .inl (cyI, 28, .inl (upd x_row ((4 : Int32) + ((3 : Int32) * (x_row 0))).toNatClampNeg i1)))]) hx hb hK hP hD hS 1 rfl z19 ((4 : Int32) + ((3 : Int32) * (x_row 0))).toNatClampNeg rfl rfl dX7_stands_19 (fun H locs hP hD hS => ?_)
  refine lv_aload_n hx hb dX7_stands_20 rfl (lv_at hl 1 rfl) ?_
  refine va_get (C := RX7) (T := TX7) (N := 17) hx hb hts inX7 hown hK.1 hP 0 rfl rfl 0 (by decide) f7 (fun _ h9 => h9) rfl dX7_stands_21 ?_
  refine lv_iload hx hb dX7_stands_24 (lv_at hl 0 rfl) ?_
  refine lv_iconst (v := 1) hx hb dX7_stands_26 (by decide) ?_
  refine lv_iadd hx hb dX7_stands_27 ?_
  refine lv_iload_n hx hb dX7_stands_28 rfl (lv_at hl 3 rfl) ?_
  obtain ⟨z29, hf⟩ := oi hf
  refine a_ist (wn := [(ax, .inr (7, [.ref ax_row, .ref ax_text, .int x_letters, .int x_at, .ref ax_read, .ref ax_undone, .int x_undos, .ref ax_order, .ref ax_dones, .int x_away, .int x_bestSet, .ref ax_aside, .ref ax_tapedWho, .ref ax_tapedTill, .int x_taped, .ref ax_kept, .int x_keeps])), (ax_row, .inl (cyI, 28, .inl (upd (upd x_row ((4 : Int32) + ((3 : Int32) * (x_row 0))).toNatClampNeg i1) (((4 : Int32) + ((3 : Int32) * (x_row 0))) + (1 : Int32)).toNatClampNeg i2)))]) hx hb hK hP hD hS 1 rfl z29 (((4 : Int32) + ((3 : Int32) * (x_row 0))) + (1 : Int32)).toNatClampNeg rfl rfl dX7_stands_29 (fun H locs hP hD hS => ?_)
  refine lv_aload_n hx hb dX7_stands_30 rfl (lv_at hl 1 rfl) ?_
  refine va_get (C := RX7) (T := TX7) (N := 17) hx hb hts inX7 hown hK.1 hP 0 rfl rfl 0 (by decide) f7 (fun _ h9 => h9) rfl dX7_stands_31 ?_
  refine lv_iload hx hb dX7_stands_34 (lv_at hl 0 rfl) ?_
  refine lv_iconst (v := 2) hx hb dX7_stands_36 (by decide) ?_
  refine lv_iadd hx hb dX7_stands_37 ?_
  refine lv_iload_n hx hb dX7_stands_38 rfl (lv_at hl 4 rfl) ?_
  obtain ⟨z39, hf⟩ := oi hf
  refine a_ist (wn := [(ax, .inr (7, [.ref ax_row, .ref ax_text, .int x_letters, .int x_at, .ref ax_read, .ref ax_undone, .int x_undos, .ref ax_order, .ref ax_dones, .int x_away, .int x_bestSet, .ref ax_aside, .ref ax_tapedWho, .ref ax_tapedTill, .int x_taped, .ref ax_kept, .int x_keeps])), (ax_row, .inl (cyI, 28, .inl (upd (upd (upd x_row ((4 : Int32) + ((3 : Int32) * (x_row 0))).toNatClampNeg i1) (((4 : Int32) + ((3 : Int32) * (x_row 0))) + (1 : Int32)).toNatClampNeg i2) (((4 : Int32) + ((3 : Int32) * (x_row 0))) + (2 : Int32)).toNatClampNeg i3)))]) hx hb hK hP hD hS 1 rfl z39 (((4 : Int32) + ((3 : Int32) * (x_row 0))) + (2 : Int32)).toNatClampNeg rfl rfl dX7_stands_39 (fun H locs hP hD hS => ?_)
  refine lv_aload_n hx hb dX7_stands_40 rfl (lv_at hl 1 rfl) ?_
  refine va_get (C := RX7) (T := TX7) (N := 17) hx hb hts inX7 hown hK.1 hP 0 rfl rfl 0 (by decide) f7 (fun _ h9 => h9) rfl dX7_stands_41 ?_
  refine lv_iconst (v := 0) hx hb dX7_stands_44 (by decide) ?_
  refine lv_dup2_11 hx hb dX7_stands_45 rfl rfl ?_
  refine a_ild hx hb hK hP 1 rfl (vin (by decide)) 0 (by decide) dX7_stands_46 ?_
  refine lv_iconst (v := 1) hx hb dX7_stands_47 (by decide) ?_
  refine lv_iadd hx hb dX7_stands_48 ?_
  refine a_ist (wn := [(ax, .inr (7, [.ref ax_row, .ref ax_text, .int x_letters, .int x_at, .ref ax_read, .ref ax_undone, .int x_undos, .ref ax_order, .ref ax_dones, .int x_away, .int x_bestSet, .ref ax_aside, .ref ax_tapedWho, .ref ax_tapedTill, .int x_taped, .ref ax_kept, .int x_keeps])), (ax_row, .inl (cyI, 28, .inl (upd (upd (upd (upd x_row ((4 : Int32) + ((3 : Int32) * (x_row 0))).toNatClampNeg i1) (((4 : Int32) + ((3 : Int32) * (x_row 0))) + (1 : Int32)).toNatClampNeg i2) (((4 : Int32) + ((3 : Int32) * (x_row 0))) + (2 : Int32)).toNatClampNeg i3) 0 (((upd (upd (upd x_row ((4 : Int32) + ((3 : Int32) * (x_row 0))).toNatClampNeg i1) (((4 : Int32) + ((3 : Int32) * (x_row 0))) + (1 : Int32)).toNatClampNeg i2) (((4 : Int32) + ((3 : Int32) * (x_row 0))) + (2 : Int32)).toNatClampNeg i3) 0) + (1 : Int32)))))]) hx hb hK hP hD hS 1 rfl (vin (by decide)) 0 (by decide) rfl dX7_stands_49 (fun H locs hP hD hS => ?_)
  obtain rfl := Option.some.inj hf
  exact W.vret hx hb hr (fun t ht hW => ⟨⟨(), rfl, trivial, by rw [ht]; exact hP, hD⟩, hS.F ht⟩) hS.2.2 dX7_stands_50
abbrev rX7_goesAway : Room := { frames := 0, cells := 0, slots := 0, locals := 0 }
set_option maxHeartbeats 4000000 in
set_option maxRecDepth 100000 in
theorem c_X7_goesAway (l : Launch) (D : va_G) (cyI cyC cyS : ClassId) (sz : Nat) (ax : Nat) (ax_row : Nat) (ax_text : Nat) (ax_read : Nat) (ax_undone : Nat) (ax_order : Nat) (ax_dones : Nat) (ax_aside : Nat) (ax_tapedWho : Nat) (ax_tapedTill : Nat) (ax_kept : Nat) (x_letters : Int32) (x_at : Int32) (x_undos : Int32) (x_away : Int32) (x_bestSet : Int32) (x_taped : Int32) (x_keeps : Int32) (x_row : Nat → Int32) (i1 : Int32) {o_x_row : Nat → Int32} (hf : S_X7_goesAway i1 x_row = some o_x_row) : Met l yX7_goesAway wsX7_goesAway rX7_goesAway (Cpre [.ref ax, .int i1] D cyI cyC cyS sz [(ax, .inr (7, [.ref ax_row, .ref ax_text, .int x_letters, .int x_at, .ref ax_read, .ref ax_undone, .int x_undos, .ref ax_order, .ref ax_dones, .int x_away, .int x_bestSet, .ref ax_aside, .ref ax_tapedWho, .ref ax_tapedTill, .int x_taped, .ref ax_kept, .int x_keeps])), (ax_row, .inl (cyI, 28, .inl x_row))]) (CQv D [(ax, .inr (7, [.ref ax_row, .ref ax_text, .int x_letters, .int x_at, .ref ax_read, .ref ax_undone, .int x_undos, .ref ax_order, .ref ax_dones, .int x_away, .int x_bestSet, .ref ax_aside, .ref ax_tapedWho, .ref ax_tapedTill, .int x_taped, .ref ax_kept, .int x_keeps])), (ax_row, .inl (cyI, 28, .inl o_x_row))] (va_A [(ax, .inr (7, [.ref ax_row, .ref ax_text, .int x_letters, .int x_at, .ref ax_read, .ref ax_undone, .int x_undos, .ref ax_order, .ref ax_dones, .int x_away, .int x_bestSet, .ref ax_aside, .ref ax_tapedWho, .ref ax_tapedTill, .int x_taped, .ref ax_kept, .int x_keeps])), (ax_row, .inl (cyI, 28, .inl x_row))] sz)) 0 0 (va_A [(ax, .inr (7, [.ref ax_row, .ref ax_text, .int x_letters, .int x_at, .ref ax_read, .ref ax_undone, .int x_undos, .ref ax_order, .ref ax_dones, .int x_away, .int x_bestSet, .ref ax_aside, .ref ax_tapedWho, .ref ax_tapedTill, .int x_taped, .ref ax_kept, .int x_keeps])), (ax_row, .inl (cyI, 28, .inl x_row))] sz) := by
  refine Met.ofW (cc := cX7_goesAway) (maxL := 3) (ret := none) (by decide) rfl ?_
  intro p e s m args below meth c s₁ B hml hv
  obtain ⟨rfl, hsz, hP, hK, hD0⟩ := hv
  have hx := B.exec
  have hb := B.bytes
  have hr := B.returns
  have hts := atoms_spec (ws := wsX7_goesAway) B.pre
  have hown : s.vm.findClass RX7 = some m.cls := findClass_of_methodNamed B.named
  have hlocks := B.notSynchronized
  subst hsz
  have hD := hD0.self (sz := s.heap.size)
  generalize hAe : va_A [(ax, .inr (7, [.ref ax_row, .ref ax_text, .int x_letters, .int x_at, .ref ax_read, .ref ax_undone, .int x_undos, .ref ax_order, .ref ax_dones, .int x_away, .int x_bestSet, .ref ax_aside, .ref ax_tapedWho, .ref ax_tapedTill, .int x_taped, .ref ax_kept, .int x_keeps])), (ax_row, .inl (cyI, 28, .inl x_row))] s.heap.size = A at hD ⊢
  have hA : ∀ q : Nat, s.heap.size ≤ q → A q := fun q h => by rw [← hAe]; exact Or.inr h
  have hS : va_S A s.heap s.heap [] := va_S.rf
  have hl := lv_entry ([.ref ax, .int i1]) (n := 3) (Nat.le_of_ble_eq_true rfl)
  rw [lg_entry_eq]
  generalize (lg_sl ([.ref ax, .int i1]) ++ List.replicate (3 - (lg_sl ([.ref ax, .int i1])).length) Slot.unset).toArray = ls at hl ⊢
  have hl : lv_has ls 3 [(0, .ref ax), (1, .int i1)] := hl
  have f7 := hts (.fieldLink RX7 7 "SecondTillModel" "row" "[I") (by decide +kernel)
  have inX7 : ∀ w ∈ u_ws RX7 TX7 17, w ∈ wsX7_goesAway := by decide +kernel
  unfold S_X7_goesAway at hf
  have hP : va_P D vwCl [(ax, .inr (7, [.ref ax_row, .ref ax_text, .int x_letters, .int x_at, .ref ax_read, .ref ax_undone, .int x_undos, .ref ax_order, .ref ax_dones, .int x_away, .int x_bestSet, .ref ax_aside, .ref ax_tapedWho, .ref ax_tapedTill, .int x_taped, .ref ax_kept, .int x_keeps])), (ax_row, .inl (cyI, 28, .inl x_row))] s.heap := hP
  suffices hgo : ∀ (H : Heap) (locs : List Loc), va_P D vwCl [(ax, .inr (7, [.ref ax_row, .ref ax_text, .int x_letters, .int x_at, .ref ax_read, .ref ax_undone, .int x_undos, .ref ax_order, .ref ax_dones, .int x_away, .int x_bestSet, .ref ax_aside, .ref ax_tapedWho, .ref ax_tapedTill, .int x_taped, .ref ax_kept, .int x_keeps])), (ax_row, .inl (cyI, 28, .inl x_row))] H → va_S A s.heap H locs → W p l e rX7_goesAway s m (([.ref ax, .int i1] : List Value).toArray) below meth c H locs 0 0 (MQ below (CQv D [(ax, .inr (7, [.ref ax_row, .ref ax_text, .int x_letters, .int x_at, .ref ax_read, .ref ax_undone, .int x_undos, .ref ax_order, .ref ax_dones, .int x_away, .int x_bestSet, .ref ax_aside, .ref ax_tapedWho, .ref ax_tapedTill, .int x_taped, .ref ax_kept, .int x_keeps])), (ax_row, .inl (cyI, 28, .inl o_x_row))] A) (([.ref ax, .int i1] : List Value).toArray) s 0 0 A) (F0 m 0 ls []) from hgo _ _ hP hS
  clear hP hS
  intro H locs hP hS
  refine lv_iconst (v := 4) hx hb dX7_goesAway_0 (by decide) ?_
  refine lv_iconst (v := 3) hx hb dX7_goesAway_1 (by decide) ?_
  refine lv_iload_n hx hb dX7_goesAway_2 rfl (lv_at hl 1 rfl) ?_
  refine lv_imul hx hb dX7_goesAway_3 ?_
  refine lv_iadd hx hb dX7_goesAway_4 ?_
  refine lv_istore_n (lv' := [(2, .int ((4 : Int32) + ((3 : Int32) * i1))), (0, .ref ax), (1, .int i1)]) hx hb dX7_goesAway_5 rfl hl (by decide) rfl (fun ls hl => ?_)
  have hL6 : ∀ (n6 : Nat) (i2 : Int32) (x_row : Nat → Int32) (H : Heap) (locs : List Loc) (ls : Array Slot), va_P D vwCl [(ax, .inr (7, [.ref ax_row, .ref ax_text, .int x_letters, .int x_at, .ref ax_read, .ref ax_undone, .int x_undos, .ref ax_order, .ref ax_dones, .int x_away, .int x_bestSet, .ref ax_aside, .ref ax_tapedWho, .ref ax_tapedTill, .int x_taped, .ref ax_kept, .int x_keeps])), (ax_row, .inl (cyI, 28, .inl x_row))] H → va_D A [(ax, .inr (7, [.ref ax_row, .ref ax_text, .int x_letters, .int x_at, .ref ax_read, .ref ax_undone, .int x_undos, .ref ax_order, .ref ax_dones, .int x_away, .int x_bestSet, .ref ax_aside, .ref ax_tapedWho, .ref ax_tapedTill, .int x_taped, .ref ax_kept, .int x_keeps])), (ax_row, .inl (cyI, 28, .inl x_row))] → va_S A s.heap H locs → lv_has ls 3 [(0, .ref ax), (2, .int i2)] → S_X7_goesAway_L6 n6 i2 x_row = some o_x_row → W p l e rX7_goesAway s m (([.ref ax, .int i1] : List Value).toArray) below meth c H locs 0 0 (MQ below (CQv D [(ax, .inr (7, [.ref ax_row, .ref ax_text, .int x_letters, .int x_at, .ref ax_read, .ref ax_undone, .int x_undos, .ref ax_order, .ref ax_dones, .int x_away, .int x_bestSet, .ref ax_aside, .ref ax_tapedWho, .ref ax_tapedTill, .int x_taped, .ref ax_kept, .int x_keeps])), (ax_row, .inl (cyI, 28, .inl o_x_row))] A) (([.ref ax, .int i1] : List Value).toArray) s 0 0 A) (F0 m 6 ls []) := by
    intro n6
    induction n6 with
    | zero => intro i2 x_row H locs ls hP hD hS hl hf; exact absurd hf (by simp [S_X7_goesAway_L6])
    | succ n6 ih6 =>
      intro i2 x_row H locs ls hP hD hS hl hf
      rw [S_X7_goesAway_L6] at hf
      refine lv_iload_n hx hb dX7_goesAway_6 rfl (lv_at hl 1 rfl) ?_
      refine lv_bipush (v := 25) hx hb dX7_goesAway_7 (by decide) ?_
      refine lv_icmp_ge (tgt := 32) hx hb dX7_goesAway_9 (by decide) (fun c9 => ?_) (fun c9 => ?_)
      · replace hf := ip c9 hf
        refine lv_aload_n hx hb dX7_goesAway_32 rfl (lv_at hl 0 rfl) ?_
        refine va_get (C := RX7) (T := TX7) (N := 17) hx hb hts inX7 hown hK.1 hP 0 rfl rfl 0 (by decide) f7 (fun _ h9 => h9) rfl dX7_goesAway_33 ?_
        refine lv_iconst (v := 0) hx hb dX7_goesAway_36 (by decide) ?_
        refine lv_dup2_11 hx hb dX7_goesAway_37 rfl rfl ?_
        refine a_ild hx hb hK hP 1 rfl (vin (by decide)) 0 (by decide) dX7_goesAway_38 ?_
        refine lv_iconst (v := 1) hx hb dX7_goesAway_39 (by decide) ?_
        refine lv_isub hx hb dX7_goesAway_40 ?_
        refine a_ist (wn := [(ax, .inr (7, [.ref ax_row, .ref ax_text, .int x_letters, .int x_at, .ref ax_read, .ref ax_undone, .int x_undos, .ref ax_order, .ref ax_dones, .int x_away, .int x_bestSet, .ref ax_aside, .ref ax_tapedWho, .ref ax_tapedTill, .int x_taped, .ref ax_kept, .int x_keeps])), (ax_row, .inl (cyI, 28, .inl (upd x_row 0 ((x_row 0) - (1 : Int32)))))]) hx hb hK hP hD hS 1 rfl (vin (by decide)) 0 (by decide) rfl dX7_goesAway_41 (fun H locs hP hD hS => ?_)
        obtain rfl := Option.some.inj hf
        exact W.vret hx hb hr (fun t ht hW => ⟨⟨(), rfl, trivial, by rw [ht]; exact hP, hD⟩, hS.F ht⟩) hS.2.2 dX7_goesAway_42
      · replace hf := iq c9 hf
        refine lv_aload_n hx hb dX7_goesAway_12 rfl (lv_at hl 0 rfl) ?_
        refine va_get (C := RX7) (T := TX7) (N := 17) hx hb hts inX7 hown hK.1 hP 0 rfl rfl 0 (by decide) f7 (fun _ h9 => h9) rfl dX7_goesAway_13 ?_
        refine lv_iload_n hx hb dX7_goesAway_16 rfl (lv_at hl 1 rfl) ?_
        refine lv_aload_n hx hb dX7_goesAway_17 rfl (lv_at hl 0 rfl) ?_
        refine va_get (C := RX7) (T := TX7) (N := 17) hx hb hts inX7 hown hK.1 hP 0 rfl rfl 0 (by decide) f7 (fun _ h9 => h9) rfl dX7_goesAway_18 ?_
        refine lv_iload_n hx hb dX7_goesAway_21 rfl (lv_at hl 1 rfl) ?_
        refine lv_iconst (v := 3) hx hb dX7_goesAway_22 (by decide) ?_
        refine lv_iadd hx hb dX7_goesAway_23 ?_
        obtain ⟨z24, hf⟩ := oi hf
        refine a_ild hx hb hK hP 1 rfl z24 (i2 + (3 : Int32)).toNatClampNeg rfl dX7_goesAway_24 ?_
        obtain ⟨z25, hf⟩ := oi hf
        refine a_ist (wn := [(ax, .inr (7, [.ref ax_row, .ref ax_text, .int x_letters, .int x_at, .ref ax_read, .ref ax_undone, .int x_undos, .ref ax_order, .ref ax_dones, .int x_away, .int x_bestSet, .ref ax_aside, .ref ax_tapedWho, .ref ax_tapedTill, .int x_taped, .ref ax_kept, .int x_keeps])), (ax_row, .inl (cyI, 28, .inl (upd x_row i2.toNatClampNeg (x_row (i2 + (3 : Int32)).toNatClampNeg))))]) hx hb hK hP hD hS 1 rfl z25 i2.toNatClampNeg rfl rfl dX7_goesAway_25 (fun H locs hP hD hS => ?_)
        refine lv_iinc (v := i2 + (1 : Int32)) (lv' := [(2, .int (i2 + (1 : Int32))), (0, .ref ax)]) hx hb dX7_goesAway_26 hl (k := 1) rfl rfl (by decide) rfl (fun ls hl => ?_)
        refine lv_goto (tgt := 6) hx hb dX7_goesAway_29 (by decide) ?_
        exact ih6 (i2 + (1 : Int32)) (upd x_row i2.toNatClampNeg (x_row (i2 + (3 : Int32)).toNatClampNeg)) _ _ _ hP hD hS (lv_sub hl [1, 0] rfl) hf
  exact hL6 300 ((4 : Int32) + ((3 : Int32) * i1)) x_row _ _ _ hP hD hS (lv_sub hl [1, 0] rfl) hf
abbrev rX7_isPerson : Room := { frames := 1, cells := 0, slots := 0, locals := 25 }
set_option maxHeartbeats 4000000 in
set_option maxRecDepth 100000 in
theorem c_X7_isPerson (l : Launch) (D : va_G) (cyI cyC cyS : ClassId) (sz : Nat) (ax : Nat) (ax_row : Nat) (ax_text : Nat) (ax_read : Nat) (ax_undone : Nat) (ax_order : Nat) (ax_dones : Nat) (ax_aside : Nat) (ax_tapedWho : Nat) (ax_tapedTill : Nat) (ax_kept : Nat) (x_letters : Int32) (x_at : Int32) (x_undos : Int32) (x_away : Int32) (x_bestSet : Int32) (x_taped : Int32) (x_keeps : Int32) (x_row : Nat → Int32) (i1 : Int32) {r : Int32} (hf : S_X7_isPerson i1 x_row = some r) : Met l yX7_isPerson wsX7_isPerson rX7_isPerson (Cpre [.ref ax, .int i1] D cyI cyC cyS sz [(ax, .inr (7, [.ref ax_row, .ref ax_text, .int x_letters, .int x_at, .ref ax_read, .ref ax_undone, .int x_undos, .ref ax_order, .ref ax_dones, .int x_away, .int x_bestSet, .ref ax_aside, .ref ax_tapedWho, .ref ax_tapedTill, .int x_taped, .ref ax_kept, .int x_keeps])), (ax_row, .inl (cyI, 28, .inl x_row))]) (CQi r D [(ax, .inr (7, [.ref ax_row, .ref ax_text, .int x_letters, .int x_at, .ref ax_read, .ref ax_undone, .int x_undos, .ref ax_order, .ref ax_dones, .int x_away, .int x_bestSet, .ref ax_aside, .ref ax_tapedWho, .ref ax_tapedTill, .int x_taped, .ref ax_kept, .int x_keeps])), (ax_row, .inl (cyI, 28, .inl x_row))] (va_A [(ax, .inr (7, [.ref ax_row, .ref ax_text, .int x_letters, .int x_at, .ref ax_read, .ref ax_undone, .int x_undos, .ref ax_order, .ref ax_dones, .int x_away, .int x_bestSet, .ref ax_aside, .ref ax_tapedWho, .ref ax_tapedTill, .int x_taped, .ref ax_kept, .int x_keeps])), (ax_row, .inl (cyI, 28, .inl x_row))] sz)) 0 0 (va_A [(ax, .inr (7, [.ref ax_row, .ref ax_text, .int x_letters, .int x_at, .ref ax_read, .ref ax_undone, .int x_undos, .ref ax_order, .ref ax_dones, .int x_away, .int x_bestSet, .ref ax_aside, .ref ax_tapedWho, .ref ax_tapedTill, .int x_taped, .ref ax_kept, .int x_keeps])), (ax_row, .inl (cyI, 28, .inl x_row))] sz) := by
  refine Met.ofW (cc := cX7_isPerson) (maxL := 2) (ret := (some .boolean)) (by decide) rfl ?_
  intro p e s m args below meth c s₁ B hml hv
  obtain ⟨rfl, hsz, hP, hK, hD0⟩ := hv
  have hx := B.exec
  have hb := B.bytes
  have hr := B.returns
  have hts := atoms_spec (ws := wsX7_isPerson) B.pre
  have hown : s.vm.findClass RX7 = some m.cls := findClass_of_methodNamed B.named
  have hlocks := B.notSynchronized
  subst hsz
  have hD := hD0.self (sz := s.heap.size)
  generalize hAe : va_A [(ax, .inr (7, [.ref ax_row, .ref ax_text, .int x_letters, .int x_at, .ref ax_read, .ref ax_undone, .int x_undos, .ref ax_order, .ref ax_dones, .int x_away, .int x_bestSet, .ref ax_aside, .ref ax_tapedWho, .ref ax_tapedTill, .int x_taped, .ref ax_kept, .int x_keeps])), (ax_row, .inl (cyI, 28, .inl x_row))] s.heap.size = A at hD ⊢
  have hA : ∀ q : Nat, s.heap.size ≤ q → A q := fun q h => by rw [← hAe]; exact Or.inr h
  have hS : va_S A s.heap s.heap [] := va_S.rf
  have hl := lv_entry ([.ref ax, .int i1]) (n := 2) (Nat.le_of_ble_eq_true rfl)
  rw [lg_entry_eq]
  generalize (lg_sl ([.ref ax, .int i1]) ++ List.replicate (2 - (lg_sl ([.ref ax, .int i1])).length) Slot.unset).toArray = ls at hl ⊢
  have hl : lv_has ls 2 [(0, .ref ax), (1, .int i1)] := hl
  have f7 := hts (.fieldLink RX7 7 "SecondTillModel" "row" "[I") (by decide +kernel)
  have inX7 : ∀ w ∈ u_ws RX7 TX7 17, w ∈ wsX7_isPerson := by decide +kernel
  unfold S_X7_isPerson at hf
  have hP : va_P D vwCl [(ax, .inr (7, [.ref ax_row, .ref ax_text, .int x_letters, .int x_at, .ref ax_read, .ref ax_undone, .int x_undos, .ref ax_order, .ref ax_dones, .int x_away, .int x_bestSet, .ref ax_aside, .ref ax_tapedWho, .ref ax_tapedTill, .int x_taped, .ref ax_kept, .int x_keeps])), (ax_row, .inl (cyI, 28, .inl x_row))] s.heap := hP
  suffices hgo : ∀ (H : Heap) (locs : List Loc), va_P D vwCl [(ax, .inr (7, [.ref ax_row, .ref ax_text, .int x_letters, .int x_at, .ref ax_read, .ref ax_undone, .int x_undos, .ref ax_order, .ref ax_dones, .int x_away, .int x_bestSet, .ref ax_aside, .ref ax_tapedWho, .ref ax_tapedTill, .int x_taped, .ref ax_kept, .int x_keeps])), (ax_row, .inl (cyI, 28, .inl x_row))] H → va_S A s.heap H locs → W p l e rX7_isPerson s m (([.ref ax, .int i1] : List Value).toArray) below meth c H locs 0 0 (MQ below (CQi r D [(ax, .inr (7, [.ref ax_row, .ref ax_text, .int x_letters, .int x_at, .ref ax_read, .ref ax_undone, .int x_undos, .ref ax_order, .ref ax_dones, .int x_away, .int x_bestSet, .ref ax_aside, .ref ax_tapedWho, .ref ax_tapedTill, .int x_taped, .ref ax_kept, .int x_keeps])), (ax_row, .inl (cyI, 28, .inl x_row))] A) (([.ref ax, .int i1] : List Value).toArray) s 0 0 A) (F0 m 0 ls []) from hgo _ _ hP hS
  clear hP hS
  intro H locs hP hS
  refine lv_iload_n hx hb dX7_isPerson_0 rfl (lv_at hl 1 rfl) ?_
  refine lv_i2l (v := i1.toInt64) hx hb dX7_isPerson_1 rfl ?_
  refine lv_lconst (v := 0) hx hb dX7_isPerson_2 (by decide) ?_
  refine lv_aload_n hx hb dX7_isPerson_3 rfl (lv_at hl 0 rfl) ?_
  refine va_get (C := RX7) (T := TX7) (N := 17) hx hb hts inX7 hown hK.1 hP 0 rfl rfl 0 (by decide) f7 (fun _ h9 => h9) rfl dX7_isPerson_4 ?_
  refine lv_iconst (v := 0) hx hb dX7_isPerson_7 (by decide) ?_
  refine a_ild hx hb hK hP 1 rfl (vin (by decide)) 0 (by decide) dX7_isPerson_8 ?_
  refine lv_iconst (v := 1) hx hb dX7_isPerson_9 (by decide) ?_
  refine lv_isub hx hb dX7_isPerson_10 ?_
  refine lv_i2l (v := ((x_row 0) - (1 : Int32)).toInt64) hx hb dX7_isPerson_11 rfl ?_
  obtain ⟨r12, q12, hf⟩ := ob hf
  refine k_i (wc := []) (wr := [(ax, .inr (7, [.ref ax_row, .ref ax_text, .int x_letters, .int x_at, .ref ax_read, .ref ax_undone, .int x_undos, .ref ax_order, .ref ax_dones, .int x_away, .int x_bestSet, .ref ax_aside, .ref ax_tapedWho, .ref ax_tapedTill, .int x_taped, .ref ax_kept, .int x_keeps])), (ax_row, .inl (cyI, 28, .inl x_row))]) (w1 := []) (wn := [(ax, .inr (7, [.ref ax_row, .ref ax_text, .int x_letters, .int x_at, .ref ax_read, .ref ax_undone, .int x_undos, .ref ax_order, .ref ax_dones, .int x_away, .int x_bestSet, .ref ax_aside, .ref ax_tapedWho, .ref ax_tapedTill, .int x_taped, .ref ax_kept, .int x_keeps])), (ax_row, .inl (cyI, 28, .inl x_row))]) (va_runS (As := [.long i1.toInt64, .long (0 : Int64), .long (((x_row 0) - (1 : Int32)).toInt64)]) (rest := []) ⟨hx, hb, hml, hown, hts⟩ (c_X7_in l D cyI cyC cyS H.size i1.toInt64 (0 : Int64) (((x_row 0) - (1 : Int32)).toInt64) q12) (va_cwS 3 hts gX7_isPerson_X7_in rfl rfl rfl (by decide +kernel) ⟨Nat.le_of_ble_eq_true rfl, Nat.le_of_ble_eq_true rfl⟩) (preS hK (hP.subm (ws' := []) [] rfl) (hD.sub (ws' := []) [] (by decide) rfl)) rfl rfl hl.1 rfl (lv_room (Nat.le_of_ble_eq_true rfl)) dX7_isPerson_12 ⟨Nat.le_of_ble_eq_true rfl, Nat.le_of_ble_eq_true rfl⟩) hP hD hS hA [] [0, 1] [0, 1] rfl rfl rfl (by decide) (by decide) (by decide) (fun H locs hP hD hS => ?_)
  obtain ⟨n15, hf⟩ := oj hf
  obtain rfl := Option.some.inj hf
  exact W.zret hx hb hr (nar_boolean n15) (fun t ht hW => ⟨⟨_, (), rfl, rfl, by rw [ht]; exact hP, hD⟩, hS.F ht⟩) hS.2.2 dX7_isPerson_15
abbrev rX7_kind : Room := { frames := 0, cells := 0, slots := 0, locals := 0 }
set_option maxHeartbeats 4000000 in
set_option maxRecDepth 100000 in
theorem c_X7_kind (l : Launch) (D : va_G) (cyI cyC cyS : ClassId) (sz : Nat) (ax : Nat) (ax_row : Nat) (ax_text : Nat) (ax_read : Nat) (ax_undone : Nat) (ax_order : Nat) (ax_dones : Nat) (ax_aside : Nat) (ax_tapedWho : Nat) (ax_tapedTill : Nat) (ax_kept : Nat) (x_letters : Int32) (x_at : Int32) (x_undos : Int32) (x_away : Int32) (x_bestSet : Int32) (x_taped : Int32) (x_keeps : Int32) (x_row : Nat → Int32) (i1 : Int32) {r : Int32} (hf : S_X7_kind i1 x_row = some r) : Met l yX7_kind wsX7_kind rX7_kind (Cpre [.ref ax, .int i1] D cyI cyC cyS sz [(ax, .inr (7, [.ref ax_row, .ref ax_text, .int x_letters, .int x_at, .ref ax_read, .ref ax_undone, .int x_undos, .ref ax_order, .ref ax_dones, .int x_away, .int x_bestSet, .ref ax_aside, .ref ax_tapedWho, .ref ax_tapedTill, .int x_taped, .ref ax_kept, .int x_keeps])), (ax_row, .inl (cyI, 28, .inl x_row))]) (CQi r D [(ax, .inr (7, [.ref ax_row, .ref ax_text, .int x_letters, .int x_at, .ref ax_read, .ref ax_undone, .int x_undos, .ref ax_order, .ref ax_dones, .int x_away, .int x_bestSet, .ref ax_aside, .ref ax_tapedWho, .ref ax_tapedTill, .int x_taped, .ref ax_kept, .int x_keeps])), (ax_row, .inl (cyI, 28, .inl x_row))] (va_A [(ax, .inr (7, [.ref ax_row, .ref ax_text, .int x_letters, .int x_at, .ref ax_read, .ref ax_undone, .int x_undos, .ref ax_order, .ref ax_dones, .int x_away, .int x_bestSet, .ref ax_aside, .ref ax_tapedWho, .ref ax_tapedTill, .int x_taped, .ref ax_kept, .int x_keeps])), (ax_row, .inl (cyI, 28, .inl x_row))] sz)) 0 0 (va_A [(ax, .inr (7, [.ref ax_row, .ref ax_text, .int x_letters, .int x_at, .ref ax_read, .ref ax_undone, .int x_undos, .ref ax_order, .ref ax_dones, .int x_away, .int x_bestSet, .ref ax_aside, .ref ax_tapedWho, .ref ax_tapedTill, .int x_taped, .ref ax_kept, .int x_keeps])), (ax_row, .inl (cyI, 28, .inl x_row))] sz) := by
  refine Met.ofW (cc := cX7_kind) (maxL := 2) (ret := (some .int)) (by decide) rfl ?_
  intro p e s m args below meth c s₁ B hml hv
  obtain ⟨rfl, hsz, hP, hK, hD0⟩ := hv
  have hx := B.exec
  have hb := B.bytes
  have hr := B.returns
  have hts := atoms_spec (ws := wsX7_kind) B.pre
  have hown : s.vm.findClass RX7 = some m.cls := findClass_of_methodNamed B.named
  have hlocks := B.notSynchronized
  subst hsz
  have hD := hD0.self (sz := s.heap.size)
  generalize hAe : va_A [(ax, .inr (7, [.ref ax_row, .ref ax_text, .int x_letters, .int x_at, .ref ax_read, .ref ax_undone, .int x_undos, .ref ax_order, .ref ax_dones, .int x_away, .int x_bestSet, .ref ax_aside, .ref ax_tapedWho, .ref ax_tapedTill, .int x_taped, .ref ax_kept, .int x_keeps])), (ax_row, .inl (cyI, 28, .inl x_row))] s.heap.size = A at hD ⊢
  have hA : ∀ q : Nat, s.heap.size ≤ q → A q := fun q h => by rw [← hAe]; exact Or.inr h
  have hS : va_S A s.heap s.heap [] := va_S.rf
  have hl := lv_entry ([.ref ax, .int i1]) (n := 2) (Nat.le_of_ble_eq_true rfl)
  rw [lg_entry_eq]
  generalize (lg_sl ([.ref ax, .int i1]) ++ List.replicate (2 - (lg_sl ([.ref ax, .int i1])).length) Slot.unset).toArray = ls at hl ⊢
  have hl : lv_has ls 2 [(0, .ref ax), (1, .int i1)] := hl
  have f7 := hts (.fieldLink RX7 7 "SecondTillModel" "row" "[I") (by decide +kernel)
  have inX7 : ∀ w ∈ u_ws RX7 TX7 17, w ∈ wsX7_kind := by decide +kernel
  unfold S_X7_kind at hf
  have hP : va_P D vwCl [(ax, .inr (7, [.ref ax_row, .ref ax_text, .int x_letters, .int x_at, .ref ax_read, .ref ax_undone, .int x_undos, .ref ax_order, .ref ax_dones, .int x_away, .int x_bestSet, .ref ax_aside, .ref ax_tapedWho, .ref ax_tapedTill, .int x_taped, .ref ax_kept, .int x_keeps])), (ax_row, .inl (cyI, 28, .inl x_row))] s.heap := hP
  suffices hgo : ∀ (H : Heap) (locs : List Loc), va_P D vwCl [(ax, .inr (7, [.ref ax_row, .ref ax_text, .int x_letters, .int x_at, .ref ax_read, .ref ax_undone, .int x_undos, .ref ax_order, .ref ax_dones, .int x_away, .int x_bestSet, .ref ax_aside, .ref ax_tapedWho, .ref ax_tapedTill, .int x_taped, .ref ax_kept, .int x_keeps])), (ax_row, .inl (cyI, 28, .inl x_row))] H → va_S A s.heap H locs → W p l e rX7_kind s m (([.ref ax, .int i1] : List Value).toArray) below meth c H locs 0 0 (MQ below (CQi r D [(ax, .inr (7, [.ref ax_row, .ref ax_text, .int x_letters, .int x_at, .ref ax_read, .ref ax_undone, .int x_undos, .ref ax_order, .ref ax_dones, .int x_away, .int x_bestSet, .ref ax_aside, .ref ax_tapedWho, .ref ax_tapedTill, .int x_taped, .ref ax_kept, .int x_keeps])), (ax_row, .inl (cyI, 28, .inl x_row))] A) (([.ref ax, .int i1] : List Value).toArray) s 0 0 A) (F0 m 0 ls []) from hgo _ _ hP hS
  clear hP hS
  intro H locs hP hS
  refine lv_aload_n hx hb dX7_kind_0 rfl (lv_at hl 0 rfl) ?_
  refine va_get (C := RX7) (T := TX7) (N := 17) hx hb hts inX7 hown hK.1 hP 0 rfl rfl 0 (by decide) f7 (fun _ h9 => h9) rfl dX7_kind_1 ?_
  refine lv_iconst (v := 4) hx hb dX7_kind_4 (by decide) ?_
  refine lv_iconst (v := 3) hx hb dX7_kind_5 (by decide) ?_
  refine lv_iload_n hx hb dX7_kind_6 rfl (lv_at hl 1 rfl) ?_
  refine lv_imul hx hb dX7_kind_7 ?_
  refine lv_iadd hx hb dX7_kind_8 ?_
  obtain ⟨z9, hf⟩ := oi hf
  refine a_ild hx hb hK hP 1 rfl z9 ((4 : Int32) + ((3 : Int32) * i1)).toNatClampNeg rfl dX7_kind_9 ?_
  obtain rfl := Option.some.inj hf
  exact W.iret hx hb hr (fun t ht hW => ⟨⟨_, (), rfl, rfl, by rw [ht]; exact hP, hD⟩, hS.F ht⟩) hS.2.2 dX7_kind_10
abbrev rX7_things : Room := { frames := 0, cells := 0, slots := 0, locals := 0 }
set_option maxHeartbeats 4000000 in
set_option maxRecDepth 100000 in
theorem c_X7_things (l : Launch) (D : va_G) (cyI cyC cyS : ClassId) (sz : Nat) (ax : Nat) (ax_row : Nat) (ax_text : Nat) (ax_read : Nat) (ax_undone : Nat) (ax_order : Nat) (ax_dones : Nat) (ax_aside : Nat) (ax_tapedWho : Nat) (ax_tapedTill : Nat) (ax_kept : Nat) (x_letters : Int32) (x_at : Int32) (x_undos : Int32) (x_away : Int32) (x_bestSet : Int32) (x_taped : Int32) (x_keeps : Int32) (x_row : Nat → Int32) (i1 : Int32) {r : Int32} (hf : S_X7_things i1 x_row = some r) : Met l yX7_things wsX7_things rX7_things (Cpre [.ref ax, .int i1] D cyI cyC cyS sz [(ax, .inr (7, [.ref ax_row, .ref ax_text, .int x_letters, .int x_at, .ref ax_read, .ref ax_undone, .int x_undos, .ref ax_order, .ref ax_dones, .int x_away, .int x_bestSet, .ref ax_aside, .ref ax_tapedWho, .ref ax_tapedTill, .int x_taped, .ref ax_kept, .int x_keeps])), (ax_row, .inl (cyI, 28, .inl x_row))]) (CQi r D [(ax, .inr (7, [.ref ax_row, .ref ax_text, .int x_letters, .int x_at, .ref ax_read, .ref ax_undone, .int x_undos, .ref ax_order, .ref ax_dones, .int x_away, .int x_bestSet, .ref ax_aside, .ref ax_tapedWho, .ref ax_tapedTill, .int x_taped, .ref ax_kept, .int x_keeps])), (ax_row, .inl (cyI, 28, .inl x_row))] (va_A [(ax, .inr (7, [.ref ax_row, .ref ax_text, .int x_letters, .int x_at, .ref ax_read, .ref ax_undone, .int x_undos, .ref ax_order, .ref ax_dones, .int x_away, .int x_bestSet, .ref ax_aside, .ref ax_tapedWho, .ref ax_tapedTill, .int x_taped, .ref ax_kept, .int x_keeps])), (ax_row, .inl (cyI, 28, .inl x_row))] sz)) 0 0 (va_A [(ax, .inr (7, [.ref ax_row, .ref ax_text, .int x_letters, .int x_at, .ref ax_read, .ref ax_undone, .int x_undos, .ref ax_order, .ref ax_dones, .int x_away, .int x_bestSet, .ref ax_aside, .ref ax_tapedWho, .ref ax_tapedTill, .int x_taped, .ref ax_kept, .int x_keeps])), (ax_row, .inl (cyI, 28, .inl x_row))] sz) := by
  refine Met.ofW (cc := cX7_things) (maxL := 2) (ret := (some .int)) (by decide) rfl ?_
  intro p e s m args below meth c s₁ B hml hv
  obtain ⟨rfl, hsz, hP, hK, hD0⟩ := hv
  have hx := B.exec
  have hb := B.bytes
  have hr := B.returns
  have hts := atoms_spec (ws := wsX7_things) B.pre
  have hown : s.vm.findClass RX7 = some m.cls := findClass_of_methodNamed B.named
  have hlocks := B.notSynchronized
  subst hsz
  have hD := hD0.self (sz := s.heap.size)
  generalize hAe : va_A [(ax, .inr (7, [.ref ax_row, .ref ax_text, .int x_letters, .int x_at, .ref ax_read, .ref ax_undone, .int x_undos, .ref ax_order, .ref ax_dones, .int x_away, .int x_bestSet, .ref ax_aside, .ref ax_tapedWho, .ref ax_tapedTill, .int x_taped, .ref ax_kept, .int x_keeps])), (ax_row, .inl (cyI, 28, .inl x_row))] s.heap.size = A at hD ⊢
  have hA : ∀ q : Nat, s.heap.size ≤ q → A q := fun q h => by rw [← hAe]; exact Or.inr h
  have hS : va_S A s.heap s.heap [] := va_S.rf
  have hl := lv_entry ([.ref ax, .int i1]) (n := 2) (Nat.le_of_ble_eq_true rfl)
  rw [lg_entry_eq]
  generalize (lg_sl ([.ref ax, .int i1]) ++ List.replicate (2 - (lg_sl ([.ref ax, .int i1])).length) Slot.unset).toArray = ls at hl ⊢
  have hl : lv_has ls 2 [(0, .ref ax), (1, .int i1)] := hl
  have f7 := hts (.fieldLink RX7 7 "SecondTillModel" "row" "[I") (by decide +kernel)
  have inX7 : ∀ w ∈ u_ws RX7 TX7 17, w ∈ wsX7_things := by decide +kernel
  unfold S_X7_things at hf
  have hP : va_P D vwCl [(ax, .inr (7, [.ref ax_row, .ref ax_text, .int x_letters, .int x_at, .ref ax_read, .ref ax_undone, .int x_undos, .ref ax_order, .ref ax_dones, .int x_away, .int x_bestSet, .ref ax_aside, .ref ax_tapedWho, .ref ax_tapedTill, .int x_taped, .ref ax_kept, .int x_keeps])), (ax_row, .inl (cyI, 28, .inl x_row))] s.heap := hP
  suffices hgo : ∀ (H : Heap) (locs : List Loc), va_P D vwCl [(ax, .inr (7, [.ref ax_row, .ref ax_text, .int x_letters, .int x_at, .ref ax_read, .ref ax_undone, .int x_undos, .ref ax_order, .ref ax_dones, .int x_away, .int x_bestSet, .ref ax_aside, .ref ax_tapedWho, .ref ax_tapedTill, .int x_taped, .ref ax_kept, .int x_keeps])), (ax_row, .inl (cyI, 28, .inl x_row))] H → va_S A s.heap H locs → W p l e rX7_things s m (([.ref ax, .int i1] : List Value).toArray) below meth c H locs 0 0 (MQ below (CQi r D [(ax, .inr (7, [.ref ax_row, .ref ax_text, .int x_letters, .int x_at, .ref ax_read, .ref ax_undone, .int x_undos, .ref ax_order, .ref ax_dones, .int x_away, .int x_bestSet, .ref ax_aside, .ref ax_tapedWho, .ref ax_tapedTill, .int x_taped, .ref ax_kept, .int x_keeps])), (ax_row, .inl (cyI, 28, .inl x_row))] A) (([.ref ax, .int i1] : List Value).toArray) s 0 0 A) (F0 m 0 ls []) from hgo _ _ hP hS
  clear hP hS
  intro H locs hP hS
  refine lv_aload_n hx hb dX7_things_0 rfl (lv_at hl 0 rfl) ?_
  refine va_get (C := RX7) (T := TX7) (N := 17) hx hb hts inX7 hown hK.1 hP 0 rfl rfl 0 (by decide) f7 (fun _ h9 => h9) rfl dX7_things_1 ?_
  refine lv_iconst (v := 4) hx hb dX7_things_4 (by decide) ?_
  refine lv_iconst (v := 3) hx hb dX7_things_5 (by decide) ?_
  refine lv_iload_n hx hb dX7_things_6 rfl (lv_at hl 1 rfl) ?_
  refine lv_imul hx hb dX7_things_7 ?_
  refine lv_iadd hx hb dX7_things_8 ?_
  refine lv_iconst (v := 1) hx hb dX7_things_9 (by decide) ?_
  refine lv_iadd hx hb dX7_things_10 ?_
  obtain ⟨z11, hf⟩ := oi hf
  refine a_ild hx hb hK hP 1 rfl z11 (((4 : Int32) + ((3 : Int32) * i1)) + (1 : Int32)).toNatClampNeg rfl dX7_things_11 ?_
  obtain rfl := Option.some.inj hf
  exact W.iret hx hb hr (fun t ht hW => ⟨⟨_, (), rfl, rfl, by rw [ht]; exact hP, hD⟩, hS.F ht⟩) hS.2.2 dX7_things_12
abbrev rX7_walk : Room := { frames := 0, cells := 0, slots := 0, locals := 0 }
set_option maxHeartbeats 4000000 in
set_option maxRecDepth 100000 in
theorem c_X7_walk (l : Launch) (D : va_G) (cyI cyC cyS : ClassId) (sz : Nat) (ax : Nat) (ax_row : Nat) (ax_text : Nat) (ax_read : Nat) (ax_undone : Nat) (ax_order : Nat) (ax_dones : Nat) (ax_aside : Nat) (ax_tapedWho : Nat) (ax_tapedTill : Nat) (ax_kept : Nat) (x_letters : Int32) (x_at : Int32) (x_undos : Int32) (x_away : Int32) (x_bestSet : Int32) (x_taped : Int32) (x_keeps : Int32) (x_row : Nat → Int32) (i1 : Int32) {r : Int32} (hf : S_X7_walk i1 x_row = some r) : Met l yX7_walk wsX7_walk rX7_walk (Cpre [.ref ax, .int i1] D cyI cyC cyS sz [(ax, .inr (7, [.ref ax_row, .ref ax_text, .int x_letters, .int x_at, .ref ax_read, .ref ax_undone, .int x_undos, .ref ax_order, .ref ax_dones, .int x_away, .int x_bestSet, .ref ax_aside, .ref ax_tapedWho, .ref ax_tapedTill, .int x_taped, .ref ax_kept, .int x_keeps])), (ax_row, .inl (cyI, 28, .inl x_row))]) (CQi r D [(ax, .inr (7, [.ref ax_row, .ref ax_text, .int x_letters, .int x_at, .ref ax_read, .ref ax_undone, .int x_undos, .ref ax_order, .ref ax_dones, .int x_away, .int x_bestSet, .ref ax_aside, .ref ax_tapedWho, .ref ax_tapedTill, .int x_taped, .ref ax_kept, .int x_keeps])), (ax_row, .inl (cyI, 28, .inl x_row))] (va_A [(ax, .inr (7, [.ref ax_row, .ref ax_text, .int x_letters, .int x_at, .ref ax_read, .ref ax_undone, .int x_undos, .ref ax_order, .ref ax_dones, .int x_away, .int x_bestSet, .ref ax_aside, .ref ax_tapedWho, .ref ax_tapedTill, .int x_taped, .ref ax_kept, .int x_keeps])), (ax_row, .inl (cyI, 28, .inl x_row))] sz)) 0 0 (va_A [(ax, .inr (7, [.ref ax_row, .ref ax_text, .int x_letters, .int x_at, .ref ax_read, .ref ax_undone, .int x_undos, .ref ax_order, .ref ax_dones, .int x_away, .int x_bestSet, .ref ax_aside, .ref ax_tapedWho, .ref ax_tapedTill, .int x_taped, .ref ax_kept, .int x_keeps])), (ax_row, .inl (cyI, 28, .inl x_row))] sz) := by
  refine Met.ofW (cc := cX7_walk) (maxL := 2) (ret := (some .int)) (by decide) rfl ?_
  intro p e s m args below meth c s₁ B hml hv
  obtain ⟨rfl, hsz, hP, hK, hD0⟩ := hv
  have hx := B.exec
  have hb := B.bytes
  have hr := B.returns
  have hts := atoms_spec (ws := wsX7_walk) B.pre
  have hown : s.vm.findClass RX7 = some m.cls := findClass_of_methodNamed B.named
  have hlocks := B.notSynchronized
  subst hsz
  have hD := hD0.self (sz := s.heap.size)
  generalize hAe : va_A [(ax, .inr (7, [.ref ax_row, .ref ax_text, .int x_letters, .int x_at, .ref ax_read, .ref ax_undone, .int x_undos, .ref ax_order, .ref ax_dones, .int x_away, .int x_bestSet, .ref ax_aside, .ref ax_tapedWho, .ref ax_tapedTill, .int x_taped, .ref ax_kept, .int x_keeps])), (ax_row, .inl (cyI, 28, .inl x_row))] s.heap.size = A at hD ⊢
  have hA : ∀ q : Nat, s.heap.size ≤ q → A q := fun q h => by rw [← hAe]; exact Or.inr h
  have hS : va_S A s.heap s.heap [] := va_S.rf
  have hl := lv_entry ([.ref ax, .int i1]) (n := 2) (Nat.le_of_ble_eq_true rfl)
  rw [lg_entry_eq]
  generalize (lg_sl ([.ref ax, .int i1]) ++ List.replicate (2 - (lg_sl ([.ref ax, .int i1])).length) Slot.unset).toArray = ls at hl ⊢
  have hl : lv_has ls 2 [(0, .ref ax), (1, .int i1)] := hl
  have f7 := hts (.fieldLink RX7 7 "SecondTillModel" "row" "[I") (by decide +kernel)
  have inX7 : ∀ w ∈ u_ws RX7 TX7 17, w ∈ wsX7_walk := by decide +kernel
  unfold S_X7_walk at hf
  have hP : va_P D vwCl [(ax, .inr (7, [.ref ax_row, .ref ax_text, .int x_letters, .int x_at, .ref ax_read, .ref ax_undone, .int x_undos, .ref ax_order, .ref ax_dones, .int x_away, .int x_bestSet, .ref ax_aside, .ref ax_tapedWho, .ref ax_tapedTill, .int x_taped, .ref ax_kept, .int x_keeps])), (ax_row, .inl (cyI, 28, .inl x_row))] s.heap := hP
  suffices hgo : ∀ (H : Heap) (locs : List Loc), va_P D vwCl [(ax, .inr (7, [.ref ax_row, .ref ax_text, .int x_letters, .int x_at, .ref ax_read, .ref ax_undone, .int x_undos, .ref ax_order, .ref ax_dones, .int x_away, .int x_bestSet, .ref ax_aside, .ref ax_tapedWho, .ref ax_tapedTill, .int x_taped, .ref ax_kept, .int x_keeps])), (ax_row, .inl (cyI, 28, .inl x_row))] H → va_S A s.heap H locs → W p l e rX7_walk s m (([.ref ax, .int i1] : List Value).toArray) below meth c H locs 0 0 (MQ below (CQi r D [(ax, .inr (7, [.ref ax_row, .ref ax_text, .int x_letters, .int x_at, .ref ax_read, .ref ax_undone, .int x_undos, .ref ax_order, .ref ax_dones, .int x_away, .int x_bestSet, .ref ax_aside, .ref ax_tapedWho, .ref ax_tapedTill, .int x_taped, .ref ax_kept, .int x_keeps])), (ax_row, .inl (cyI, 28, .inl x_row))] A) (([.ref ax, .int i1] : List Value).toArray) s 0 0 A) (F0 m 0 ls []) from hgo _ _ hP hS
  clear hP hS
  intro H locs hP hS
  refine lv_aload_n hx hb dX7_walk_0 rfl (lv_at hl 0 rfl) ?_
  refine va_get (C := RX7) (T := TX7) (N := 17) hx hb hts inX7 hown hK.1 hP 0 rfl rfl 0 (by decide) f7 (fun _ h9 => h9) rfl dX7_walk_1 ?_
  refine lv_iconst (v := 4) hx hb dX7_walk_4 (by decide) ?_
  refine lv_iconst (v := 3) hx hb dX7_walk_5 (by decide) ?_
  refine lv_iload_n hx hb dX7_walk_6 rfl (lv_at hl 1 rfl) ?_
  refine lv_imul hx hb dX7_walk_7 ?_
  refine lv_iadd hx hb dX7_walk_8 ?_
  refine lv_iconst (v := 2) hx hb dX7_walk_9 (by decide) ?_
  refine lv_iadd hx hb dX7_walk_10 ?_
  obtain ⟨z11, hf⟩ := oi hf
  refine a_ild hx hb hK hP 1 rfl z11 (((4 : Int32) + ((3 : Int32) * i1)) + (2 : Int32)).toNatClampNeg rfl dX7_walk_11 ?_
  refine lv_aload_n hx hb dX7_walk_12 rfl (lv_at hl 0 rfl) ?_
  refine va_get (C := RX7) (T := TX7) (N := 17) hx hb hts inX7 hown hK.1 hP 0 rfl rfl 0 (by decide) f7 (fun _ h9 => h9) rfl dX7_walk_13 ?_
  refine lv_iconst (v := 3) hx hb dX7_walk_16 (by decide) ?_
  refine a_ild hx hb hK hP 1 rfl (vin (by decide)) 3 (by decide) dX7_walk_17 ?_
  refine lv_aload_n hx hb dX7_walk_18 rfl (lv_at hl 0 rfl) ?_
  refine va_get (C := RX7) (T := TX7) (N := 17) hx hb hts inX7 hown hK.1 hP 0 rfl rfl 0 (by decide) f7 (fun _ h9 => h9) rfl dX7_walk_19 ?_
  refine lv_iconst (v := 0) hx hb dX7_walk_22 (by decide) ?_
  refine a_ild hx hb hK hP 1 rfl (vin (by decide)) 0 (by decide) dX7_walk_23 ?_
  refine lv_iadd hx hb dX7_walk_24 ?_
  refine lv_iload_n hx hb dX7_walk_25 rfl (lv_at hl 1 rfl) ?_
  refine lv_isub hx hb dX7_walk_26 ?_
  refine lv_imul hx hb dX7_walk_27 ?_
  obtain rfl := Option.some.inj hf
  exact W.iret hx hb hr (fun t ht hW => ⟨⟨_, (), rfl, rfl, by rw [ht]; exact hP, hD⟩, hS.F ht⟩) hS.2.2 dX7_walk_28
abbrev rX7_person : Room := { frames := 2, cells := 0, slots := 0, locals := 46 }
set_option maxHeartbeats 4000000 in
set_option maxRecDepth 100000 in
theorem c_X7_person (l : Launch) (D : va_G) (cyI cyC cyS : ClassId) (sz : Nat) (ax : Nat) (ax_row : Nat) (ax_text : Nat) (ax_read : Nat) (ax_undone : Nat) (ax_order : Nat) (ax_dones : Nat) (ax_aside : Nat) (ax_tapedWho : Nat) (ax_tapedTill : Nat) (ax_kept : Nat) (x_letters : Int32) (x_at : Int32) (x_undos : Int32) (x_away : Int32) (x_bestSet : Int32) (x_taped : Int32) (x_keeps : Int32) (x_row : Nat → Int32) (i1 : Int32) (i2 : Int32) {r : Int32} (hf : S_X7_person i1 i2 x_row = some r) : Met l yX7_person wsX7_person rX7_person (Cpre [.ref ax, .int i1, .int i2] D cyI cyC cyS sz [(ax, .inr (7, [.ref ax_row, .ref ax_text, .int x_letters, .int x_at, .ref ax_read, .ref ax_undone, .int x_undos, .ref ax_order, .ref ax_dones, .int x_away, .int x_bestSet, .ref ax_aside, .ref ax_tapedWho, .ref ax_tapedTill, .int x_taped, .ref ax_kept, .int x_keeps])), (ax_row, .inl (cyI, 28, .inl x_row))]) (CQi r D [(ax, .inr (7, [.ref ax_row, .ref ax_text, .int x_letters, .int x_at, .ref ax_read, .ref ax_undone, .int x_undos, .ref ax_order, .ref ax_dones, .int x_away, .int x_bestSet, .ref ax_aside, .ref ax_tapedWho, .ref ax_tapedTill, .int x_taped, .ref ax_kept, .int x_keeps])), (ax_row, .inl (cyI, 28, .inl x_row))] (va_A [(ax, .inr (7, [.ref ax_row, .ref ax_text, .int x_letters, .int x_at, .ref ax_read, .ref ax_undone, .int x_undos, .ref ax_order, .ref ax_dones, .int x_away, .int x_bestSet, .ref ax_aside, .ref ax_tapedWho, .ref ax_tapedTill, .int x_taped, .ref ax_kept, .int x_keeps])), (ax_row, .inl (cyI, 28, .inl x_row))] sz)) 0 0 (va_A [(ax, .inr (7, [.ref ax_row, .ref ax_text, .int x_letters, .int x_at, .ref ax_read, .ref ax_undone, .int x_undos, .ref ax_order, .ref ax_dones, .int x_away, .int x_bestSet, .ref ax_aside, .ref ax_tapedWho, .ref ax_tapedTill, .int x_taped, .ref ax_kept, .int x_keeps])), (ax_row, .inl (cyI, 28, .inl x_row))] sz) := by
  refine Met.ofW (cc := cX7_person) (maxL := 3) (ret := (some .int)) (by decide) rfl ?_
  intro p e s m args below meth c s₁ B hml hv
  obtain ⟨rfl, hsz, hP, hK, hD0⟩ := hv
  have hx := B.exec
  have hb := B.bytes
  have hr := B.returns
  have hts := atoms_spec (ws := wsX7_person) B.pre
  have hown : s.vm.findClass RX7 = some m.cls := findClass_of_methodNamed B.named
  have hlocks := B.notSynchronized
  subst hsz
  have hD := hD0.self (sz := s.heap.size)
  generalize hAe : va_A [(ax, .inr (7, [.ref ax_row, .ref ax_text, .int x_letters, .int x_at, .ref ax_read, .ref ax_undone, .int x_undos, .ref ax_order, .ref ax_dones, .int x_away, .int x_bestSet, .ref ax_aside, .ref ax_tapedWho, .ref ax_tapedTill, .int x_taped, .ref ax_kept, .int x_keeps])), (ax_row, .inl (cyI, 28, .inl x_row))] s.heap.size = A at hD ⊢
  have hA : ∀ q : Nat, s.heap.size ≤ q → A q := fun q h => by rw [← hAe]; exact Or.inr h
  have hS : va_S A s.heap s.heap [] := va_S.rf
  have hl := lv_entry ([.ref ax, .int i1, .int i2]) (n := 3) (Nat.le_of_ble_eq_true rfl)
  rw [lg_entry_eq]
  generalize (lg_sl ([.ref ax, .int i1, .int i2]) ++ List.replicate (3 - (lg_sl ([.ref ax, .int i1, .int i2])).length) Slot.unset).toArray = ls at hl ⊢
  have hl : lv_has ls 3 [(0, .ref ax), (1, .int i1), (2, .int i2)] := hl
  have k52 := hts (.constantLong RX7 52 (3)) (by decide +kernel)
  have f7 := hts (.fieldLink RX7 7 "SecondTillModel" "row" "[I") (by decide +kernel)
  have inX7 : ∀ w ∈ u_ws RX7 TX7 17, w ∈ wsX7_person := by decide +kernel
  unfold S_X7_person at hf
  have hP : va_P D vwCl [(ax, .inr (7, [.ref ax_row, .ref ax_text, .int x_letters, .int x_at, .ref ax_read, .ref ax_undone, .int x_undos, .ref ax_order, .ref ax_dones, .int x_away, .int x_bestSet, .ref ax_aside, .ref ax_tapedWho, .ref ax_tapedTill, .int x_taped, .ref ax_kept, .int x_keeps])), (ax_row, .inl (cyI, 28, .inl x_row))] s.heap := hP
  suffices hgo : ∀ (H : Heap) (locs : List Loc), va_P D vwCl [(ax, .inr (7, [.ref ax_row, .ref ax_text, .int x_letters, .int x_at, .ref ax_read, .ref ax_undone, .int x_undos, .ref ax_order, .ref ax_dones, .int x_away, .int x_bestSet, .ref ax_aside, .ref ax_tapedWho, .ref ax_tapedTill, .int x_taped, .ref ax_kept, .int x_keeps])), (ax_row, .inl (cyI, 28, .inl x_row))] H → va_S A s.heap H locs → W p l e rX7_person s m (([.ref ax, .int i1, .int i2] : List Value).toArray) below meth c H locs 0 0 (MQ below (CQi r D [(ax, .inr (7, [.ref ax_row, .ref ax_text, .int x_letters, .int x_at, .ref ax_read, .ref ax_undone, .int x_undos, .ref ax_order, .ref ax_dones, .int x_away, .int x_bestSet, .ref ax_aside, .ref ax_tapedWho, .ref ax_tapedTill, .int x_taped, .ref ax_kept, .int x_keeps])), (ax_row, .inl (cyI, 28, .inl x_row))] A) (([.ref ax, .int i1, .int i2] : List Value).toArray) s 0 0 A) (F0 m 0 ls []) from hgo _ _ hP hS
  clear hP hS
  intro H locs hP hS
  refine lv_aload_n hx hb dX7_person_0 rfl (lv_at hl 0 rfl) ?_
  refine lv_iload_n hx hb dX7_person_1 rfl (lv_at hl 1 rfl) ?_
  obtain ⟨r2, q2, hf⟩ := ob hf
  refine k_i (wc := [(ax, .inr (7, [.ref ax_row, .ref ax_text, .int x_letters, .int x_at, .ref ax_read, .ref ax_undone, .int x_undos, .ref ax_order, .ref ax_dones, .int x_away, .int x_bestSet, .ref ax_aside, .ref ax_tapedWho, .ref ax_tapedTill, .int x_taped, .ref ax_kept, .int x_keeps])), (ax_row, .inl (cyI, 28, .inl x_row))]) (wr := []) (w1 := [(ax, .inr (7, [.ref ax_row, .ref ax_text, .int x_letters, .int x_at, .ref ax_read, .ref ax_undone, .int x_undos, .ref ax_order, .ref ax_dones, .int x_away, .int x_bestSet, .ref ax_aside, .ref ax_tapedWho, .ref ax_tapedTill, .int x_taped, .ref ax_kept, .int x_keeps])), (ax_row, .inl (cyI, 28, .inl x_row))]) (wn := [(ax, .inr (7, [.ref ax_row, .ref ax_text, .int x_letters, .int x_at, .ref ax_read, .ref ax_undone, .int x_undos, .ref ax_order, .ref ax_dones, .int x_away, .int x_bestSet, .ref ax_aside, .ref ax_tapedWho, .ref ax_tapedTill, .int x_taped, .ref ax_kept, .int x_keeps])), (ax_row, .inl (cyI, 28, .inl x_row))]) (va_runV (As := [.int i1]) (rest := []) ⟨hx, hb, hml, hown, hts⟩ (c_X7_isPerson l D cyI cyC cyS H.size ax ax_row ax_text ax_read ax_undone ax_order ax_dones ax_aside ax_tapedWho ax_tapedTill ax_kept x_letters x_at x_undos x_away x_bestSet x_taped x_keeps x_row i1 q2) (cwV 1 hts gX7_person_X7_isPerson rfl rfl rfl (by decide +kernel) ⟨Nat.le_of_ble_eq_true rfl, Nat.le_of_ble_eq_true rfl⟩) (preV (ci := 7) hK (hP.subm (ws' := [(ax, .inr (7, [.ref ax_row, .ref ax_text, .int x_letters, .int x_at, .ref ax_read, .ref ax_undone, .int x_undos, .ref ax_order, .ref ax_dones, .int x_away, .int x_bestSet, .ref ax_aside, .ref ax_tapedWho, .ref ax_tapedTill, .int x_taped, .ref ax_kept, .int x_keeps])), (ax_row, .inl (cyI, 28, .inl x_row))]) [0, 1] rfl) (hD.sub (ws' := [(ax, .inr (7, [.ref ax_row, .ref ax_text, .int x_letters, .int x_at, .ref ax_read, .ref ax_undone, .int x_undos, .ref ax_order, .ref ax_dones, .int x_away, .int x_bestSet, .ref ax_aside, .ref ax_tapedWho, .ref ax_tapedTill, .int x_taped, .ref ax_kept, .int x_keeps])), (ax_row, .inl (cyI, 28, .inl x_row))]) [0, 1] (by decide) rfl) rfl rfl) rfl rfl hl.1 rfl (lv_room (Nat.le_of_ble_eq_true rfl)) dX7_person_2 ⟨Nat.le_of_ble_eq_true rfl, Nat.le_of_ble_eq_true rfl⟩) hP hD hS hA [0, 1] [] [0, 1] rfl rfl rfl (by decide) (by decide) (by decide) (fun H locs hP hD hS => ?_)
  refine lv_if_eq (tgt := 20) hx hb dX7_person_5 (by decide) (fun c5 => ?_) (fun c5 => ?_)
  · replace hf := ip c5 hf
    refine lv_iconst (v := -1) hx hb dX7_person_20 (by decide) ?_
    obtain rfl := Option.some.inj hf
    exact W.iret hx hb hr (fun t ht hW => ⟨⟨_, (), rfl, rfl, by rw [ht]; exact hP, hD⟩, hS.F ht⟩) hS.2.2 dX7_person_21
  · replace hf := iq c5 hf
    refine lv_iload_n hx hb dX7_person_8 rfl (lv_at hl 2 rfl) ?_
    refine lv_i2l (v := i2.toInt64) hx hb dX7_person_9 rfl ?_
    refine lv_lconst (v := 0) hx hb dX7_person_10 (by decide) ?_
    refine lv_ldc2 hx hb hown k52 dX7_person_11 ?_
    obtain ⟨r14, q14, hf⟩ := ob hf
    refine k_i (wc := []) (wr := [(ax, .inr (7, [.ref ax_row, .ref ax_text, .int x_letters, .int x_at, .ref ax_read, .ref ax_undone, .int x_undos, .ref ax_order, .ref ax_dones, .int x_away, .int x_bestSet, .ref ax_aside, .ref ax_tapedWho, .ref ax_tapedTill, .int x_taped, .ref ax_kept, .int x_keeps])), (ax_row, .inl (cyI, 28, .inl x_row))]) (w1 := []) (wn := [(ax, .inr (7, [.ref ax_row, .ref ax_text, .int x_letters, .int x_at, .ref ax_read, .ref ax_undone, .int x_undos, .ref ax_order, .ref ax_dones, .int x_away, .int x_bestSet, .ref ax_aside, .ref ax_tapedWho, .ref ax_tapedTill, .int x_taped, .ref ax_kept, .int x_keeps])), (ax_row, .inl (cyI, 28, .inl x_row))]) (va_runS (As := [.long i2.toInt64, .long (0 : Int64), .long (3 : Int64)]) (rest := []) ⟨hx, hb, hml, hown, hts⟩ (c_X7_in l D cyI cyC cyS H.size i2.toInt64 (0 : Int64) (3 : Int64) q14) (va_cwS 3 hts gX7_person_X7_in rfl rfl rfl (by decide +kernel) ⟨Nat.le_of_ble_eq_true rfl, Nat.le_of_ble_eq_true rfl⟩) (preS hK (hP.subm (ws' := []) [] rfl) (hD.sub (ws' := []) [] (by decide) rfl)) rfl rfl hl.1 rfl (lv_room (Nat.le_of_ble_eq_true rfl)) dX7_person_14 ⟨Nat.le_of_ble_eq_true rfl, Nat.le_of_ble_eq_true rfl⟩) hP hD hS hA [] [0, 1] [0, 1] rfl rfl rfl (by decide) (by decide) (by decide) (fun H locs hP hD hS => ?_)
    refine lv_if_ne (tgt := 22) hx hb dX7_person_17 (by decide) (fun c17 => ?_) (fun c17 => ?_)
    · replace hf := iq c17 hf
      refine lv_iload_n hx hb dX7_person_22 rfl (lv_at hl 2 rfl) ?_
      refine lv_iconst (v := 3) hx hb dX7_person_23 (by decide) ?_
      refine lv_icmp_ge (tgt := 42) hx hb dX7_person_24 (by decide) (fun c24 => ?_) (fun c24 => ?_)
      · replace hf := ip c24 hf
        refine lv_aload_n hx hb dX7_person_42 rfl (lv_at hl 0 rfl) ?_
        refine lv_iload_n hx hb dX7_person_43 rfl (lv_at hl 1 rfl) ?_
        obtain ⟨r44, q44, hf⟩ := ob hf
        refine k_i (wc := [(ax, .inr (7, [.ref ax_row, .ref ax_text, .int x_letters, .int x_at, .ref ax_read, .ref ax_undone, .int x_undos, .ref ax_order, .ref ax_dones, .int x_away, .int x_bestSet, .ref ax_aside, .ref ax_tapedWho, .ref ax_tapedTill, .int x_taped, .ref ax_kept, .int x_keeps])), (ax_row, .inl (cyI, 28, .inl x_row))]) (wr := []) (w1 := [(ax, .inr (7, [.ref ax_row, .ref ax_text, .int x_letters, .int x_at, .ref ax_read, .ref ax_undone, .int x_undos, .ref ax_order, .ref ax_dones, .int x_away, .int x_bestSet, .ref ax_aside, .ref ax_tapedWho, .ref ax_tapedTill, .int x_taped, .ref ax_kept, .int x_keeps])), (ax_row, .inl (cyI, 28, .inl x_row))]) (wn := [(ax, .inr (7, [.ref ax_row, .ref ax_text, .int x_letters, .int x_at, .ref ax_read, .ref ax_undone, .int x_undos, .ref ax_order, .ref ax_dones, .int x_away, .int x_bestSet, .ref ax_aside, .ref ax_tapedWho, .ref ax_tapedTill, .int x_taped, .ref ax_kept, .int x_keeps])), (ax_row, .inl (cyI, 28, .inl x_row))]) (va_runV (As := [.int i1]) (rest := []) ⟨hx, hb, hml, hown, hts⟩ (c_X7_walk l D cyI cyC cyS H.size ax ax_row ax_text ax_read ax_undone ax_order ax_dones ax_aside ax_tapedWho ax_tapedTill ax_kept x_letters x_at x_undos x_away x_bestSet x_taped x_keeps x_row i1 q44) (cwV 1 hts gX7_person_X7_walk rfl rfl rfl (by decide +kernel) ⟨Nat.le_of_ble_eq_true rfl, Nat.le_of_ble_eq_true rfl⟩) (preV (ci := 7) hK (hP.subm (ws' := [(ax, .inr (7, [.ref ax_row, .ref ax_text, .int x_letters, .int x_at, .ref ax_read, .ref ax_undone, .int x_undos, .ref ax_order, .ref ax_dones, .int x_away, .int x_bestSet, .ref ax_aside, .ref ax_tapedWho, .ref ax_tapedTill, .int x_taped, .ref ax_kept, .int x_keeps])), (ax_row, .inl (cyI, 28, .inl x_row))]) [0, 1] rfl) (hD.sub (ws' := [(ax, .inr (7, [.ref ax_row, .ref ax_text, .int x_letters, .int x_at, .ref ax_read, .ref ax_undone, .int x_undos, .ref ax_order, .ref ax_dones, .int x_away, .int x_bestSet, .ref ax_aside, .ref ax_tapedWho, .ref ax_tapedTill, .int x_taped, .ref ax_kept, .int x_keeps])), (ax_row, .inl (cyI, 28, .inl x_row))]) [0, 1] (by decide) rfl) rfl rfl) rfl rfl hl.1 rfl (lv_room (Nat.le_of_ble_eq_true rfl)) dX7_person_44 ⟨Nat.le_of_ble_eq_true rfl, Nat.le_of_ble_eq_true rfl⟩) hP hD hS hA [0, 1] [] [0, 1] rfl rfl rfl (by decide) (by decide) (by decide) (fun H locs hP hD hS => ?_)
        obtain rfl := Option.some.inj hf
        exact W.iret hx hb hr (fun t ht hW => ⟨⟨_, (), rfl, rfl, by rw [ht]; exact hP, hD⟩, hS.F ht⟩) hS.2.2 dX7_person_47
      · replace hf := iq c24 hf
        refine lv_aload_n hx hb dX7_person_27 rfl (lv_at hl 0 rfl) ?_
        refine va_get (C := RX7) (T := TX7) (N := 17) hx hb hts inX7 hown hK.1 hP 0 rfl rfl 0 (by decide) f7 (fun _ h9 => h9) rfl dX7_person_28 ?_
        refine lv_iconst (v := 4) hx hb dX7_person_31 (by decide) ?_
        refine lv_iconst (v := 3) hx hb dX7_person_32 (by decide) ?_
        refine lv_iload_n hx hb dX7_person_33 rfl (lv_at hl 1 rfl) ?_
        refine lv_imul hx hb dX7_person_34 ?_
        refine lv_iadd hx hb dX7_person_35 ?_
        refine lv_iload_n hx hb dX7_person_36 rfl (lv_at hl 2 rfl) ?_
        refine lv_iadd hx hb dX7_person_37 ?_
        obtain ⟨z38, hf⟩ := oi hf
        refine a_ild hx hb hK hP 1 rfl z38 (((4 : Int32) + ((3 : Int32) * i1)) + i2).toNatClampNeg rfl dX7_person_38 ?_
        refine lv_goto (tgt := 47) hx hb dX7_person_39 (by decide) ?_
        obtain rfl := Option.some.inj hf
        exact W.iret hx hb hr (fun t ht hW => ⟨⟨_, (), rfl, rfl, by rw [ht]; exact hP, hD⟩, hS.F ht⟩) hS.2.2 dX7_person_47
    · replace hf := ip c17 hf
      refine lv_iconst (v := -1) hx hb dX7_person_20 (by decide) ?_
      obtain rfl := Option.some.inj hf
      exact W.iret hx hb hr (fun t ht hW => ⟨⟨_, (), rfl, rfl, by rw [ht]; exact hP, hD⟩, hS.F ht⟩) hS.2.2 dX7_person_21
abbrev rX7_write : Room := { frames := 1, cells := 0, slots := 0, locals := 25 }
set_option maxHeartbeats 4000000 in
set_option maxRecDepth 100000 in
theorem c_X7_write (l : Launch) (D : va_G) (cyI cyC cyS : ClassId) (sz : Nat) (ax : Nat) (ax_row : Nat) (ax_text : Nat) (ax_read : Nat) (ax_undone : Nat) (ax_order : Nat) (ax_dones : Nat) (ax_aside : Nat) (ax_tapedWho : Nat) (ax_tapedTill : Nat) (ax_kept : Nat) (x_letters : Int32) (x_at : Int32) (x_undos : Int32) (x_away : Int32) (x_bestSet : Int32) (x_taped : Int32) (x_keeps : Int32) (x_text : Nat → Int32) (i1 : Int32) {r : Int32} {o_x_letters : Int32} {o_x_text : Nat → Int32} (hf : S_X7_write i1 x_letters x_text = some (r, o_x_letters, o_x_text)) : Met l yX7_write wsX7_write rX7_write (Cpre [.ref ax, .int i1] D cyI cyC cyS sz [(ax, .inr (7, [.ref ax_row, .ref ax_text, .int x_letters, .int x_at, .ref ax_read, .ref ax_undone, .int x_undos, .ref ax_order, .ref ax_dones, .int x_away, .int x_bestSet, .ref ax_aside, .ref ax_tapedWho, .ref ax_tapedTill, .int x_taped, .ref ax_kept, .int x_keeps])), (ax_text, .inl (cyI, 200, .inl x_text))]) (CQi r D [(ax, .inr (7, [.ref ax_row, .ref ax_text, .int o_x_letters, .int x_at, .ref ax_read, .ref ax_undone, .int x_undos, .ref ax_order, .ref ax_dones, .int x_away, .int x_bestSet, .ref ax_aside, .ref ax_tapedWho, .ref ax_tapedTill, .int x_taped, .ref ax_kept, .int x_keeps])), (ax_text, .inl (cyI, 200, .inl o_x_text))] (va_A [(ax, .inr (7, [.ref ax_row, .ref ax_text, .int x_letters, .int x_at, .ref ax_read, .ref ax_undone, .int x_undos, .ref ax_order, .ref ax_dones, .int x_away, .int x_bestSet, .ref ax_aside, .ref ax_tapedWho, .ref ax_tapedTill, .int x_taped, .ref ax_kept, .int x_keeps])), (ax_text, .inl (cyI, 200, .inl x_text))] sz)) 0 0 (va_A [(ax, .inr (7, [.ref ax_row, .ref ax_text, .int x_letters, .int x_at, .ref ax_read, .ref ax_undone, .int x_undos, .ref ax_order, .ref ax_dones, .int x_away, .int x_bestSet, .ref ax_aside, .ref ax_tapedWho, .ref ax_tapedTill, .int x_taped, .ref ax_kept, .int x_keeps])), (ax_text, .inl (cyI, 200, .inl x_text))] sz) := by
  refine Met.ofW (cc := cX7_write) (maxL := 2) (ret := (some .int)) (by decide) rfl ?_
  intro p e s m args below meth c s₁ B hml hv
  obtain ⟨rfl, hsz, hP, hK, hD0⟩ := hv
  have hx := B.exec
  have hb := B.bytes
  have hr := B.returns
  have hts := atoms_spec (ws := wsX7_write) B.pre
  have hown : s.vm.findClass RX7 = some m.cls := findClass_of_methodNamed B.named
  have hlocks := B.notSynchronized
  subst hsz
  have hD := hD0.self (sz := s.heap.size)
  generalize hAe : va_A [(ax, .inr (7, [.ref ax_row, .ref ax_text, .int x_letters, .int x_at, .ref ax_read, .ref ax_undone, .int x_undos, .ref ax_order, .ref ax_dones, .int x_away, .int x_bestSet, .ref ax_aside, .ref ax_tapedWho, .ref ax_tapedTill, .int x_taped, .ref ax_kept, .int x_keeps])), (ax_text, .inl (cyI, 200, .inl x_text))] s.heap.size = A at hD ⊢
  have hA : ∀ q : Nat, s.heap.size ≤ q → A q := fun q h => by rw [← hAe]; exact Or.inr h
  have hS : va_S A s.heap s.heap [] := va_S.rf
  have hl := lv_entry ([.ref ax, .int i1]) (n := 2) (Nat.le_of_ble_eq_true rfl)
  rw [lg_entry_eq]
  generalize (lg_sl ([.ref ax, .int i1]) ++ List.replicate (2 - (lg_sl ([.ref ax, .int i1])).length) Slot.unset).toArray = ls at hl ⊢
  have hl : lv_has ls 2 [(0, .ref ax), (1, .int i1)] := hl
  have k58 := hts (.constantLong RX7 58 (32)) (by decide +kernel)
  have k60 := hts (.constantLong RX7 60 (126)) (by decide +kernel)
  have f62 := hts (.fieldLink RX7 62 "SecondTillModel" "letters" "I") (by decide +kernel)
  have inX7 : ∀ w ∈ u_ws RX7 TX7 17, w ∈ wsX7_write := by decide +kernel
  have f13 := hts (.fieldLink RX7 13 "SecondTillModel" "text" "[I") (by decide +kernel)
  unfold S_X7_write at hf
  have hP : va_P D vwCl [(ax, .inr (7, [.ref ax_row, .ref ax_text, .int x_letters, .int x_at, .ref ax_read, .ref ax_undone, .int x_undos, .ref ax_order, .ref ax_dones, .int x_away, .int x_bestSet, .ref ax_aside, .ref ax_tapedWho, .ref ax_tapedTill, .int x_taped, .ref ax_kept, .int x_keeps])), (ax_text, .inl (cyI, 200, .inl x_text))] s.heap := hP
  suffices hgo : ∀ (H : Heap) (locs : List Loc), va_P D vwCl [(ax, .inr (7, [.ref ax_row, .ref ax_text, .int x_letters, .int x_at, .ref ax_read, .ref ax_undone, .int x_undos, .ref ax_order, .ref ax_dones, .int x_away, .int x_bestSet, .ref ax_aside, .ref ax_tapedWho, .ref ax_tapedTill, .int x_taped, .ref ax_kept, .int x_keeps])), (ax_text, .inl (cyI, 200, .inl x_text))] H → va_S A s.heap H locs → W p l e rX7_write s m (([.ref ax, .int i1] : List Value).toArray) below meth c H locs 0 0 (MQ below (CQi r D [(ax, .inr (7, [.ref ax_row, .ref ax_text, .int o_x_letters, .int x_at, .ref ax_read, .ref ax_undone, .int x_undos, .ref ax_order, .ref ax_dones, .int x_away, .int x_bestSet, .ref ax_aside, .ref ax_tapedWho, .ref ax_tapedTill, .int x_taped, .ref ax_kept, .int x_keeps])), (ax_text, .inl (cyI, 200, .inl o_x_text))] A) (([.ref ax, .int i1] : List Value).toArray) s 0 0 A) (F0 m 0 ls []) from hgo _ _ hP hS
  clear hP hS
  intro H locs hP hS
  refine lv_iload_n hx hb dX7_write_0 rfl (lv_at hl 1 rfl) ?_
  refine lv_i2l (v := i1.toInt64) hx hb dX7_write_1 rfl ?_
  refine lv_ldc2 hx hb hown k58 dX7_write_2 ?_
  refine lv_ldc2 hx hb hown k60 dX7_write_5 ?_
  obtain ⟨r8, q8, hf⟩ := ob hf
  refine k_i (wc := []) (wr := [(ax, .inr (7, [.ref ax_row, .ref ax_text, .int x_letters, .int x_at, .ref ax_read, .ref ax_undone, .int x_undos, .ref ax_order, .ref ax_dones, .int x_away, .int x_bestSet, .ref ax_aside, .ref ax_tapedWho, .ref ax_tapedTill, .int x_taped, .ref ax_kept, .int x_keeps])), (ax_text, .inl (cyI, 200, .inl x_text))]) (w1 := []) (wn := [(ax, .inr (7, [.ref ax_row, .ref ax_text, .int x_letters, .int x_at, .ref ax_read, .ref ax_undone, .int x_undos, .ref ax_order, .ref ax_dones, .int x_away, .int x_bestSet, .ref ax_aside, .ref ax_tapedWho, .ref ax_tapedTill, .int x_taped, .ref ax_kept, .int x_keeps])), (ax_text, .inl (cyI, 200, .inl x_text))]) (va_runS (As := [.long i1.toInt64, .long (32 : Int64), .long (126 : Int64)]) (rest := []) ⟨hx, hb, hml, hown, hts⟩ (c_X7_in l D cyI cyC cyS H.size i1.toInt64 (32 : Int64) (126 : Int64) q8) (va_cwS 3 hts gX7_write_X7_in rfl rfl rfl (by decide +kernel) ⟨Nat.le_of_ble_eq_true rfl, Nat.le_of_ble_eq_true rfl⟩) (preS hK (hP.subm (ws' := []) [] rfl) (hD.sub (ws' := []) [] (by decide) rfl)) rfl rfl hl.1 rfl (lv_room (Nat.le_of_ble_eq_true rfl)) dX7_write_8 ⟨Nat.le_of_ble_eq_true rfl, Nat.le_of_ble_eq_true rfl⟩) hP hD hS hA [] [0, 1] [0, 1] rfl rfl rfl (by decide) (by decide) (by decide) (fun H locs hP hD hS => ?_)
  refine lv_if_ne (tgt := 16) hx hb dX7_write_11 (by decide) (fun c11 => ?_) (fun c11 => ?_)
  · replace hf := iq c11 hf
    refine lv_aload_n hx hb dX7_write_16 rfl (lv_at hl 0 rfl) ?_
    refine va_get (C := RX7) (T := TX7) (N := 17) hx hb hts inX7 hown hK.1 hP 0 rfl rfl 2 (by decide) f62 (fun _ h9 => h9) rfl dX7_write_17 ?_
    refine lv_sipush (v := 200) hx hb dX7_write_20 (by decide) ?_
    refine lv_icmp_ne (tgt := 29) hx hb dX7_write_23 (by decide) (fun c23 => ?_) (fun c23 => ?_)
    · replace hf := iq c23 hf
      refine lv_aload_n hx hb dX7_write_29 rfl (lv_at hl 0 rfl) ?_
      refine va_get (C := RX7) (T := TX7) (N := 17) hx hb hts inX7 hown hK.1 hP 0 rfl rfl 1 (by decide) f13 (fun _ h9 => h9) rfl dX7_write_30 ?_
      refine lv_aload_n hx hb dX7_write_33 rfl (lv_at hl 0 rfl) ?_
      refine va_get (C := RX7) (T := TX7) (N := 17) hx hb hts inX7 hown hK.1 hP 0 rfl rfl 2 (by decide) f62 (fun _ h9 => h9) rfl dX7_write_34 ?_
      refine lv_iload_n hx hb dX7_write_37 rfl (lv_at hl 1 rfl) ?_
      obtain ⟨z38, hf⟩ := oi hf
      refine a_ist (wn := [(ax, .inr (7, [.ref ax_row, .ref ax_text, .int x_letters, .int x_at, .ref ax_read, .ref ax_undone, .int x_undos, .ref ax_order, .ref ax_dones, .int x_away, .int x_bestSet, .ref ax_aside, .ref ax_tapedWho, .ref ax_tapedTill, .int x_taped, .ref ax_kept, .int x_keeps])), (ax_text, .inl (cyI, 200, .inl (upd x_text x_letters.toNatClampNeg i1)))]) hx hb hK hP hD hS 1 rfl z38 x_letters.toNatClampNeg rfl rfl dX7_write_38 (fun H locs hP hD hS => ?_)
      refine lv_aload_n hx hb dX7_write_39 rfl (lv_at hl 0 rfl) ?_
      refine lv_dup hx hb dX7_write_40 rfl ?_
      refine va_get (C := RX7) (T := TX7) (N := 17) hx hb hts inX7 hown hK.1 hP 0 rfl rfl 2 (by decide) f62 (fun _ h9 => h9) rfl dX7_write_41 ?_
      refine lv_iconst (v := 1) hx hb dX7_write_44 (by decide) ?_
      refine lv_iadd hx hb dX7_write_45 ?_
      refine a_put (C := RX7) (T := TX7) (N := 17) (wn := [(ax, .inr (7, [.ref ax_row, .ref ax_text, .int (x_letters + (1 : Int32)), .int x_at, .ref ax_read, .ref ax_undone, .int x_undos, .ref ax_order, .ref ax_dones, .int x_away, .int x_bestSet, .ref ax_aside, .ref ax_tapedWho, .ref ax_tapedTill, .int x_taped, .ref ax_kept, .int x_keeps])), (ax_text, .inl (cyI, 200, .inl (upd x_text x_letters.toNatClampNeg i1)))]) hx hb hts inX7 tyX7 tyX7_ok nmX7 hown hK hP hD hS 0 rfl rfl 2 (by decide) f62 (fun _ h9 => h9) rfl rfl (Nat.le_of_ble_eq_true rfl) rfl dX7_write_46 (fun H locs hP hD hS => ?_)
      refine lv_aload_n hx hb dX7_write_49 rfl (lv_at hl 0 rfl) ?_
      refine va_get (C := RX7) (T := TX7) (N := 17) hx hb hts inX7 hown hK.1 hP 0 rfl rfl 2 (by decide) f62 (fun _ h9 => h9) rfl dX7_write_50 ?_
      simp only [Option.some.injEq, Prod.mk.injEq] at hf
      obtain ⟨rfl, rfl, rfl⟩ := hf
      exact W.iret hx hb hr (fun t ht hW => ⟨⟨_, (), rfl, rfl, by rw [ht]; exact hP, hD⟩, hS.F ht⟩) hS.2.2 dX7_write_53
    · replace hf := ip c23 hf
      refine lv_bipush (v := -3) hx hb dX7_write_26 (by decide) ?_
      simp only [Option.some.injEq, Prod.mk.injEq] at hf
      obtain ⟨rfl, rfl, rfl⟩ := hf
      exact W.iret hx hb hr (fun t ht hW => ⟨⟨_, (), rfl, rfl, by rw [ht]; exact hP, hD⟩, hS.F ht⟩) hS.2.2 dX7_write_28
  · replace hf := ip c11 hf
    refine lv_iconst (v := -1) hx hb dX7_write_14 (by decide) ?_
    simp only [Option.some.injEq, Prod.mk.injEq] at hf
    obtain ⟨rfl, rfl, rfl⟩ := hf
    exact W.iret hx hb hr (fun t ht hW => ⟨⟨_, (), rfl, rfl, by rw [ht]; exact hP, hD⟩, hS.F ht⟩) hS.2.2 dX7_write_15
abbrev rX7_wipe : Room := { frames := 0, cells := 0, slots := 0, locals := 0 }
set_option maxHeartbeats 4000000 in
set_option maxRecDepth 100000 in
theorem c_X7_wipe (l : Launch) (D : va_G) (cyI cyC cyS : ClassId) (sz : Nat) (ax : Nat) (ax_row : Nat) (ax_text : Nat) (ax_read : Nat) (ax_undone : Nat) (ax_order : Nat) (ax_dones : Nat) (ax_aside : Nat) (ax_tapedWho : Nat) (ax_tapedTill : Nat) (ax_kept : Nat) (x_letters : Int32) (x_at : Int32) (x_undos : Int32) (x_away : Int32) (x_bestSet : Int32) (x_taped : Int32) (x_keeps : Int32) {r : Int32} {o_x_letters : Int32} (hf : S_X7_wipe x_letters = some (r, o_x_letters)) : Met l yX7_wipe wsX7_wipe rX7_wipe (Cpre [.ref ax] D cyI cyC cyS sz [(ax, .inr (7, [.ref ax_row, .ref ax_text, .int x_letters, .int x_at, .ref ax_read, .ref ax_undone, .int x_undos, .ref ax_order, .ref ax_dones, .int x_away, .int x_bestSet, .ref ax_aside, .ref ax_tapedWho, .ref ax_tapedTill, .int x_taped, .ref ax_kept, .int x_keeps]))]) (CQi r D [(ax, .inr (7, [.ref ax_row, .ref ax_text, .int o_x_letters, .int x_at, .ref ax_read, .ref ax_undone, .int x_undos, .ref ax_order, .ref ax_dones, .int x_away, .int x_bestSet, .ref ax_aside, .ref ax_tapedWho, .ref ax_tapedTill, .int x_taped, .ref ax_kept, .int x_keeps]))] (va_A [(ax, .inr (7, [.ref ax_row, .ref ax_text, .int x_letters, .int x_at, .ref ax_read, .ref ax_undone, .int x_undos, .ref ax_order, .ref ax_dones, .int x_away, .int x_bestSet, .ref ax_aside, .ref ax_tapedWho, .ref ax_tapedTill, .int x_taped, .ref ax_kept, .int x_keeps]))] sz)) 0 0 (va_A [(ax, .inr (7, [.ref ax_row, .ref ax_text, .int x_letters, .int x_at, .ref ax_read, .ref ax_undone, .int x_undos, .ref ax_order, .ref ax_dones, .int x_away, .int x_bestSet, .ref ax_aside, .ref ax_tapedWho, .ref ax_tapedTill, .int x_taped, .ref ax_kept, .int x_keeps]))] sz) := by
  refine Met.ofW (cc := cX7_wipe) (maxL := 2) (ret := (some .int)) (by decide) rfl ?_
  intro p e s m args below meth c s₁ B hml hv
  obtain ⟨rfl, hsz, hP, hK, hD0⟩ := hv
  have hx := B.exec
  have hb := B.bytes
  have hr := B.returns
  have hts := atoms_spec (ws := wsX7_wipe) B.pre
  have hown : s.vm.findClass RX7 = some m.cls := findClass_of_methodNamed B.named
  have hlocks := B.notSynchronized
  subst hsz
  have hD := hD0.self (sz := s.heap.size)
  generalize hAe : va_A [(ax, .inr (7, [.ref ax_row, .ref ax_text, .int x_letters, .int x_at, .ref ax_read, .ref ax_undone, .int x_undos, .ref ax_order, .ref ax_dones, .int x_away, .int x_bestSet, .ref ax_aside, .ref ax_tapedWho, .ref ax_tapedTill, .int x_taped, .ref ax_kept, .int x_keeps]))] s.heap.size = A at hD ⊢
  have hA : ∀ q : Nat, s.heap.size ≤ q → A q := fun q h => by rw [← hAe]; exact Or.inr h
  have hS : va_S A s.heap s.heap [] := va_S.rf
  have hl := lv_entry ([.ref ax]) (n := 2) (Nat.le_of_ble_eq_true rfl)
  rw [lg_entry_eq]
  generalize (lg_sl ([.ref ax]) ++ List.replicate (2 - (lg_sl ([.ref ax])).length) Slot.unset).toArray = ls at hl ⊢
  have hl : lv_has ls 2 [(0, .ref ax)] := hl
  have f62 := hts (.fieldLink RX7 62 "SecondTillModel" "letters" "I") (by decide +kernel)
  have inX7 : ∀ w ∈ u_ws RX7 TX7 17, w ∈ wsX7_wipe := by decide +kernel
  unfold S_X7_wipe at hf
  have hP : va_P D vwCl [(ax, .inr (7, [.ref ax_row, .ref ax_text, .int x_letters, .int x_at, .ref ax_read, .ref ax_undone, .int x_undos, .ref ax_order, .ref ax_dones, .int x_away, .int x_bestSet, .ref ax_aside, .ref ax_tapedWho, .ref ax_tapedTill, .int x_taped, .ref ax_kept, .int x_keeps]))] s.heap := hP
  suffices hgo : ∀ (H : Heap) (locs : List Loc), va_P D vwCl [(ax, .inr (7, [.ref ax_row, .ref ax_text, .int x_letters, .int x_at, .ref ax_read, .ref ax_undone, .int x_undos, .ref ax_order, .ref ax_dones, .int x_away, .int x_bestSet, .ref ax_aside, .ref ax_tapedWho, .ref ax_tapedTill, .int x_taped, .ref ax_kept, .int x_keeps]))] H → va_S A s.heap H locs → W p l e rX7_wipe s m (([.ref ax] : List Value).toArray) below meth c H locs 0 0 (MQ below (CQi r D [(ax, .inr (7, [.ref ax_row, .ref ax_text, .int o_x_letters, .int x_at, .ref ax_read, .ref ax_undone, .int x_undos, .ref ax_order, .ref ax_dones, .int x_away, .int x_bestSet, .ref ax_aside, .ref ax_tapedWho, .ref ax_tapedTill, .int x_taped, .ref ax_kept, .int x_keeps]))] A) (([.ref ax] : List Value).toArray) s 0 0 A) (F0 m 0 ls []) from hgo _ _ hP hS
  clear hP hS
  intro H locs hP hS
  refine lv_aload_n hx hb dX7_wipe_0 rfl (lv_at hl 0 rfl) ?_
  refine va_get (C := RX7) (T := TX7) (N := 17) hx hb hts inX7 hown hK.1 hP 0 rfl rfl 2 (by decide) f62 (fun _ h9 => h9) rfl dX7_wipe_1 ?_
  refine lv_istore_n (lv' := [(1, .int x_letters), (0, .ref ax)]) hx hb dX7_wipe_4 rfl hl (by decide) rfl (fun ls hl => ?_)
  refine lv_aload_n hx hb dX7_wipe_5 rfl (lv_at hl 1 rfl) ?_
  refine lv_iconst (v := 0) hx hb dX7_wipe_6 (by decide) ?_
  refine a_put (C := RX7) (T := TX7) (N := 17) (wn := [(ax, .inr (7, [.ref ax_row, .ref ax_text, .int (0 : Int32), .int x_at, .ref ax_read, .ref ax_undone, .int x_undos, .ref ax_order, .ref ax_dones, .int x_away, .int x_bestSet, .ref ax_aside, .ref ax_tapedWho, .ref ax_tapedTill, .int x_taped, .ref ax_kept, .int x_keeps]))]) hx hb hts inX7 tyX7 tyX7_ok nmX7 hown hK hP hD hS 0 rfl rfl 2 (by decide) f62 (fun _ h9 => h9) rfl rfl (Nat.le_of_ble_eq_true rfl) rfl dX7_wipe_7 (fun H locs hP hD hS => ?_)
  refine lv_iload_n hx hb dX7_wipe_10 rfl (lv_at hl 0 rfl) ?_
  simp only [Option.some.injEq, Prod.mk.injEq] at hf
  obtain ⟨rfl, rfl⟩ := hf
  exact W.iret hx hb hr (fun t ht hW => ⟨⟨_, (), rfl, rfl, by rw [ht]; exact hP, hD⟩, hS.F ht⟩) hS.2.2 dX7_wipe_11
abbrev rX7_isFigure : Room := { frames := 1, cells := 0, slots := 0, locals := 25 }
set_option maxHeartbeats 4000000 in
set_option maxRecDepth 100000 in
theorem c_X7_isFigure (l : Launch) (D : va_G) (cyI cyC cyS : ClassId) (sz : Nat) (ax : Nat) (ax_row : Nat) (ax_text : Nat) (ax_read : Nat) (ax_undone : Nat) (ax_order : Nat) (ax_dones : Nat) (ax_aside : Nat) (ax_tapedWho : Nat) (ax_tapedTill : Nat) (ax_kept : Nat) (x_letters : Int32) (x_at : Int32) (x_undos : Int32) (x_away : Int32) (x_bestSet : Int32) (x_taped : Int32) (x_keeps : Int32) (x_text : Nat → Int32) {r : Int32} (hf : S_X7_isFigure x_letters x_at x_text = some r) : Met l yX7_isFigure wsX7_isFigure rX7_isFigure (Cpre [.ref ax] D cyI cyC cyS sz [(ax, .inr (7, [.ref ax_row, .ref ax_text, .int x_letters, .int x_at, .ref ax_read, .ref ax_undone, .int x_undos, .ref ax_order, .ref ax_dones, .int x_away, .int x_bestSet, .ref ax_aside, .ref ax_tapedWho, .ref ax_tapedTill, .int x_taped, .ref ax_kept, .int x_keeps])), (ax_text, .inl (cyI, 200, .inl x_text))]) (CQi r D [(ax, .inr (7, [.ref ax_row, .ref ax_text, .int x_letters, .int x_at, .ref ax_read, .ref ax_undone, .int x_undos, .ref ax_order, .ref ax_dones, .int x_away, .int x_bestSet, .ref ax_aside, .ref ax_tapedWho, .ref ax_tapedTill, .int x_taped, .ref ax_kept, .int x_keeps])), (ax_text, .inl (cyI, 200, .inl x_text))] (va_A [(ax, .inr (7, [.ref ax_row, .ref ax_text, .int x_letters, .int x_at, .ref ax_read, .ref ax_undone, .int x_undos, .ref ax_order, .ref ax_dones, .int x_away, .int x_bestSet, .ref ax_aside, .ref ax_tapedWho, .ref ax_tapedTill, .int x_taped, .ref ax_kept, .int x_keeps])), (ax_text, .inl (cyI, 200, .inl x_text))] sz)) 0 0 (va_A [(ax, .inr (7, [.ref ax_row, .ref ax_text, .int x_letters, .int x_at, .ref ax_read, .ref ax_undone, .int x_undos, .ref ax_order, .ref ax_dones, .int x_away, .int x_bestSet, .ref ax_aside, .ref ax_tapedWho, .ref ax_tapedTill, .int x_taped, .ref ax_kept, .int x_keeps])), (ax_text, .inl (cyI, 200, .inl x_text))] sz) := by
  refine Met.ofW (cc := cX7_isFigure) (maxL := 1) (ret := (some .boolean)) (by decide) rfl ?_
  intro p e s m args below meth c s₁ B hml hv
  obtain ⟨rfl, hsz, hP, hK, hD0⟩ := hv
  have hx := B.exec
  have hb := B.bytes
  have hr := B.returns
  have hts := atoms_spec (ws := wsX7_isFigure) B.pre
  have hown : s.vm.findClass RX7 = some m.cls := findClass_of_methodNamed B.named
  have hlocks := B.notSynchronized
  subst hsz
  have hD := hD0.self (sz := s.heap.size)
  generalize hAe : va_A [(ax, .inr (7, [.ref ax_row, .ref ax_text, .int x_letters, .int x_at, .ref ax_read, .ref ax_undone, .int x_undos, .ref ax_order, .ref ax_dones, .int x_away, .int x_bestSet, .ref ax_aside, .ref ax_tapedWho, .ref ax_tapedTill, .int x_taped, .ref ax_kept, .int x_keeps])), (ax_text, .inl (cyI, 200, .inl x_text))] s.heap.size = A at hD ⊢
  have hA : ∀ q : Nat, s.heap.size ≤ q → A q := fun q h => by rw [← hAe]; exact Or.inr h
  have hS : va_S A s.heap s.heap [] := va_S.rf
  have hl := lv_entry ([.ref ax]) (n := 1) (Nat.le_of_ble_eq_true rfl)
  rw [lg_entry_eq]
  generalize (lg_sl ([.ref ax]) ++ List.replicate (1 - (lg_sl ([.ref ax])).length) Slot.unset).toArray = ls at hl ⊢
  have hl : lv_has ls 1 [(0, .ref ax)] := hl
  have f66 := hts (.fieldLink RX7 66 "SecondTillModel" "at" "I") (by decide +kernel)
  have inX7 : ∀ w ∈ u_ws RX7 TX7 17, w ∈ wsX7_isFigure := by decide +kernel
  have f62 := hts (.fieldLink RX7 62 "SecondTillModel" "letters" "I") (by decide +kernel)
  have f13 := hts (.fieldLink RX7 13 "SecondTillModel" "text" "[I") (by decide +kernel)
  have k69 := hts (.constantLong RX7 69 (48)) (by decide +kernel)
  have k71 := hts (.constantLong RX7 71 (57)) (by decide +kernel)
  unfold S_X7_isFigure at hf
  have hP : va_P D vwCl [(ax, .inr (7, [.ref ax_row, .ref ax_text, .int x_letters, .int x_at, .ref ax_read, .ref ax_undone, .int x_undos, .ref ax_order, .ref ax_dones, .int x_away, .int x_bestSet, .ref ax_aside, .ref ax_tapedWho, .ref ax_tapedTill, .int x_taped, .ref ax_kept, .int x_keeps])), (ax_text, .inl (cyI, 200, .inl x_text))] s.heap := hP
  suffices hgo : ∀ (H : Heap) (locs : List Loc), va_P D vwCl [(ax, .inr (7, [.ref ax_row, .ref ax_text, .int x_letters, .int x_at, .ref ax_read, .ref ax_undone, .int x_undos, .ref ax_order, .ref ax_dones, .int x_away, .int x_bestSet, .ref ax_aside, .ref ax_tapedWho, .ref ax_tapedTill, .int x_taped, .ref ax_kept, .int x_keeps])), (ax_text, .inl (cyI, 200, .inl x_text))] H → va_S A s.heap H locs → W p l e rX7_isFigure s m (([.ref ax] : List Value).toArray) below meth c H locs 0 0 (MQ below (CQi r D [(ax, .inr (7, [.ref ax_row, .ref ax_text, .int x_letters, .int x_at, .ref ax_read, .ref ax_undone, .int x_undos, .ref ax_order, .ref ax_dones, .int x_away, .int x_bestSet, .ref ax_aside, .ref ax_tapedWho, .ref ax_tapedTill, .int x_taped, .ref ax_kept, .int x_keeps])), (ax_text, .inl (cyI, 200, .inl x_text))] A) (([.ref ax] : List Value).toArray) s 0 0 A) (F0 m 0 ls []) from hgo _ _ hP hS
  clear hP hS
  intro H locs hP hS
  refine lv_aload_n hx hb dX7_isFigure_0 rfl (lv_at hl 0 rfl) ?_
  refine va_get (C := RX7) (T := TX7) (N := 17) hx hb hts inX7 hown hK.1 hP 0 rfl rfl 3 (by decide) f66 (fun _ h9 => h9) rfl dX7_isFigure_1 ?_
  refine lv_aload_n hx hb dX7_isFigure_4 rfl (lv_at hl 0 rfl) ?_
  refine va_get (C := RX7) (T := TX7) (N := 17) hx hb hts inX7 hown hK.1 hP 0 rfl rfl 2 (by decide) f62 (fun _ h9 => h9) rfl dX7_isFigure_5 ?_
  refine lv_icmp_ge (tgt := 37) hx hb dX7_isFigure_8 (by decide) (fun c8 => ?_) (fun c8 => ?_)
  · replace hf := ip c8 hf
    refine lv_iconst (v := 0) hx hb dX7_isFigure_37 (by decide) ?_
    obtain rfl := Option.some.inj hf
    exact W.zret hx hb hr rfl (fun t ht hW => ⟨⟨_, (), rfl, rfl, by rw [ht]; exact hP, hD⟩, hS.F ht⟩) hS.2.2 dX7_isFigure_38
  · replace hf := iq c8 hf
    refine lv_aload_n hx hb dX7_isFigure_11 rfl (lv_at hl 0 rfl) ?_
    refine va_get (C := RX7) (T := TX7) (N := 17) hx hb hts inX7 hown hK.1 hP 0 rfl rfl 1 (by decide) f13 (fun _ h9 => h9) rfl dX7_isFigure_12 ?_
    refine lv_aload_n hx hb dX7_isFigure_15 rfl (lv_at hl 0 rfl) ?_
    refine va_get (C := RX7) (T := TX7) (N := 17) hx hb hts inX7 hown hK.1 hP 0 rfl rfl 3 (by decide) f66 (fun _ h9 => h9) rfl dX7_isFigure_16 ?_
    obtain ⟨z19, hf⟩ := oi hf
    refine a_ild hx hb hK hP 1 rfl z19 x_at.toNatClampNeg rfl dX7_isFigure_19 ?_
    refine lv_i2l (v := (x_text x_at.toNatClampNeg).toInt64) hx hb dX7_isFigure_20 rfl ?_
    refine lv_ldc2 hx hb hown k69 dX7_isFigure_21 ?_
    refine lv_ldc2 hx hb hown k71 dX7_isFigure_24 ?_
    obtain ⟨r27, q27, hf⟩ := ob hf
    refine k_i (wc := []) (wr := [(ax, .inr (7, [.ref ax_row, .ref ax_text, .int x_letters, .int x_at, .ref ax_read, .ref ax_undone, .int x_undos, .ref ax_order, .ref ax_dones, .int x_away, .int x_bestSet, .ref ax_aside, .ref ax_tapedWho, .ref ax_tapedTill, .int x_taped, .ref ax_kept, .int x_keeps])), (ax_text, .inl (cyI, 200, .inl x_text))]) (w1 := []) (wn := [(ax, .inr (7, [.ref ax_row, .ref ax_text, .int x_letters, .int x_at, .ref ax_read, .ref ax_undone, .int x_undos, .ref ax_order, .ref ax_dones, .int x_away, .int x_bestSet, .ref ax_aside, .ref ax_tapedWho, .ref ax_tapedTill, .int x_taped, .ref ax_kept, .int x_keeps])), (ax_text, .inl (cyI, 200, .inl x_text))]) (va_runS (As := [.long ((x_text x_at.toNatClampNeg).toInt64), .long (48 : Int64), .long (57 : Int64)]) (rest := []) ⟨hx, hb, hml, hown, hts⟩ (c_X7_in l D cyI cyC cyS H.size ((x_text x_at.toNatClampNeg).toInt64) (48 : Int64) (57 : Int64) q27) (va_cwS 3 hts gX7_isFigure_X7_in rfl rfl rfl (by decide +kernel) ⟨Nat.le_of_ble_eq_true rfl, Nat.le_of_ble_eq_true rfl⟩) (preS hK (hP.subm (ws' := []) [] rfl) (hD.sub (ws' := []) [] (by decide) rfl)) rfl rfl hl.1 rfl (lv_room (Nat.le_of_ble_eq_true rfl)) dX7_isFigure_27 ⟨Nat.le_of_ble_eq_true rfl, Nat.le_of_ble_eq_true rfl⟩) hP hD hS hA [] [0, 1] [0, 1] rfl rfl rfl (by decide) (by decide) (by decide) (fun H locs hP hD hS => ?_)
    refine lv_if_eq (tgt := 37) hx hb dX7_isFigure_30 (by decide) (fun c30 => ?_) (fun c30 => ?_)
    · replace hf := ip c30 hf
      refine lv_iconst (v := 0) hx hb dX7_isFigure_37 (by decide) ?_
      obtain rfl := Option.some.inj hf
      exact W.zret hx hb hr rfl (fun t ht hW => ⟨⟨_, (), rfl, rfl, by rw [ht]; exact hP, hD⟩, hS.F ht⟩) hS.2.2 dX7_isFigure_38
    · replace hf := iq c30 hf
      refine lv_iconst (v := 1) hx hb dX7_isFigure_33 (by decide) ?_
      refine lv_goto (tgt := 38) hx hb dX7_isFigure_34 (by decide) ?_
      obtain rfl := Option.some.inj hf
      exact W.zret hx hb hr rfl (fun t ht hW => ⟨⟨_, (), rfl, rfl, by rw [ht]; exact hP, hD⟩, hS.F ht⟩) hS.2.2 dX7_isFigure_38
abbrev rX7_number : Room := { frames := 2, cells := 0, slots := 0, locals := 45 }
set_option maxHeartbeats 4000000 in
set_option maxRecDepth 100000 in
theorem c_X7_number (l : Launch) (D : va_G) (cyI cyC cyS : ClassId) (sz : Nat) (ax : Nat) (ax_row : Nat) (ax_text : Nat) (ax_read : Nat) (ax_undone : Nat) (ax_order : Nat) (ax_dones : Nat) (ax_aside : Nat) (ax_tapedWho : Nat) (ax_tapedTill : Nat) (ax_kept : Nat) (x_letters : Int32) (x_at : Int32) (x_undos : Int32) (x_away : Int32) (x_bestSet : Int32) (x_taped : Int32) (x_keeps : Int32) (x_text : Nat → Int32) (x_read : Nat → Int32) (i1 : Int32) (i2 : Int32) (i3 : Int32) (i4 : Int32) {r : Int32} {o_x_at : Int32} {o_x_read : Nat → Int32} (hf : S_X7_number i1 i2 i3 i4 x_letters x_at x_text x_read = some (r, o_x_at, o_x_read)) : Met l yX7_number wsX7_number rX7_number (Cpre [.ref ax, .int i1, .int i2, .int i3, .int i4] D cyI cyC cyS sz [(ax, .inr (7, [.ref ax_row, .ref ax_text, .int x_letters, .int x_at, .ref ax_read, .ref ax_undone, .int x_undos, .ref ax_order, .ref ax_dones, .int x_away, .int x_bestSet, .ref ax_aside, .ref ax_tapedWho, .ref ax_tapedTill, .int x_taped, .ref ax_kept, .int x_keeps])), (ax_text, .inl (cyI, 200, .inl x_text)), (ax_read, .inl (cyI, 28, .inl x_read))]) (CQi r D [(ax, .inr (7, [.ref ax_row, .ref ax_text, .int x_letters, .int o_x_at, .ref ax_read, .ref ax_undone, .int x_undos, .ref ax_order, .ref ax_dones, .int x_away, .int x_bestSet, .ref ax_aside, .ref ax_tapedWho, .ref ax_tapedTill, .int x_taped, .ref ax_kept, .int x_keeps])), (ax_text, .inl (cyI, 200, .inl x_text)), (ax_read, .inl (cyI, 28, .inl o_x_read))] (va_A [(ax, .inr (7, [.ref ax_row, .ref ax_text, .int x_letters, .int x_at, .ref ax_read, .ref ax_undone, .int x_undos, .ref ax_order, .ref ax_dones, .int x_away, .int x_bestSet, .ref ax_aside, .ref ax_tapedWho, .ref ax_tapedTill, .int x_taped, .ref ax_kept, .int x_keeps])), (ax_text, .inl (cyI, 200, .inl x_text)), (ax_read, .inl (cyI, 28, .inl x_read))] sz)) 0 0 (va_A [(ax, .inr (7, [.ref ax_row, .ref ax_text, .int x_letters, .int x_at, .ref ax_read, .ref ax_undone, .int x_undos, .ref ax_order, .ref ax_dones, .int x_away, .int x_bestSet, .ref ax_aside, .ref ax_tapedWho, .ref ax_tapedTill, .int x_taped, .ref ax_kept, .int x_keeps])), (ax_text, .inl (cyI, 200, .inl x_text)), (ax_read, .inl (cyI, 28, .inl x_read))] sz) := by
  refine Met.ofW (cc := cX7_number) (maxL := 7) (ret := (some .boolean)) (by decide) rfl ?_
  intro p e s m args below meth c s₁ B hml hv
  obtain ⟨rfl, hsz, hP, hK, hD0⟩ := hv
  have hx := B.exec
  have hb := B.bytes
  have hr := B.returns
  have hts := atoms_spec (ws := wsX7_number) B.pre
  have hown : s.vm.findClass RX7 = some m.cls := findClass_of_methodNamed B.named
  have hlocks := B.notSynchronized
  subst hsz
  have hD := hD0.self (sz := s.heap.size)
  generalize hAe : va_A [(ax, .inr (7, [.ref ax_row, .ref ax_text, .int x_letters, .int x_at, .ref ax_read, .ref ax_undone, .int x_undos, .ref ax_order, .ref ax_dones, .int x_away, .int x_bestSet, .ref ax_aside, .ref ax_tapedWho, .ref ax_tapedTill, .int x_taped, .ref ax_kept, .int x_keeps])), (ax_text, .inl (cyI, 200, .inl x_text)), (ax_read, .inl (cyI, 28, .inl x_read))] s.heap.size = A at hD ⊢
  have hA : ∀ q : Nat, s.heap.size ≤ q → A q := fun q h => by rw [← hAe]; exact Or.inr h
  have hS : va_S A s.heap s.heap [] := va_S.rf
  have hl := lv_entry ([.ref ax, .int i1, .int i2, .int i3, .int i4]) (n := 7) (Nat.le_of_ble_eq_true rfl)
  rw [lg_entry_eq]
  generalize (lg_sl ([.ref ax, .int i1, .int i2, .int i3, .int i4]) ++ List.replicate (7 - (lg_sl ([.ref ax, .int i1, .int i2, .int i3, .int i4])).length) Slot.unset).toArray = ls at hl ⊢
  have hl : lv_has ls 7 [(0, .ref ax), (1, .int i1), (2, .int i2), (3, .int i3), (4, .int i4)] := hl
  have f13 := hts (.fieldLink RX7 13 "SecondTillModel" "text" "[I") (by decide +kernel)
  have inX7 : ∀ w ∈ u_ws RX7 TX7 17, w ∈ wsX7_number := by decide +kernel
  have f66 := hts (.fieldLink RX7 66 "SecondTillModel" "at" "I") (by decide +kernel)
  have f16 := hts (.fieldLink RX7 16 "SecondTillModel" "read" "[I") (by decide +kernel)
  have f62 := hts (.fieldLink RX7 62 "SecondTillModel" "letters" "I") (by decide +kernel)
  unfold S_X7_number at hf
  have hP : va_P D vwCl [(ax, .inr (7, [.ref ax_row, .ref ax_text, .int x_letters, .int x_at, .ref ax_read, .ref ax_undone, .int x_undos, .ref ax_order, .ref ax_dones, .int x_away, .int x_bestSet, .ref ax_aside, .ref ax_tapedWho, .ref ax_tapedTill, .int x_taped, .ref ax_kept, .int x_keeps])), (ax_text, .inl (cyI, 200, .inl x_text)), (ax_read, .inl (cyI, 28, .inl x_read))] s.heap := hP
  suffices hgo : ∀ (H : Heap) (locs : List Loc), va_P D vwCl [(ax, .inr (7, [.ref ax_row, .ref ax_text, .int x_letters, .int x_at, .ref ax_read, .ref ax_undone, .int x_undos, .ref ax_order, .ref ax_dones, .int x_away, .int x_bestSet, .ref ax_aside, .ref ax_tapedWho, .ref ax_tapedTill, .int x_taped, .ref ax_kept, .int x_keeps])), (ax_text, .inl (cyI, 200, .inl x_text)), (ax_read, .inl (cyI, 28, .inl x_read))] H → va_S A s.heap H locs → W p l e rX7_number s m (([.ref ax, .int i1, .int i2, .int i3, .int i4] : List Value).toArray) below meth c H locs 0 0 (MQ below (CQi r D [(ax, .inr (7, [.ref ax_row, .ref ax_text, .int x_letters, .int o_x_at, .ref ax_read, .ref ax_undone, .int x_undos, .ref ax_order, .ref ax_dones, .int x_away, .int x_bestSet, .ref ax_aside, .ref ax_tapedWho, .ref ax_tapedTill, .int x_taped, .ref ax_kept, .int x_keeps])), (ax_text, .inl (cyI, 200, .inl x_text)), (ax_read, .inl (cyI, 28, .inl o_x_read))] A) (([.ref ax, .int i1, .int i2, .int i3, .int i4] : List Value).toArray) s 0 0 A) (F0 m 0 ls []) from hgo _ _ hP hS
  clear hP hS
  intro H locs hP hS
  refine lv_aload_n hx hb dX7_number_0 rfl (lv_at hl 0 rfl) ?_
  obtain ⟨r1, q1, hf⟩ := ob hf
  refine k_i (wc := [(ax, .inr (7, [.ref ax_row, .ref ax_text, .int x_letters, .int x_at, .ref ax_read, .ref ax_undone, .int x_undos, .ref ax_order, .ref ax_dones, .int x_away, .int x_bestSet, .ref ax_aside, .ref ax_tapedWho, .ref ax_tapedTill, .int x_taped, .ref ax_kept, .int x_keeps])), (ax_text, .inl (cyI, 200, .inl x_text))]) (wr := [(ax_read, .inl (cyI, 28, .inl x_read))]) (w1 := [(ax, .inr (7, [.ref ax_row, .ref ax_text, .int x_letters, .int x_at, .ref ax_read, .ref ax_undone, .int x_undos, .ref ax_order, .ref ax_dones, .int x_away, .int x_bestSet, .ref ax_aside, .ref ax_tapedWho, .ref ax_tapedTill, .int x_taped, .ref ax_kept, .int x_keeps])), (ax_text, .inl (cyI, 200, .inl x_text))]) (wn := [(ax, .inr (7, [.ref ax_row, .ref ax_text, .int x_letters, .int x_at, .ref ax_read, .ref ax_undone, .int x_undos, .ref ax_order, .ref ax_dones, .int x_away, .int x_bestSet, .ref ax_aside, .ref ax_tapedWho, .ref ax_tapedTill, .int x_taped, .ref ax_kept, .int x_keeps])), (ax_text, .inl (cyI, 200, .inl x_text)), (ax_read, .inl (cyI, 28, .inl x_read))]) (va_runV (As := []) (rest := []) ⟨hx, hb, hml, hown, hts⟩ (c_X7_isFigure l D cyI cyC cyS H.size ax ax_row ax_text ax_read ax_undone ax_order ax_dones ax_aside ax_tapedWho ax_tapedTill ax_kept x_letters x_at x_undos x_away x_bestSet x_taped x_keeps x_text q1) (cwV 0 hts gX7_number_X7_isFigure rfl rfl rfl (by decide +kernel) ⟨Nat.le_of_ble_eq_true rfl, Nat.le_of_ble_eq_true rfl⟩) (preV (ci := 7) hK (hP.subm (ws' := [(ax, .inr (7, [.ref ax_row, .ref ax_text, .int x_letters, .int x_at, .ref ax_read, .ref ax_undone, .int x_undos, .ref ax_order, .ref ax_dones, .int x_away, .int x_bestSet, .ref ax_aside, .ref ax_tapedWho, .ref ax_tapedTill, .int x_taped, .ref ax_kept, .int x_keeps])), (ax_text, .inl (cyI, 200, .inl x_text))]) [0, 1] rfl) (hD.sub (ws' := [(ax, .inr (7, [.ref ax_row, .ref ax_text, .int x_letters, .int x_at, .ref ax_read, .ref ax_undone, .int x_undos, .ref ax_order, .ref ax_dones, .int x_away, .int x_bestSet, .ref ax_aside, .ref ax_tapedWho, .ref ax_tapedTill, .int x_taped, .ref ax_kept, .int x_keeps])), (ax_text, .inl (cyI, 200, .inl x_text))]) [0, 1] (by decide) rfl) rfl rfl) rfl rfl hl.1 rfl (lv_room (Nat.le_of_ble_eq_true rfl)) dX7_number_1 ⟨Nat.le_of_ble_eq_true rfl, Nat.le_of_ble_eq_true rfl⟩) hP hD hS hA [0, 1] [2] [1, 2, 0] rfl rfl rfl (by decide) (by decide) (by decide) (fun H locs hP hD hS => ?_)
  refine lv_if_ne (tgt := 9) hx hb dX7_number_4 (by decide) (fun c4 => ?_) (fun c4 => ?_)
  · replace hf := iq c4 hf
    refine lv_aload_n hx hb dX7_number_9 rfl (lv_at hl 0 rfl) ?_
    refine va_get (C := RX7) (T := TX7) (N := 17) hx hb hts inX7 hown hK.1 hP 0 rfl rfl 1 (by decide) f13 (fun _ h9 => h9) rfl dX7_number_10 ?_
    refine lv_aload_n hx hb dX7_number_13 rfl (lv_at hl 0 rfl) ?_
    refine va_get (C := RX7) (T := TX7) (N := 17) hx hb hts inX7 hown hK.1 hP 0 rfl rfl 3 (by decide) f66 (fun _ h9 => h9) rfl dX7_number_14 ?_
    obtain ⟨z17, hf⟩ := oi hf
    refine a_ild hx hb hK hP 1 rfl z17 x_at.toNatClampNeg rfl dX7_number_17 ?_
    refine lv_bipush (v := 48) hx hb dX7_number_18 (by decide) ?_
    refine lv_isub hx hb dX7_number_20 ?_
    refine lv_topi (fun v21 ev21 => ?_)
    replace hf := nm_h hf v21 ev21
    refine lv_istore (lv' := [(5, .int v21), (0, .ref ax), (1, .int i1), (2, .int i2), (3, .int i3), (4, .int i4)]) hx hb dX7_number_21 hl (by decide) rfl (fun ls hl => ?_)
    refine lv_aload_n hx hb dX7_number_23 rfl (lv_at hl 1 rfl) ?_
    refine lv_dup hx hb dX7_number_24 rfl ?_
    refine va_get (C := RX7) (T := TX7) (N := 17) hx hb hts inX7 hown hK.1 hP 0 rfl rfl 3 (by decide) f66 (fun _ h9 => h9) rfl dX7_number_25 ?_
    refine lv_iconst (v := 1) hx hb dX7_number_28 (by decide) ?_
    refine lv_iadd hx hb dX7_number_29 ?_
    refine a_put (C := RX7) (T := TX7) (N := 17) (wn := [(ax, .inr (7, [.ref ax_row, .ref ax_text, .int x_letters, .int (x_at + (1 : Int32)), .ref ax_read, .ref ax_undone, .int x_undos, .ref ax_order, .ref ax_dones, .int x_away, .int x_bestSet, .ref ax_aside, .ref ax_tapedWho, .ref ax_tapedTill, .int x_taped, .ref ax_kept, .int x_keeps])), (ax_text, .inl (cyI, 200, .inl x_text)), (ax_read, .inl (cyI, 28, .inl x_read))]) hx hb hts inX7 tyX7 tyX7_ok nmX7 hown hK hP hD hS 0 rfl rfl 3 (by decide) f66 (fun _ h9 => h9) rfl rfl (Nat.le_of_ble_eq_true rfl) rfl dX7_number_30 (fun H locs hP hD hS => ?_)
    refine lv_aload_n hx hb dX7_number_33 rfl (lv_at hl 1 rfl) ?_
    obtain ⟨r34, q34, hf⟩ := ob hf
    refine k_i (wc := [(ax, .inr (7, [.ref ax_row, .ref ax_text, .int x_letters, .int (x_at + (1 : Int32)), .ref ax_read, .ref ax_undone, .int x_undos, .ref ax_order, .ref ax_dones, .int x_away, .int x_bestSet, .ref ax_aside, .ref ax_tapedWho, .ref ax_tapedTill, .int x_taped, .ref ax_kept, .int x_keeps])), (ax_text, .inl (cyI, 200, .inl x_text))]) (wr := [(ax_read, .inl (cyI, 28, .inl x_read))]) (w1 := [(ax, .inr (7, [.ref ax_row, .ref ax_text, .int x_letters, .int (x_at + (1 : Int32)), .ref ax_read, .ref ax_undone, .int x_undos, .ref ax_order, .ref ax_dones, .int x_away, .int x_bestSet, .ref ax_aside, .ref ax_tapedWho, .ref ax_tapedTill, .int x_taped, .ref ax_kept, .int x_keeps])), (ax_text, .inl (cyI, 200, .inl x_text))]) (wn := [(ax, .inr (7, [.ref ax_row, .ref ax_text, .int x_letters, .int (x_at + (1 : Int32)), .ref ax_read, .ref ax_undone, .int x_undos, .ref ax_order, .ref ax_dones, .int x_away, .int x_bestSet, .ref ax_aside, .ref ax_tapedWho, .ref ax_tapedTill, .int x_taped, .ref ax_kept, .int x_keeps])), (ax_text, .inl (cyI, 200, .inl x_text)), (ax_read, .inl (cyI, 28, .inl x_read))]) (va_runV (As := []) (rest := []) ⟨hx, hb, hml, hown, hts⟩ (c_X7_isFigure l D cyI cyC cyS H.size ax ax_row ax_text ax_read ax_undone ax_order ax_dones ax_aside ax_tapedWho ax_tapedTill ax_kept x_letters (x_at + (1 : Int32)) x_undos x_away x_bestSet x_taped x_keeps x_text q34) (cwV 0 hts gX7_number_X7_isFigure rfl rfl rfl (by decide +kernel) ⟨Nat.le_of_ble_eq_true rfl, Nat.le_of_ble_eq_true rfl⟩) (preV (ci := 7) hK (hP.subm (ws' := [(ax, .inr (7, [.ref ax_row, .ref ax_text, .int x_letters, .int (x_at + (1 : Int32)), .ref ax_read, .ref ax_undone, .int x_undos, .ref ax_order, .ref ax_dones, .int x_away, .int x_bestSet, .ref ax_aside, .ref ax_tapedWho, .ref ax_tapedTill, .int x_taped, .ref ax_kept, .int x_keeps])), (ax_text, .inl (cyI, 200, .inl x_text))]) [0, 1] rfl) (hD.sub (ws' := [(ax, .inr (7, [.ref ax_row, .ref ax_text, .int x_letters, .int (x_at + (1 : Int32)), .ref ax_read, .ref ax_undone, .int x_undos, .ref ax_order, .ref ax_dones, .int x_away, .int x_bestSet, .ref ax_aside, .ref ax_tapedWho, .ref ax_tapedTill, .int x_taped, .ref ax_kept, .int x_keeps])), (ax_text, .inl (cyI, 200, .inl x_text))]) [0, 1] (by decide) rfl) rfl rfl) rfl rfl hl.1 rfl (lv_room (Nat.le_of_ble_eq_true rfl)) dX7_number_34 ⟨Nat.le_of_ble_eq_true rfl, Nat.le_of_ble_eq_true rfl⟩) hP hD hS hA [0, 1] [2] [1, 2, 0] rfl rfl rfl (by decide) (by decide) (by decide) (fun H locs hP hD hS => ?_)
    have hJ70 : ∀ (i5_70 : Int32) (x_at_70 : Int32) (H : Heap) (locs : List Loc) (ls : Array Slot), va_P D vwCl [(ax, .inr (7, [.ref ax_row, .ref ax_text, .int x_letters, .int x_at_70, .ref ax_read, .ref ax_undone, .int x_undos, .ref ax_order, .ref ax_dones, .int x_away, .int x_bestSet, .ref ax_aside, .ref ax_tapedWho, .ref ax_tapedTill, .int x_taped, .ref ax_kept, .int x_keeps])), (ax_text, .inl (cyI, 200, .inl x_text)), (ax_read, .inl (cyI, 28, .inl x_read))] H → va_D A [(ax, .inr (7, [.ref ax_row, .ref ax_text, .int x_letters, .int x_at_70, .ref ax_read, .ref ax_undone, .int x_undos, .ref ax_order, .ref ax_dones, .int x_away, .int x_bestSet, .ref ax_aside, .ref ax_tapedWho, .ref ax_tapedTill, .int x_taped, .ref ax_kept, .int x_keeps])), (ax_text, .inl (cyI, 200, .inl x_text)), (ax_read, .inl (cyI, 28, .inl x_read))] → va_S A s.heap H locs → lv_has ls 7 [(0, .ref ax), (1, .int i1), (2, .int i2), (3, .int i3), (4, .int i4), (5, .int i5_70)] → (Option.bind (S_X7_in i5_70.toInt64 i2.toInt64 i3.toInt64) (fun r77 =>
(jn (fun (s0_113 : Int32) => (if i1 < 0 ∨ 28 ≤ i1.toNatClampNeg then none else
(if vp_nar .boolean s0_113 = s0_113 then some (s0_113, x_at_70 + (1 : Int32), upd x_read i1.toNatClampNeg i5_70) else none))) (fun J113 =>
(jn ((J113 (0 : Int32))) (fun J112 =>
(if r77 = 0 then
J112 else
(if x_letters ≤ x_at_70 then
J112 else
(if x_at_70 < 0 ∨ 200 ≤ x_at_70.toNatClampNeg then none else
(if (x_text x_at_70.toNatClampNeg) = i4 then
(J113 (1 : Int32)) else
J112)))))))))) = some (r, o_x_at, o_x_read) → W p l e rX7_number s m (([.ref ax, .int i1, .int i2, .int i3, .int i4] : List Value).toArray) below meth c H locs 0 0 (MQ below (CQi r D [(ax, .inr (7, [.ref ax_row, .ref ax_text, .int x_letters, .int o_x_at, .ref ax_read, .ref ax_undone, .int x_undos, .ref ax_order, .ref ax_dones, .int x_away, .int x_bestSet, .ref ax_aside, .ref ax_tapedWho, .ref ax_tapedTill, .int x_taped, .ref ax_kept, .int x_keeps])), (ax_text, .inl (cyI, 200, .inl x_text)), (ax_read, .inl (cyI, 28, .inl o_x_read))] A) (([.ref ax, .int i1, .int i2, .int i3, .int i4] : List Value).toArray) s 0 0 A) (F0 m 70 ls []) := by
      intro i5_70 x_at_70 H locs ls hP hD hS hl hf
      refine lv_iload hx hb dX7_number_70 (lv_at hl 5 rfl) ?_
      refine lv_i2l (v := i5_70.toInt64) hx hb dX7_number_72 rfl ?_
      refine lv_iload_n hx hb dX7_number_73 rfl (lv_at hl 2 rfl) ?_
      refine lv_i2l (v := i2.toInt64) hx hb dX7_number_74 rfl ?_
      refine lv_iload_n hx hb dX7_number_75 rfl (lv_at hl 3 rfl) ?_
      refine lv_i2l (v := i3.toInt64) hx hb dX7_number_76 rfl ?_
      obtain ⟨r77, q77, hf⟩ := ob hf
      refine k_i (wc := []) (wr := [(ax, .inr (7, [.ref ax_row, .ref ax_text, .int x_letters, .int x_at_70, .ref ax_read, .ref ax_undone, .int x_undos, .ref ax_order, .ref ax_dones, .int x_away, .int x_bestSet, .ref ax_aside, .ref ax_tapedWho, .ref ax_tapedTill, .int x_taped, .ref ax_kept, .int x_keeps])), (ax_text, .inl (cyI, 200, .inl x_text)), (ax_read, .inl (cyI, 28, .inl x_read))]) (w1 := []) (wn := [(ax, .inr (7, [.ref ax_row, .ref ax_text, .int x_letters, .int x_at_70, .ref ax_read, .ref ax_undone, .int x_undos, .ref ax_order, .ref ax_dones, .int x_away, .int x_bestSet, .ref ax_aside, .ref ax_tapedWho, .ref ax_tapedTill, .int x_taped, .ref ax_kept, .int x_keeps])), (ax_text, .inl (cyI, 200, .inl x_text)), (ax_read, .inl (cyI, 28, .inl x_read))]) (va_runS (As := [.long i5_70.toInt64, .long i2.toInt64, .long i3.toInt64]) (rest := []) ⟨hx, hb, hml, hown, hts⟩ (c_X7_in l D cyI cyC cyS H.size i5_70.toInt64 i2.toInt64 i3.toInt64 q77) (va_cwS 3 hts gX7_number_X7_in rfl rfl rfl (by decide +kernel) ⟨Nat.le_of_ble_eq_true rfl, Nat.le_of_ble_eq_true rfl⟩) (preS hK (hP.subm (ws' := []) [] rfl) (hD.sub (ws' := []) [] (by decide) rfl)) rfl rfl hl.1 rfl (lv_room (Nat.le_of_ble_eq_true rfl)) dX7_number_77 ⟨Nat.le_of_ble_eq_true rfl, Nat.le_of_ble_eq_true rfl⟩) hP hD hS hA [] [0, 1, 2] [0, 1, 2] rfl rfl rfl (by decide) (by decide) (by decide) (fun H locs hP hD hS => ?_)
      have hJ113 : ∀ (s0_113 : Int32) (H : Heap) (locs : List Loc) (ls : Array Slot), va_P D vwCl [(ax, .inr (7, [.ref ax_row, .ref ax_text, .int x_letters, .int x_at_70, .ref ax_read, .ref ax_undone, .int x_undos, .ref ax_order, .ref ax_dones, .int x_away, .int x_bestSet, .ref ax_aside, .ref ax_tapedWho, .ref ax_tapedTill, .int x_taped, .ref ax_kept, .int x_keeps])), (ax_text, .inl (cyI, 200, .inl x_text)), (ax_read, .inl (cyI, 28, .inl x_read))] H → va_D A [(ax, .inr (7, [.ref ax_row, .ref ax_text, .int x_letters, .int x_at_70, .ref ax_read, .ref ax_undone, .int x_undos, .ref ax_order, .ref ax_dones, .int x_away, .int x_bestSet, .ref ax_aside, .ref ax_tapedWho, .ref ax_tapedTill, .int x_taped, .ref ax_kept, .int x_keeps])), (ax_text, .inl (cyI, 200, .inl x_text)), (ax_read, .inl (cyI, 28, .inl x_read))] → va_S A s.heap H locs → lv_has ls 7 [(0, .ref ax), (1, .int i1), (5, .int i5_70)] → (if i1 < 0 ∨ 28 ≤ i1.toNatClampNeg then none else
(if vp_nar .boolean s0_113 = s0_113 then some (s0_113, x_at_70 + (1 : Int32), upd x_read i1.toNatClampNeg i5_70) else none)) = some (r, o_x_at, o_x_read) → W p l e rX7_number s m (([.ref ax, .int i1, .int i2, .int i3, .int i4] : List Value).toArray) below meth c H locs 0 0 (MQ below (CQi r D [(ax, .inr (7, [.ref ax_row, .ref ax_text, .int x_letters, .int o_x_at, .ref ax_read, .ref ax_undone, .int x_undos, .ref ax_order, .ref ax_dones, .int x_away, .int x_bestSet, .ref ax_aside, .ref ax_tapedWho, .ref ax_tapedTill, .int x_taped, .ref ax_kept, .int x_keeps])), (ax_text, .inl (cyI, 200, .inl x_text)), (ax_read, .inl (cyI, 28, .inl o_x_read))] A) (([.ref ax, .int i1, .int i2, .int i3, .int i4] : List Value).toArray) s 0 0 A) (F0 m 113 ls [.int s0_113]) := by
        intro s0_113 H locs ls hP hD hS hl hf
        refine lv_istore (lv' := [(6, .int s0_113), (0, .ref ax), (1, .int i1), (5, .int i5_70)]) hx hb dX7_number_113 hl (by decide) rfl (fun ls hl => ?_)
        refine lv_aload_n hx hb dX7_number_115 rfl (lv_at hl 1 rfl) ?_
        refine lv_dup hx hb dX7_number_116 rfl ?_
        refine va_get (C := RX7) (T := TX7) (N := 17) hx hb hts inX7 hown hK.1 hP 0 rfl rfl 3 (by decide) f66 (fun _ h9 => h9) rfl dX7_number_117 ?_
        refine lv_iconst (v := 1) hx hb dX7_number_120 (by decide) ?_
        refine lv_iadd hx hb dX7_number_121 ?_
        refine a_put (C := RX7) (T := TX7) (N := 17) (wn := [(ax, .inr (7, [.ref ax_row, .ref ax_text, .int x_letters, .int (x_at_70 + (1 : Int32)), .ref ax_read, .ref ax_undone, .int x_undos, .ref ax_order, .ref ax_dones, .int x_away, .int x_bestSet, .ref ax_aside, .ref ax_tapedWho, .ref ax_tapedTill, .int x_taped, .ref ax_kept, .int x_keeps])), (ax_text, .inl (cyI, 200, .inl x_text)), (ax_read, .inl (cyI, 28, .inl x_read))]) hx hb hts inX7 tyX7 tyX7_ok nmX7 hown hK hP hD hS 0 rfl rfl 3 (by decide) f66 (fun _ h9 => h9) rfl rfl (Nat.le_of_ble_eq_true rfl) rfl dX7_number_122 (fun H locs hP hD hS => ?_)
        refine lv_aload_n hx hb dX7_number_125 rfl (lv_at hl 1 rfl) ?_
        refine va_get (C := RX7) (T := TX7) (N := 17) hx hb hts inX7 hown hK.1 hP 0 rfl rfl 4 (by decide) f16 (fun _ h9 => h9) rfl dX7_number_126 ?_
        refine lv_iload_n hx hb dX7_number_129 rfl (lv_at hl 2 rfl) ?_
        refine lv_iload hx hb dX7_number_130 (lv_at hl 3 rfl) ?_
        obtain ⟨z132, hf⟩ := oi hf
        refine a_ist (wn := [(ax, .inr (7, [.ref ax_row, .ref ax_text, .int x_letters, .int (x_at_70 + (1 : Int32)), .ref ax_read, .ref ax_undone, .int x_undos, .ref ax_order, .ref ax_dones, .int x_away, .int x_bestSet, .ref ax_aside, .ref ax_tapedWho, .ref ax_tapedTill, .int x_taped, .ref ax_kept, .int x_keeps])), (ax_text, .inl (cyI, 200, .inl x_text)), (ax_read, .inl (cyI, 28, .inl (upd x_read i1.toNatClampNeg i5_70)))]) hx hb hK hP hD hS 2 rfl z132 i1.toNatClampNeg rfl rfl dX7_number_132 (fun H locs hP hD hS => ?_)
        refine lv_iload hx hb dX7_number_133 (lv_at hl 0 rfl) ?_
        obtain ⟨n135, hf⟩ := oj hf
        simp only [Option.some.injEq, Prod.mk.injEq] at hf
        obtain ⟨rfl, rfl, rfl⟩ := hf
        exact W.zret hx hb hr (nar_boolean n135) (fun t ht hW => ⟨⟨_, (), rfl, rfl, by rw [ht]; exact hP, hD⟩, hS.F ht⟩) hS.2.2 dX7_number_135
      replace hf := jn_h hf
      have hJ112 : ∀ (H : Heap) (locs : List Loc) (ls : Array Slot), va_P D vwCl [(ax, .inr (7, [.ref ax_row, .ref ax_text, .int x_letters, .int x_at_70, .ref ax_read, .ref ax_undone, .int x_undos, .ref ax_order, .ref ax_dones, .int x_away, .int x_bestSet, .ref ax_aside, .ref ax_tapedWho, .ref ax_tapedTill, .int x_taped, .ref ax_kept, .int x_keeps])), (ax_text, .inl (cyI, 200, .inl x_text)), (ax_read, .inl (cyI, 28, .inl x_read))] H → va_D A [(ax, .inr (7, [.ref ax_row, .ref ax_text, .int x_letters, .int x_at_70, .ref ax_read, .ref ax_undone, .int x_undos, .ref ax_order, .ref ax_dones, .int x_away, .int x_bestSet, .ref ax_aside, .ref ax_tapedWho, .ref ax_tapedTill, .int x_taped, .ref ax_kept, .int x_keeps])), (ax_text, .inl (cyI, 200, .inl x_text)), (ax_read, .inl (cyI, 28, .inl x_read))] → va_S A s.heap H locs → lv_has ls 7 [(0, .ref ax), (1, .int i1), (5, .int i5_70)] → ((fun (s0_113 : Int32) => (if i1 < 0 ∨ 28 ≤ i1.toNatClampNeg then none else (if vp_nar .boolean s0_113 = s0_113 then some (s0_113, x_at_70 + (1 : Int32), upd x_read i1.toNatClampNeg i5_70) else none))) (0 : Int32)) = some (r, o_x_at, o_x_read) → W p l e rX7_number s m (([.ref ax, .int i1, .int i2, .int i3, .int i4] : List Value).toArray) below meth c H locs 0 0 (MQ below (CQi r D [(ax, .inr (7, [.ref ax_row, .ref ax_text, .int x_letters, .int o_x_at, .ref ax_read, .ref ax_undone, .int x_undos, .ref ax_order, .ref ax_dones, .int x_away, .int x_bestSet, .ref ax_aside, .ref ax_tapedWho, .ref ax_tapedTill, .int x_taped, .ref ax_kept, .int x_keeps])), (ax_text, .inl (cyI, 200, .inl x_text)), (ax_read, .inl (cyI, 28, .inl o_x_read))] A) (([.ref ax, .int i1, .int i2, .int i3, .int i4] : List Value).toArray) s 0 0 A) (F0 m 112 ls []) := by
        intro  H locs ls hP hD hS hl hf
        refine lv_iconst (v := 0) hx hb dX7_number_112 (by decide) ?_
        exact hJ113 (0 : Int32) _ _ _ hP hD hS (lv_sub hl [0, 1, 2] rfl) hf
      replace hf := jn_h hf
      refine lv_if_eq (tgt := 112) hx hb dX7_number_80 (by decide) (fun c80 => ?_) (fun c80 => ?_)
      · replace hf := ip c80 hf
        exact hJ112 _ _ _ hP hD hS (lv_sub hl [0, 1, 5] rfl) hf
      · replace hf := iq c80 hf
        refine lv_aload_n hx hb dX7_number_83 rfl (lv_at hl 0 rfl) ?_
        refine va_get (C := RX7) (T := TX7) (N := 17) hx hb hts inX7 hown hK.1 hP 0 rfl rfl 3 (by decide) f66 (fun _ h9 => h9) rfl dX7_number_84 ?_
        refine lv_aload_n hx hb dX7_number_87 rfl (lv_at hl 0 rfl) ?_
        refine va_get (C := RX7) (T := TX7) (N := 17) hx hb hts inX7 hown hK.1 hP 0 rfl rfl 2 (by decide) f62 (fun _ h9 => h9) rfl dX7_number_88 ?_
        refine lv_icmp_ge (tgt := 112) hx hb dX7_number_91 (by decide) (fun c91 => ?_) (fun c91 => ?_)
        · replace hf := ip c91 hf
          exact hJ112 _ _ _ hP hD hS (lv_sub hl [0, 1, 5] rfl) hf
        · replace hf := iq c91 hf
          refine lv_aload_n hx hb dX7_number_94 rfl (lv_at hl 0 rfl) ?_
          refine va_get (C := RX7) (T := TX7) (N := 17) hx hb hts inX7 hown hK.1 hP 0 rfl rfl 1 (by decide) f13 (fun _ h9 => h9) rfl dX7_number_95 ?_
          refine lv_aload_n hx hb dX7_number_98 rfl (lv_at hl 0 rfl) ?_
          refine va_get (C := RX7) (T := TX7) (N := 17) hx hb hts inX7 hown hK.1 hP 0 rfl rfl 3 (by decide) f66 (fun _ h9 => h9) rfl dX7_number_99 ?_
          obtain ⟨z102, hf⟩ := oi hf
          refine a_ild hx hb hK hP 1 rfl z102 x_at_70.toNatClampNeg rfl dX7_number_102 ?_
          refine lv_iload hx hb dX7_number_103 (lv_at hl 4 rfl) ?_
          refine lv_icmp_ne (tgt := 112) hx hb dX7_number_105 (by decide) (fun c105 => ?_) (fun c105 => ?_)
          · replace hf := iq c105 hf
            exact hJ112 _ _ _ hP hD hS (lv_sub hl [0, 1, 5] rfl) hf
          · replace hf := ip c105 hf
            refine lv_iconst (v := 1) hx hb dX7_number_108 (by decide) ?_
            refine lv_goto (tgt := 113) hx hb dX7_number_109 (by decide) ?_
            exact hJ113 (1 : Int32) _ _ _ hP hD hS (lv_sub hl [0, 1, 5] rfl) hf
    replace hf := jn_h hf
    refine lv_if_eq (tgt := 70) hx hb dX7_number_37 (by decide) (fun c37 => ?_) (fun c37 => ?_)
    · replace hf := ip c37 hf
      exact hJ70 v21 (x_at + (1 : Int32)) _ _ _ hP hD hS (lv_sub hl [1, 2, 3, 4, 5, 0] rfl) hf
    · replace hf := iq c37 hf
      refine lv_bipush (v := 10) hx hb dX7_number_40 (by decide) ?_
      refine lv_iload hx hb dX7_number_42 (lv_at hl 0 rfl) ?_
      refine lv_imul hx hb dX7_number_44 ?_
      refine lv_aload_n hx hb dX7_number_45 rfl (lv_at hl 1 rfl) ?_
      refine va_get (C := RX7) (T := TX7) (N := 17) hx hb hts inX7 hown hK.1 hP 0 rfl rfl 1 (by decide) f13 (fun _ h9 => h9) rfl dX7_number_46 ?_
      refine lv_aload_n hx hb dX7_number_49 rfl (lv_at hl 1 rfl) ?_
      refine va_get (C := RX7) (T := TX7) (N := 17) hx hb hts inX7 hown hK.1 hP 0 rfl rfl 3 (by decide) f66 (fun _ h9 => h9) rfl dX7_number_50 ?_
      obtain ⟨z53, hf⟩ := oi hf
      refine a_ild hx hb hK hP 1 rfl z53 (x_at + (1 : Int32)).toNatClampNeg rfl dX7_number_53 ?_
      refine lv_iadd hx hb dX7_number_54 ?_
      refine lv_bipush (v := 48) hx hb dX7_number_55 (by decide) ?_
      refine lv_isub hx hb dX7_number_57 ?_
      refine lv_topi (fun v58 ev58 => ?_)
      replace hf := nm_h hf v58 ev58
      refine lv_istore (lv' := [(5, .int v58), (0, .ref ax), (1, .int i1), (2, .int i2), (3, .int i3), (4, .int i4)]) hx hb dX7_number_58 hl (by decide) rfl (fun ls hl => ?_)
      refine lv_aload_n hx hb dX7_number_60 rfl (lv_at hl 1 rfl) ?_
      refine lv_dup hx hb dX7_number_61 rfl ?_
      refine va_get (C := RX7) (T := TX7) (N := 17) hx hb hts inX7 hown hK.1 hP 0 rfl rfl 3 (by decide) f66 (fun _ h9 => h9) rfl dX7_number_62 ?_
      refine lv_iconst (v := 1) hx hb dX7_number_65 (by decide) ?_
      refine lv_iadd hx hb dX7_number_66 ?_
      refine a_put (C := RX7) (T := TX7) (N := 17) (wn := [(ax, .inr (7, [.ref ax_row, .ref ax_text, .int x_letters, .int ((x_at + (1 : Int32)) + (1 : Int32)), .ref ax_read, .ref ax_undone, .int x_undos, .ref ax_order, .ref ax_dones, .int x_away, .int x_bestSet, .ref ax_aside, .ref ax_tapedWho, .ref ax_tapedTill, .int x_taped, .ref ax_kept, .int x_keeps])), (ax_text, .inl (cyI, 200, .inl x_text)), (ax_read, .inl (cyI, 28, .inl x_read))]) hx hb hts inX7 tyX7 tyX7_ok nmX7 hown hK hP hD hS 0 rfl rfl 3 (by decide) f66 (fun _ h9 => h9) rfl rfl (Nat.le_of_ble_eq_true rfl) rfl dX7_number_67 (fun H locs hP hD hS => ?_)
      exact hJ70 v58 ((x_at + (1 : Int32)) + (1 : Int32)) _ _ _ hP hD hS (lv_sub hl [1, 2, 3, 4, 5, 0] rfl) hf
  · replace hf := ip c4 hf
    refine lv_iconst (v := 0) hx hb dX7_number_7 (by decide) ?_
    simp only [Option.some.injEq, Prod.mk.injEq] at hf
    obtain ⟨rfl, rfl, rfl⟩ := hf
    exact W.zret hx hb hr rfl (fun t ht hW => ⟨⟨_, (), rfl, rfl, by rw [ht]; exact hP, hD⟩, hS.F ht⟩) hS.2.2 dX7_number_8
abbrev rX7_item : Room := { frames := 3, cells := 0, slots := 0, locals := 71 }
set_option maxHeartbeats 4000000 in
set_option maxRecDepth 100000 in
theorem c_X7_item (l : Launch) (D : va_G) (cyI cyC cyS : ClassId) (sz : Nat) (ax : Nat) (ax_row : Nat) (ax_text : Nat) (ax_read : Nat) (ax_undone : Nat) (ax_order : Nat) (ax_dones : Nat) (ax_aside : Nat) (ax_tapedWho : Nat) (ax_tapedTill : Nat) (ax_kept : Nat) (x_letters : Int32) (x_at : Int32) (x_undos : Int32) (x_away : Int32) (x_bestSet : Int32) (x_taped : Int32) (x_keeps : Int32) (x_text : Nat → Int32) (x_read : Nat → Int32) {r : Int32} {o_x_at : Int32} {o_x_read : Nat → Int32} (hf : S_X7_item x_letters x_at x_text x_read = some (r, o_x_at, o_x_read)) : Met l yX7_item wsX7_item rX7_item (Cpre [.ref ax] D cyI cyC cyS sz [(ax, .inr (7, [.ref ax_row, .ref ax_text, .int x_letters, .int x_at, .ref ax_read, .ref ax_undone, .int x_undos, .ref ax_order, .ref ax_dones, .int x_away, .int x_bestSet, .ref ax_aside, .ref ax_tapedWho, .ref ax_tapedTill, .int x_taped, .ref ax_kept, .int x_keeps])), (ax_text, .inl (cyI, 200, .inl x_text)), (ax_read, .inl (cyI, 28, .inl x_read))]) (CQi r D [(ax, .inr (7, [.ref ax_row, .ref ax_text, .int x_letters, .int o_x_at, .ref ax_read, .ref ax_undone, .int x_undos, .ref ax_order, .ref ax_dones, .int x_away, .int x_bestSet, .ref ax_aside, .ref ax_tapedWho, .ref ax_tapedTill, .int x_taped, .ref ax_kept, .int x_keeps])), (ax_text, .inl (cyI, 200, .inl x_text)), (ax_read, .inl (cyI, 28, .inl o_x_read))] (va_A [(ax, .inr (7, [.ref ax_row, .ref ax_text, .int x_letters, .int x_at, .ref ax_read, .ref ax_undone, .int x_undos, .ref ax_order, .ref ax_dones, .int x_away, .int x_bestSet, .ref ax_aside, .ref ax_tapedWho, .ref ax_tapedTill, .int x_taped, .ref ax_kept, .int x_keeps])), (ax_text, .inl (cyI, 200, .inl x_text)), (ax_read, .inl (cyI, 28, .inl x_read))] sz)) 0 0 (va_A [(ax, .inr (7, [.ref ax_row, .ref ax_text, .int x_letters, .int x_at, .ref ax_read, .ref ax_undone, .int x_undos, .ref ax_order, .ref ax_dones, .int x_away, .int x_bestSet, .ref ax_aside, .ref ax_tapedWho, .ref ax_tapedTill, .int x_taped, .ref ax_kept, .int x_keeps])), (ax_text, .inl (cyI, 200, .inl x_text)), (ax_read, .inl (cyI, 28, .inl x_read))] sz) := by
  refine Met.ofW (cc := cX7_item) (maxL := 3) (ret := (some .boolean)) (by decide) rfl ?_
  intro p e s m args below meth c s₁ B hml hv
  obtain ⟨rfl, hsz, hP, hK, hD0⟩ := hv
  have hx := B.exec
  have hb := B.bytes
  have hr := B.returns
  have hts := atoms_spec (ws := wsX7_item) B.pre
  have hown : s.vm.findClass RX7 = some m.cls := findClass_of_methodNamed B.named
  have hlocks := B.notSynchronized
  subst hsz
  have hD := hD0.self (sz := s.heap.size)
  generalize hAe : va_A [(ax, .inr (7, [.ref ax_row, .ref ax_text, .int x_letters, .int x_at, .ref ax_read, .ref ax_undone, .int x_undos, .ref ax_order, .ref ax_dones, .int x_away, .int x_bestSet, .ref ax_aside, .ref ax_tapedWho, .ref ax_tapedTill, .int x_taped, .ref ax_kept, .int x_keeps])), (ax_text, .inl (cyI, 200, .inl x_text)), (ax_read, .inl (cyI, 28, .inl x_read))] s.heap.size = A at hD ⊢
  have hA : ∀ q : Nat, s.heap.size ≤ q → A q := fun q h => by rw [← hAe]; exact Or.inr h
  have hS : va_S A s.heap s.heap [] := va_S.rf
  have hl := lv_entry ([.ref ax]) (n := 3) (Nat.le_of_ble_eq_true rfl)
  rw [lg_entry_eq]
  generalize (lg_sl ([.ref ax]) ++ List.replicate (3 - (lg_sl ([.ref ax])).length) Slot.unset).toArray = ls at hl ⊢
  have hl : lv_has ls 3 [(0, .ref ax)] := hl
  have f13 := hts (.fieldLink RX7 13 "SecondTillModel" "text" "[I") (by decide +kernel)
  have inX7 : ∀ w ∈ u_ws RX7 TX7 17, w ∈ wsX7_item := by decide +kernel
  have f66 := hts (.fieldLink RX7 66 "SecondTillModel" "at" "I") (by decide +kernel)
  have f16 := hts (.fieldLink RX7 16 "SecondTillModel" "read" "[I") (by decide +kernel)
  unfold S_X7_item at hf
  have hP : va_P D vwCl [(ax, .inr (7, [.ref ax_row, .ref ax_text, .int x_letters, .int x_at, .ref ax_read, .ref ax_undone, .int x_undos, .ref ax_order, .ref ax_dones, .int x_away, .int x_bestSet, .ref ax_aside, .ref ax_tapedWho, .ref ax_tapedTill, .int x_taped, .ref ax_kept, .int x_keeps])), (ax_text, .inl (cyI, 200, .inl x_text)), (ax_read, .inl (cyI, 28, .inl x_read))] s.heap := hP
  suffices hgo : ∀ (H : Heap) (locs : List Loc), va_P D vwCl [(ax, .inr (7, [.ref ax_row, .ref ax_text, .int x_letters, .int x_at, .ref ax_read, .ref ax_undone, .int x_undos, .ref ax_order, .ref ax_dones, .int x_away, .int x_bestSet, .ref ax_aside, .ref ax_tapedWho, .ref ax_tapedTill, .int x_taped, .ref ax_kept, .int x_keeps])), (ax_text, .inl (cyI, 200, .inl x_text)), (ax_read, .inl (cyI, 28, .inl x_read))] H → va_S A s.heap H locs → W p l e rX7_item s m (([.ref ax] : List Value).toArray) below meth c H locs 0 0 (MQ below (CQi r D [(ax, .inr (7, [.ref ax_row, .ref ax_text, .int x_letters, .int o_x_at, .ref ax_read, .ref ax_undone, .int x_undos, .ref ax_order, .ref ax_dones, .int x_away, .int x_bestSet, .ref ax_aside, .ref ax_tapedWho, .ref ax_tapedTill, .int x_taped, .ref ax_kept, .int x_keeps])), (ax_text, .inl (cyI, 200, .inl x_text)), (ax_read, .inl (cyI, 28, .inl o_x_read))] A) (([.ref ax] : List Value).toArray) s 0 0 A) (F0 m 0 ls []) from hgo _ _ hP hS
  clear hP hS
  intro H locs hP hS
  refine lv_aload_n hx hb dX7_item_0 rfl (lv_at hl 0 rfl) ?_
  refine va_get (C := RX7) (T := TX7) (N := 17) hx hb hts inX7 hown hK.1 hP 0 rfl rfl 1 (by decide) f13 (fun _ h9 => h9) rfl dX7_item_1 ?_
  refine lv_aload_n hx hb dX7_item_4 rfl (lv_at hl 0 rfl) ?_
  refine va_get (C := RX7) (T := TX7) (N := 17) hx hb hts inX7 hown hK.1 hP 0 rfl rfl 3 (by decide) f66 (fun _ h9 => h9) rfl dX7_item_5 ?_
  obtain ⟨z8, hf⟩ := oi hf
  refine a_ild hx hb hK hP 1 rfl z8 x_at.toNatClampNeg rfl dX7_item_8 ?_
  refine lv_istore_n (lv' := [(1, .int (x_text x_at.toNatClampNeg)), (0, .ref ax)]) hx hb dX7_item_9 rfl hl (by decide) rfl (fun ls hl => ?_)
  refine lv_aload_n hx hb dX7_item_10 rfl (lv_at hl 1 rfl) ?_
  refine lv_dup hx hb dX7_item_11 rfl ?_
  refine va_get (C := RX7) (T := TX7) (N := 17) hx hb hts inX7 hown hK.1 hP 0 rfl rfl 3 (by decide) f66 (fun _ h9 => h9) rfl dX7_item_12 ?_
  refine lv_iconst (v := 1) hx hb dX7_item_15 (by decide) ?_
  refine lv_iadd hx hb dX7_item_16 ?_
  refine a_put (C := RX7) (T := TX7) (N := 17) (wn := [(ax, .inr (7, [.ref ax_row, .ref ax_text, .int x_letters, .int (x_at + (1 : Int32)), .ref ax_read, .ref ax_undone, .int x_undos, .ref ax_order, .ref ax_dones, .int x_away, .int x_bestSet, .ref ax_aside, .ref ax_tapedWho, .ref ax_tapedTill, .int x_taped, .ref ax_kept, .int x_keeps])), (ax_text, .inl (cyI, 200, .inl x_text)), (ax_read, .inl (cyI, 28, .inl x_read))]) hx hb hts inX7 tyX7 tyX7_ok nmX7 hown hK hP hD hS 0 rfl rfl 3 (by decide) f66 (fun _ h9 => h9) rfl rfl (Nat.le_of_ble_eq_true rfl) rfl dX7_item_17 (fun H locs hP hD hS => ?_)
  refine lv_iload_n hx hb dX7_item_20 rfl (lv_at hl 0 rfl) ?_
  refine lv_bipush (v := 112) hx hb dX7_item_21 (by decide) ?_
  refine lv_icmp_ne (tgt := 104) hx hb dX7_item_23 (by decide) (fun c23 => ?_) (fun c23 => ?_)
  · replace hf := iq c23 hf
    refine lv_iload_n hx hb dX7_item_104 rfl (lv_at hl 0 rfl) ?_
    refine lv_bipush (v := 115) hx hb dX7_item_105 (by decide) ?_
    refine lv_icmp_ne (tgt := 144) hx hb dX7_item_107 (by decide) (fun c107 => ?_) (fun c107 => ?_)
    · replace hf := iq c107 hf
      refine lv_iload_n hx hb dX7_item_144 rfl (lv_at hl 0 rfl) ?_
      refine lv_bipush (v := 100) hx hb dX7_item_145 (by decide) ?_
      refine lv_icmp_ne (tgt := 167) hx hb dX7_item_147 (by decide) (fun c147 => ?_) (fun c147 => ?_)
      · replace hf := iq c147 hf
        refine lv_iconst (v := 0) hx hb dX7_item_167 (by decide) ?_
        simp only [Option.some.injEq, Prod.mk.injEq] at hf
        obtain ⟨rfl, rfl, rfl⟩ := hf
        exact W.zret hx hb hr rfl (fun t ht hW => ⟨⟨_, (), rfl, rfl, by rw [ht]; exact hP, hD⟩, hS.F ht⟩) hS.2.2 dX7_item_168
      · replace hf := ip c147 hf
        refine lv_aload_n hx hb dX7_item_150 rfl (lv_at hl 1 rfl) ?_
        refine lv_iconst (v := 3) hx hb dX7_item_151 (by decide) ?_
        refine lv_iconst (v := 0) hx hb dX7_item_152 (by decide) ?_
        refine lv_bipush (v := 20) hx hb dX7_item_153 (by decide) ?_
        refine lv_bipush (v := 59) hx hb dX7_item_155 (by decide) ?_
        obtain ⟨⟨r157, x_at_o157, x_read_o157⟩, q157, hf⟩ := ob hf
        replace hf : _ = _ := hf
        refine k_i (wc := [(ax, .inr (7, [.ref ax_row, .ref ax_text, .int x_letters, .int (x_at + (1 : Int32)), .ref ax_read, .ref ax_undone, .int x_undos, .ref ax_order, .ref ax_dones, .int x_away, .int x_bestSet, .ref ax_aside, .ref ax_tapedWho, .ref ax_tapedTill, .int x_taped, .ref ax_kept, .int x_keeps])), (ax_text, .inl (cyI, 200, .inl x_text)), (ax_read, .inl (cyI, 28, .inl x_read))]) (wr := []) (w1 := [(ax, .inr (7, [.ref ax_row, .ref ax_text, .int x_letters, .int x_at_o157, .ref ax_read, .ref ax_undone, .int x_undos, .ref ax_order, .ref ax_dones, .int x_away, .int x_bestSet, .ref ax_aside, .ref ax_tapedWho, .ref ax_tapedTill, .int x_taped, .ref ax_kept, .int x_keeps])), (ax_text, .inl (cyI, 200, .inl x_text)), (ax_read, .inl (cyI, 28, .inl x_read_o157))]) (wn := [(ax, .inr (7, [.ref ax_row, .ref ax_text, .int x_letters, .int x_at_o157, .ref ax_read, .ref ax_undone, .int x_undos, .ref ax_order, .ref ax_dones, .int x_away, .int x_bestSet, .ref ax_aside, .ref ax_tapedWho, .ref ax_tapedTill, .int x_taped, .ref ax_kept, .int x_keeps])), (ax_text, .inl (cyI, 200, .inl x_text)), (ax_read, .inl (cyI, 28, .inl x_read_o157))]) (va_runV (As := [.int (3 : Int32), .int (0 : Int32), .int (20 : Int32), .int (59 : Int32)]) (rest := []) ⟨hx, hb, hml, hown, hts⟩ (c_X7_number l D cyI cyC cyS H.size ax ax_row ax_text ax_read ax_undone ax_order ax_dones ax_aside ax_tapedWho ax_tapedTill ax_kept x_letters (x_at + (1 : Int32)) x_undos x_away x_bestSet x_taped x_keeps x_text x_read (3 : Int32) (0 : Int32) (20 : Int32) (59 : Int32) q157) (cwV 4 hts gX7_item_X7_number rfl rfl rfl (by decide +kernel) ⟨Nat.le_of_ble_eq_true rfl, Nat.le_of_ble_eq_true rfl⟩) (preV (ci := 7) hK (hP.subm (ws' := [(ax, .inr (7, [.ref ax_row, .ref ax_text, .int x_letters, .int (x_at + (1 : Int32)), .ref ax_read, .ref ax_undone, .int x_undos, .ref ax_order, .ref ax_dones, .int x_away, .int x_bestSet, .ref ax_aside, .ref ax_tapedWho, .ref ax_tapedTill, .int x_taped, .ref ax_kept, .int x_keeps])), (ax_text, .inl (cyI, 200, .inl x_text)), (ax_read, .inl (cyI, 28, .inl x_read))]) [0, 1, 2] rfl) (hD.sub (ws' := [(ax, .inr (7, [.ref ax_row, .ref ax_text, .int x_letters, .int (x_at + (1 : Int32)), .ref ax_read, .ref ax_undone, .int x_undos, .ref ax_order, .ref ax_dones, .int x_away, .int x_bestSet, .ref ax_aside, .ref ax_tapedWho, .ref ax_tapedTill, .int x_taped, .ref ax_kept, .int x_keeps])), (ax_text, .inl (cyI, 200, .inl x_text)), (ax_read, .inl (cyI, 28, .inl x_read))]) [0, 1, 2] (by decide) rfl) rfl rfl) rfl rfl hl.1 rfl (lv_room (Nat.le_of_ble_eq_true rfl)) dX7_item_157 ⟨Nat.le_of_ble_eq_true rfl, Nat.le_of_ble_eq_true rfl⟩) hP hD hS hA [0, 1, 2] [] [0, 1, 2] rfl rfl rfl (by decide) (by decide) (by decide) (fun H locs hP hD hS => ?_)
        refine lv_if_eq (tgt := 167) hx hb dX7_item_160 (by decide) (fun c160 => ?_) (fun c160 => ?_)
        · replace hf := ip c160 hf
          refine lv_iconst (v := 0) hx hb dX7_item_167 (by decide) ?_
          simp only [Option.some.injEq, Prod.mk.injEq] at hf
          obtain ⟨rfl, rfl, rfl⟩ := hf
          exact W.zret hx hb hr rfl (fun t ht hW => ⟨⟨_, (), rfl, rfl, by rw [ht]; exact hP, hD⟩, hS.F ht⟩) hS.2.2 dX7_item_168
        · replace hf := iq c160 hf
          refine lv_iconst (v := 1) hx hb dX7_item_163 (by decide) ?_
          refine lv_goto (tgt := 168) hx hb dX7_item_164 (by decide) ?_
          simp only [Option.some.injEq, Prod.mk.injEq] at hf
          obtain ⟨rfl, rfl, rfl⟩ := hf
          exact W.zret hx hb hr rfl (fun t ht hW => ⟨⟨_, (), rfl, rfl, by rw [ht]; exact hP, hD⟩, hS.F ht⟩) hS.2.2 dX7_item_168
    · replace hf := ip c107 hf
      refine lv_aload_n hx hb dX7_item_110 rfl (lv_at hl 1 rfl) ?_
      refine lv_iconst (v := 1) hx hb dX7_item_111 (by decide) ?_
      refine lv_iconst (v := 1) hx hb dX7_item_112 (by decide) ?_
      refine lv_bipush (v := 9) hx hb dX7_item_113 (by decide) ?_
      refine lv_bipush (v := 44) hx hb dX7_item_115 (by decide) ?_
      obtain ⟨⟨r117, x_at_o117, x_read_o117⟩, q117, hf⟩ := ob hf
      replace hf : _ = _ := hf
      refine k_i (wc := [(ax, .inr (7, [.ref ax_row, .ref ax_text, .int x_letters, .int (x_at + (1 : Int32)), .ref ax_read, .ref ax_undone, .int x_undos, .ref ax_order, .ref ax_dones, .int x_away, .int x_bestSet, .ref ax_aside, .ref ax_tapedWho, .ref ax_tapedTill, .int x_taped, .ref ax_kept, .int x_keeps])), (ax_text, .inl (cyI, 200, .inl x_text)), (ax_read, .inl (cyI, 28, .inl x_read))]) (wr := []) (w1 := [(ax, .inr (7, [.ref ax_row, .ref ax_text, .int x_letters, .int x_at_o117, .ref ax_read, .ref ax_undone, .int x_undos, .ref ax_order, .ref ax_dones, .int x_away, .int x_bestSet, .ref ax_aside, .ref ax_tapedWho, .ref ax_tapedTill, .int x_taped, .ref ax_kept, .int x_keeps])), (ax_text, .inl (cyI, 200, .inl x_text)), (ax_read, .inl (cyI, 28, .inl x_read_o117))]) (wn := [(ax, .inr (7, [.ref ax_row, .ref ax_text, .int x_letters, .int x_at_o117, .ref ax_read, .ref ax_undone, .int x_undos, .ref ax_order, .ref ax_dones, .int x_away, .int x_bestSet, .ref ax_aside, .ref ax_tapedWho, .ref ax_tapedTill, .int x_taped, .ref ax_kept, .int x_keeps])), (ax_text, .inl (cyI, 200, .inl x_text)), (ax_read, .inl (cyI, 28, .inl x_read_o117))]) (va_runV (As := [.int (1 : Int32), .int (1 : Int32), .int (9 : Int32), .int (44 : Int32)]) (rest := []) ⟨hx, hb, hml, hown, hts⟩ (c_X7_number l D cyI cyC cyS H.size ax ax_row ax_text ax_read ax_undone ax_order ax_dones ax_aside ax_tapedWho ax_tapedTill ax_kept x_letters (x_at + (1 : Int32)) x_undos x_away x_bestSet x_taped x_keeps x_text x_read (1 : Int32) (1 : Int32) (9 : Int32) (44 : Int32) q117) (cwV 4 hts gX7_item_X7_number rfl rfl rfl (by decide +kernel) ⟨Nat.le_of_ble_eq_true rfl, Nat.le_of_ble_eq_true rfl⟩) (preV (ci := 7) hK (hP.subm (ws' := [(ax, .inr (7, [.ref ax_row, .ref ax_text, .int x_letters, .int (x_at + (1 : Int32)), .ref ax_read, .ref ax_undone, .int x_undos, .ref ax_order, .ref ax_dones, .int x_away, .int x_bestSet, .ref ax_aside, .ref ax_tapedWho, .ref ax_tapedTill, .int x_taped, .ref ax_kept, .int x_keeps])), (ax_text, .inl (cyI, 200, .inl x_text)), (ax_read, .inl (cyI, 28, .inl x_read))]) [0, 1, 2] rfl) (hD.sub (ws' := [(ax, .inr (7, [.ref ax_row, .ref ax_text, .int x_letters, .int (x_at + (1 : Int32)), .ref ax_read, .ref ax_undone, .int x_undos, .ref ax_order, .ref ax_dones, .int x_away, .int x_bestSet, .ref ax_aside, .ref ax_tapedWho, .ref ax_tapedTill, .int x_taped, .ref ax_kept, .int x_keeps])), (ax_text, .inl (cyI, 200, .inl x_text)), (ax_read, .inl (cyI, 28, .inl x_read))]) [0, 1, 2] (by decide) rfl) rfl rfl) rfl rfl hl.1 rfl (lv_room (Nat.le_of_ble_eq_true rfl)) dX7_item_117 ⟨Nat.le_of_ble_eq_true rfl, Nat.le_of_ble_eq_true rfl⟩) hP hD hS hA [0, 1, 2] [] [0, 1, 2] rfl rfl rfl (by decide) (by decide) (by decide) (fun H locs hP hD hS => ?_)
      refine lv_if_eq (tgt := 140) hx hb dX7_item_120 (by decide) (fun c120 => ?_) (fun c120 => ?_)
      · replace hf := ip c120 hf
        refine lv_iconst (v := 0) hx hb dX7_item_140 (by decide) ?_
        refine lv_goto (tgt := 168) hx hb dX7_item_141 (by decide) ?_
        simp only [Option.some.injEq, Prod.mk.injEq] at hf
        obtain ⟨rfl, rfl, rfl⟩ := hf
        exact W.zret hx hb hr rfl (fun t ht hW => ⟨⟨_, (), rfl, rfl, by rw [ht]; exact hP, hD⟩, hS.F ht⟩) hS.2.2 dX7_item_168
      · replace hf := iq c120 hf
        refine lv_aload_n hx hb dX7_item_123 rfl (lv_at hl 1 rfl) ?_
        refine lv_iconst (v := 2) hx hb dX7_item_124 (by decide) ?_
        refine lv_iconst (v := 1) hx hb dX7_item_125 (by decide) ?_
        refine lv_bipush (v := 9) hx hb dX7_item_126 (by decide) ?_
        refine lv_bipush (v := 59) hx hb dX7_item_128 (by decide) ?_
        obtain ⟨⟨r130, x_at_o130, x_read_o130⟩, q130, hf⟩ := ob hf
        replace hf : _ = _ := hf
        refine k_i (wc := [(ax, .inr (7, [.ref ax_row, .ref ax_text, .int x_letters, .int x_at_o117, .ref ax_read, .ref ax_undone, .int x_undos, .ref ax_order, .ref ax_dones, .int x_away, .int x_bestSet, .ref ax_aside, .ref ax_tapedWho, .ref ax_tapedTill, .int x_taped, .ref ax_kept, .int x_keeps])), (ax_text, .inl (cyI, 200, .inl x_text)), (ax_read, .inl (cyI, 28, .inl x_read_o117))]) (wr := []) (w1 := [(ax, .inr (7, [.ref ax_row, .ref ax_text, .int x_letters, .int x_at_o130, .ref ax_read, .ref ax_undone, .int x_undos, .ref ax_order, .ref ax_dones, .int x_away, .int x_bestSet, .ref ax_aside, .ref ax_tapedWho, .ref ax_tapedTill, .int x_taped, .ref ax_kept, .int x_keeps])), (ax_text, .inl (cyI, 200, .inl x_text)), (ax_read, .inl (cyI, 28, .inl x_read_o130))]) (wn := [(ax, .inr (7, [.ref ax_row, .ref ax_text, .int x_letters, .int x_at_o130, .ref ax_read, .ref ax_undone, .int x_undos, .ref ax_order, .ref ax_dones, .int x_away, .int x_bestSet, .ref ax_aside, .ref ax_tapedWho, .ref ax_tapedTill, .int x_taped, .ref ax_kept, .int x_keeps])), (ax_text, .inl (cyI, 200, .inl x_text)), (ax_read, .inl (cyI, 28, .inl x_read_o130))]) (va_runV (As := [.int (2 : Int32), .int (1 : Int32), .int (9 : Int32), .int (59 : Int32)]) (rest := []) ⟨hx, hb, hml, hown, hts⟩ (c_X7_number l D cyI cyC cyS H.size ax ax_row ax_text ax_read ax_undone ax_order ax_dones ax_aside ax_tapedWho ax_tapedTill ax_kept x_letters x_at_o117 x_undos x_away x_bestSet x_taped x_keeps x_text x_read_o117 (2 : Int32) (1 : Int32) (9 : Int32) (59 : Int32) q130) (cwV 4 hts gX7_item_X7_number rfl rfl rfl (by decide +kernel) ⟨Nat.le_of_ble_eq_true rfl, Nat.le_of_ble_eq_true rfl⟩) (preV (ci := 7) hK (hP.subm (ws' := [(ax, .inr (7, [.ref ax_row, .ref ax_text, .int x_letters, .int x_at_o117, .ref ax_read, .ref ax_undone, .int x_undos, .ref ax_order, .ref ax_dones, .int x_away, .int x_bestSet, .ref ax_aside, .ref ax_tapedWho, .ref ax_tapedTill, .int x_taped, .ref ax_kept, .int x_keeps])), (ax_text, .inl (cyI, 200, .inl x_text)), (ax_read, .inl (cyI, 28, .inl x_read_o117))]) [0, 1, 2] rfl) (hD.sub (ws' := [(ax, .inr (7, [.ref ax_row, .ref ax_text, .int x_letters, .int x_at_o117, .ref ax_read, .ref ax_undone, .int x_undos, .ref ax_order, .ref ax_dones, .int x_away, .int x_bestSet, .ref ax_aside, .ref ax_tapedWho, .ref ax_tapedTill, .int x_taped, .ref ax_kept, .int x_keeps])), (ax_text, .inl (cyI, 200, .inl x_text)), (ax_read, .inl (cyI, 28, .inl x_read_o117))]) [0, 1, 2] (by decide) rfl) rfl rfl) rfl rfl hl.1 rfl (lv_room (Nat.le_of_ble_eq_true rfl)) dX7_item_130 ⟨Nat.le_of_ble_eq_true rfl, Nat.le_of_ble_eq_true rfl⟩) hP hD hS hA [0, 1, 2] [] [0, 1, 2] rfl rfl rfl (by decide) (by decide) (by decide) (fun H locs hP hD hS => ?_)
        refine lv_if_eq (tgt := 140) hx hb dX7_item_133 (by decide) (fun c133 => ?_) (fun c133 => ?_)
        · replace hf := ip c133 hf
          refine lv_iconst (v := 0) hx hb dX7_item_140 (by decide) ?_
          refine lv_goto (tgt := 168) hx hb dX7_item_141 (by decide) ?_
          simp only [Option.some.injEq, Prod.mk.injEq] at hf
          obtain ⟨rfl, rfl, rfl⟩ := hf
          exact W.zret hx hb hr rfl (fun t ht hW => ⟨⟨_, (), rfl, rfl, by rw [ht]; exact hP, hD⟩, hS.F ht⟩) hS.2.2 dX7_item_168
        · replace hf := iq c133 hf
          refine lv_iconst (v := 1) hx hb dX7_item_136 (by decide) ?_
          refine lv_goto (tgt := 168) hx hb dX7_item_137 (by decide) ?_
          simp only [Option.some.injEq, Prod.mk.injEq] at hf
          obtain ⟨rfl, rfl, rfl⟩ := hf
          exact W.zret hx hb hr rfl (fun t ht hW => ⟨⟨_, (), rfl, rfl, by rw [ht]; exact hP, hD⟩, hS.F ht⟩) hS.2.2 dX7_item_168
  · replace hf := ip c23 hf
    refine lv_iconst (v := 4) hx hb dX7_item_26 (by decide) ?_
    refine lv_iconst (v := 3) hx hb dX7_item_27 (by decide) ?_
    refine lv_aload_n hx hb dX7_item_28 rfl (lv_at hl 1 rfl) ?_
    refine va_get (C := RX7) (T := TX7) (N := 17) hx hb hts inX7 hown hK.1 hP 0 rfl rfl 4 (by decide) f16 (fun _ h9 => h9) rfl dX7_item_29 ?_
    refine lv_iconst (v := 0) hx hb dX7_item_32 (by decide) ?_
    refine a_ild hx hb hK hP 2 rfl (vin (by decide)) 0 (by decide) dX7_item_33 ?_
    refine lv_imul hx hb dX7_item_34 ?_
    refine lv_iadd hx hb dX7_item_35 ?_
    refine lv_istore_n (lv' := [(2, .int ((4 : Int32) + ((3 : Int32) * (x_read 0)))), (1, .int (x_text x_at.toNatClampNeg)), (0, .ref ax)]) hx hb dX7_item_36 rfl hl (by decide) rfl (fun ls hl => ?_)
    refine lv_aload_n hx hb dX7_item_37 rfl (lv_at hl 2 rfl) ?_
    refine va_get (C := RX7) (T := TX7) (N := 17) hx hb hts inX7 hown hK.1 hP 0 rfl rfl 4 (by decide) f16 (fun _ h9 => h9) rfl dX7_item_38 ?_
    refine lv_iconst (v := 0) hx hb dX7_item_41 (by decide) ?_
    refine a_ild hx hb hK hP 2 rfl (vin (by decide)) 0 (by decide) dX7_item_42 ?_
    refine lv_bipush (v := 8) hx hb dX7_item_43 (by decide) ?_
    refine lv_icmp_eq (tgt := 90) hx hb dX7_item_45 (by decide) (fun c45 => ?_) (fun c45 => ?_)
    · replace hf := ip c45 hf
      refine lv_iconst (v := 0) hx hb dX7_item_90 (by decide) ?_
      simp only [Option.some.injEq, Prod.mk.injEq] at hf
      obtain ⟨rfl, rfl, rfl⟩ := hf
      exact W.zret hx hb hr rfl (fun t ht hW => ⟨⟨_, (), rfl, rfl, by rw [ht]; exact hP, hD⟩, hS.F ht⟩) hS.2.2 dX7_item_91
    · replace hf := iq c45 hf
      refine lv_aload_n hx hb dX7_item_48 rfl (lv_at hl 2 rfl) ?_
      refine lv_iload_n hx hb dX7_item_49 rfl (lv_at hl 0 rfl) ?_
      refine lv_iconst (v := 0) hx hb dX7_item_50 (by decide) ?_
      refine lv_iconst (v := 3) hx hb dX7_item_51 (by decide) ?_
      refine lv_bipush (v := 44) hx hb dX7_item_52 (by decide) ?_
      obtain ⟨⟨r54, x_at_o54, x_read_o54⟩, q54, hf⟩ := ob hf
      replace hf : _ = _ := hf
      refine k_i (wc := [(ax, .inr (7, [.ref ax_row, .ref ax_text, .int x_letters, .int (x_at + (1 : Int32)), .ref ax_read, .ref ax_undone, .int x_undos, .ref ax_order, .ref ax_dones, .int x_away, .int x_bestSet, .ref ax_aside, .ref ax_tapedWho, .ref ax_tapedTill, .int x_taped, .ref ax_kept, .int x_keeps])), (ax_text, .inl (cyI, 200, .inl x_text)), (ax_read, .inl (cyI, 28, .inl x_read))]) (wr := []) (w1 := [(ax, .inr (7, [.ref ax_row, .ref ax_text, .int x_letters, .int x_at_o54, .ref ax_read, .ref ax_undone, .int x_undos, .ref ax_order, .ref ax_dones, .int x_away, .int x_bestSet, .ref ax_aside, .ref ax_tapedWho, .ref ax_tapedTill, .int x_taped, .ref ax_kept, .int x_keeps])), (ax_text, .inl (cyI, 200, .inl x_text)), (ax_read, .inl (cyI, 28, .inl x_read_o54))]) (wn := [(ax, .inr (7, [.ref ax_row, .ref ax_text, .int x_letters, .int x_at_o54, .ref ax_read, .ref ax_undone, .int x_undos, .ref ax_order, .ref ax_dones, .int x_away, .int x_bestSet, .ref ax_aside, .ref ax_tapedWho, .ref ax_tapedTill, .int x_taped, .ref ax_kept, .int x_keeps])), (ax_text, .inl (cyI, 200, .inl x_text)), (ax_read, .inl (cyI, 28, .inl x_read_o54))]) (va_runV (As := [.int ((4 : Int32) + ((3 : Int32) * (x_read 0))), .int (0 : Int32), .int (3 : Int32), .int (44 : Int32)]) (rest := []) ⟨hx, hb, hml, hown, hts⟩ (c_X7_number l D cyI cyC cyS H.size ax ax_row ax_text ax_read ax_undone ax_order ax_dones ax_aside ax_tapedWho ax_tapedTill ax_kept x_letters (x_at + (1 : Int32)) x_undos x_away x_bestSet x_taped x_keeps x_text x_read ((4 : Int32) + ((3 : Int32) * (x_read 0))) (0 : Int32) (3 : Int32) (44 : Int32) q54) (cwV 4 hts gX7_item_X7_number rfl rfl rfl (by decide +kernel) ⟨Nat.le_of_ble_eq_true rfl, Nat.le_of_ble_eq_true rfl⟩) (preV (ci := 7) hK (hP.subm (ws' := [(ax, .inr (7, [.ref ax_row, .ref ax_text, .int x_letters, .int (x_at + (1 : Int32)), .ref ax_read, .ref ax_undone, .int x_undos, .ref ax_order, .ref ax_dones, .int x_away, .int x_bestSet, .ref ax_aside, .ref ax_tapedWho, .ref ax_tapedTill, .int x_taped, .ref ax_kept, .int x_keeps])), (ax_text, .inl (cyI, 200, .inl x_text)), (ax_read, .inl (cyI, 28, .inl x_read))]) [0, 1, 2] rfl) (hD.sub (ws' := [(ax, .inr (7, [.ref ax_row, .ref ax_text, .int x_letters, .int (x_at + (1 : Int32)), .ref ax_read, .ref ax_undone, .int x_undos, .ref ax_order, .ref ax_dones, .int x_away, .int x_bestSet, .ref ax_aside, .ref ax_tapedWho, .ref ax_tapedTill, .int x_taped, .ref ax_kept, .int x_keeps])), (ax_text, .inl (cyI, 200, .inl x_text)), (ax_read, .inl (cyI, 28, .inl x_read))]) [0, 1, 2] (by decide) rfl) rfl rfl) rfl rfl hl.1 rfl (lv_room (Nat.le_of_ble_eq_true rfl)) dX7_item_54 ⟨Nat.le_of_ble_eq_true rfl, Nat.le_of_ble_eq_true rfl⟩) hP hD hS hA [0, 1, 2] [] [0, 1, 2] rfl rfl rfl (by decide) (by decide) (by decide) (fun H locs hP hD hS => ?_)
      refine lv_if_eq (tgt := 90) hx hb dX7_item_57 (by decide) (fun c57 => ?_) (fun c57 => ?_)
      · replace hf := ip c57 hf
        refine lv_iconst (v := 0) hx hb dX7_item_90 (by decide) ?_
        simp only [Option.some.injEq, Prod.mk.injEq] at hf
        obtain ⟨rfl, rfl, rfl⟩ := hf
        exact W.zret hx hb hr rfl (fun t ht hW => ⟨⟨_, (), rfl, rfl, by rw [ht]; exact hP, hD⟩, hS.F ht⟩) hS.2.2 dX7_item_91
      · replace hf := iq c57 hf
        refine lv_aload_n hx hb dX7_item_60 rfl (lv_at hl 2 rfl) ?_
        refine lv_iload_n hx hb dX7_item_61 rfl (lv_at hl 0 rfl) ?_
        refine lv_iconst (v := 1) hx hb dX7_item_62 (by decide) ?_
        refine lv_iadd hx hb dX7_item_63 ?_
        refine lv_iconst (v := 1) hx hb dX7_item_64 (by decide) ?_
        refine lv_bipush (v := 20) hx hb dX7_item_65 (by decide) ?_
        refine lv_bipush (v := 44) hx hb dX7_item_67 (by decide) ?_
        obtain ⟨⟨r69, x_at_o69, x_read_o69⟩, q69, hf⟩ := ob hf
        replace hf : _ = _ := hf
        refine k_i (wc := [(ax, .inr (7, [.ref ax_row, .ref ax_text, .int x_letters, .int x_at_o54, .ref ax_read, .ref ax_undone, .int x_undos, .ref ax_order, .ref ax_dones, .int x_away, .int x_bestSet, .ref ax_aside, .ref ax_tapedWho, .ref ax_tapedTill, .int x_taped, .ref ax_kept, .int x_keeps])), (ax_text, .inl (cyI, 200, .inl x_text)), (ax_read, .inl (cyI, 28, .inl x_read_o54))]) (wr := []) (w1 := [(ax, .inr (7, [.ref ax_row, .ref ax_text, .int x_letters, .int x_at_o69, .ref ax_read, .ref ax_undone, .int x_undos, .ref ax_order, .ref ax_dones, .int x_away, .int x_bestSet, .ref ax_aside, .ref ax_tapedWho, .ref ax_tapedTill, .int x_taped, .ref ax_kept, .int x_keeps])), (ax_text, .inl (cyI, 200, .inl x_text)), (ax_read, .inl (cyI, 28, .inl x_read_o69))]) (wn := [(ax, .inr (7, [.ref ax_row, .ref ax_text, .int x_letters, .int x_at_o69, .ref ax_read, .ref ax_undone, .int x_undos, .ref ax_order, .ref ax_dones, .int x_away, .int x_bestSet, .ref ax_aside, .ref ax_tapedWho, .ref ax_tapedTill, .int x_taped, .ref ax_kept, .int x_keeps])), (ax_text, .inl (cyI, 200, .inl x_text)), (ax_read, .inl (cyI, 28, .inl x_read_o69))]) (va_runV (As := [.int (((4 : Int32) + ((3 : Int32) * (x_read 0))) + (1 : Int32)), .int (1 : Int32), .int (20 : Int32), .int (44 : Int32)]) (rest := []) ⟨hx, hb, hml, hown, hts⟩ (c_X7_number l D cyI cyC cyS H.size ax ax_row ax_text ax_read ax_undone ax_order ax_dones ax_aside ax_tapedWho ax_tapedTill ax_kept x_letters x_at_o54 x_undos x_away x_bestSet x_taped x_keeps x_text x_read_o54 (((4 : Int32) + ((3 : Int32) * (x_read 0))) + (1 : Int32)) (1 : Int32) (20 : Int32) (44 : Int32) q69) (cwV 4 hts gX7_item_X7_number rfl rfl rfl (by decide +kernel) ⟨Nat.le_of_ble_eq_true rfl, Nat.le_of_ble_eq_true rfl⟩) (preV (ci := 7) hK (hP.subm (ws' := [(ax, .inr (7, [.ref ax_row, .ref ax_text, .int x_letters, .int x_at_o54, .ref ax_read, .ref ax_undone, .int x_undos, .ref ax_order, .ref ax_dones, .int x_away, .int x_bestSet, .ref ax_aside, .ref ax_tapedWho, .ref ax_tapedTill, .int x_taped, .ref ax_kept, .int x_keeps])), (ax_text, .inl (cyI, 200, .inl x_text)), (ax_read, .inl (cyI, 28, .inl x_read_o54))]) [0, 1, 2] rfl) (hD.sub (ws' := [(ax, .inr (7, [.ref ax_row, .ref ax_text, .int x_letters, .int x_at_o54, .ref ax_read, .ref ax_undone, .int x_undos, .ref ax_order, .ref ax_dones, .int x_away, .int x_bestSet, .ref ax_aside, .ref ax_tapedWho, .ref ax_tapedTill, .int x_taped, .ref ax_kept, .int x_keeps])), (ax_text, .inl (cyI, 200, .inl x_text)), (ax_read, .inl (cyI, 28, .inl x_read_o54))]) [0, 1, 2] (by decide) rfl) rfl rfl) rfl rfl hl.1 rfl (lv_room (Nat.le_of_ble_eq_true rfl)) dX7_item_69 ⟨Nat.le_of_ble_eq_true rfl, Nat.le_of_ble_eq_true rfl⟩) hP hD hS hA [0, 1, 2] [] [0, 1, 2] rfl rfl rfl (by decide) (by decide) (by decide) (fun H locs hP hD hS => ?_)
        refine lv_if_eq (tgt := 90) hx hb dX7_item_72 (by decide) (fun c72 => ?_) (fun c72 => ?_)
        · replace hf := ip c72 hf
          refine lv_iconst (v := 0) hx hb dX7_item_90 (by decide) ?_
          simp only [Option.some.injEq, Prod.mk.injEq] at hf
          obtain ⟨rfl, rfl, rfl⟩ := hf
          exact W.zret hx hb hr rfl (fun t ht hW => ⟨⟨_, (), rfl, rfl, by rw [ht]; exact hP, hD⟩, hS.F ht⟩) hS.2.2 dX7_item_91
        · replace hf := iq c72 hf
          refine lv_aload_n hx hb dX7_item_75 rfl (lv_at hl 2 rfl) ?_
          refine lv_iload_n hx hb dX7_item_76 rfl (lv_at hl 0 rfl) ?_
          refine lv_iconst (v := 2) hx hb dX7_item_77 (by decide) ?_
          refine lv_iadd hx hb dX7_item_78 ?_
          refine lv_iconst (v := 1) hx hb dX7_item_79 (by decide) ?_
          refine lv_bipush (v := 9) hx hb dX7_item_80 (by decide) ?_
          refine lv_bipush (v := 59) hx hb dX7_item_82 (by decide) ?_
          obtain ⟨⟨r84, x_at_o84, x_read_o84⟩, q84, hf⟩ := ob hf
          replace hf : _ = _ := hf
          refine k_i (wc := [(ax, .inr (7, [.ref ax_row, .ref ax_text, .int x_letters, .int x_at_o69, .ref ax_read, .ref ax_undone, .int x_undos, .ref ax_order, .ref ax_dones, .int x_away, .int x_bestSet, .ref ax_aside, .ref ax_tapedWho, .ref ax_tapedTill, .int x_taped, .ref ax_kept, .int x_keeps])), (ax_text, .inl (cyI, 200, .inl x_text)), (ax_read, .inl (cyI, 28, .inl x_read_o69))]) (wr := []) (w1 := [(ax, .inr (7, [.ref ax_row, .ref ax_text, .int x_letters, .int x_at_o84, .ref ax_read, .ref ax_undone, .int x_undos, .ref ax_order, .ref ax_dones, .int x_away, .int x_bestSet, .ref ax_aside, .ref ax_tapedWho, .ref ax_tapedTill, .int x_taped, .ref ax_kept, .int x_keeps])), (ax_text, .inl (cyI, 200, .inl x_text)), (ax_read, .inl (cyI, 28, .inl x_read_o84))]) (wn := [(ax, .inr (7, [.ref ax_row, .ref ax_text, .int x_letters, .int x_at_o84, .ref ax_read, .ref ax_undone, .int x_undos, .ref ax_order, .ref ax_dones, .int x_away, .int x_bestSet, .ref ax_aside, .ref ax_tapedWho, .ref ax_tapedTill, .int x_taped, .ref ax_kept, .int x_keeps])), (ax_text, .inl (cyI, 200, .inl x_text)), (ax_read, .inl (cyI, 28, .inl x_read_o84))]) (va_runV (As := [.int (((4 : Int32) + ((3 : Int32) * (x_read 0))) + (2 : Int32)), .int (1 : Int32), .int (9 : Int32), .int (59 : Int32)]) (rest := []) ⟨hx, hb, hml, hown, hts⟩ (c_X7_number l D cyI cyC cyS H.size ax ax_row ax_text ax_read ax_undone ax_order ax_dones ax_aside ax_tapedWho ax_tapedTill ax_kept x_letters x_at_o69 x_undos x_away x_bestSet x_taped x_keeps x_text x_read_o69 (((4 : Int32) + ((3 : Int32) * (x_read 0))) + (2 : Int32)) (1 : Int32) (9 : Int32) (59 : Int32) q84) (cwV 4 hts gX7_item_X7_number rfl rfl rfl (by decide +kernel) ⟨Nat.le_of_ble_eq_true rfl, Nat.le_of_ble_eq_true rfl⟩) (preV (ci := 7) hK (hP.subm (ws' := [(ax, .inr (7, [.ref ax_row, .ref ax_text, .int x_letters, .int x_at_o69, .ref ax_read, .ref ax_undone, .int x_undos, .ref ax_order, .ref ax_dones, .int x_away, .int x_bestSet, .ref ax_aside, .ref ax_tapedWho, .ref ax_tapedTill, .int x_taped, .ref ax_kept, .int x_keeps])), (ax_text, .inl (cyI, 200, .inl x_text)), (ax_read, .inl (cyI, 28, .inl x_read_o69))]) [0, 1, 2] rfl) (hD.sub (ws' := [(ax, .inr (7, [.ref ax_row, .ref ax_text, .int x_letters, .int x_at_o69, .ref ax_read, .ref ax_undone, .int x_undos, .ref ax_order, .ref ax_dones, .int x_away, .int x_bestSet, .ref ax_aside, .ref ax_tapedWho, .ref ax_tapedTill, .int x_taped, .ref ax_kept, .int x_keeps])), (ax_text, .inl (cyI, 200, .inl x_text)), (ax_read, .inl (cyI, 28, .inl x_read_o69))]) [0, 1, 2] (by decide) rfl) rfl rfl) rfl rfl hl.1 rfl (lv_room (Nat.le_of_ble_eq_true rfl)) dX7_item_84 ⟨Nat.le_of_ble_eq_true rfl, Nat.le_of_ble_eq_true rfl⟩) hP hD hS hA [0, 1, 2] [] [0, 1, 2] rfl rfl rfl (by decide) (by decide) (by decide) (fun H locs hP hD hS => ?_)
          refine lv_if_ne (tgt := 92) hx hb dX7_item_87 (by decide) (fun c87 => ?_) (fun c87 => ?_)
          · replace hf := iq c87 hf
            refine lv_aload_n hx hb dX7_item_92 rfl (lv_at hl 2 rfl) ?_
            refine va_get (C := RX7) (T := TX7) (N := 17) hx hb hts inX7 hown hK.1 hP 0 rfl rfl 4 (by decide) f16 (fun _ h9 => h9) rfl dX7_item_93 ?_
            refine lv_iconst (v := 0) hx hb dX7_item_96 (by decide) ?_
            refine lv_dup2_11 hx hb dX7_item_97 rfl rfl ?_
            refine a_ild hx hb hK hP 2 rfl (vin (by decide)) 0 (by decide) dX7_item_98 ?_
            refine lv_iconst (v := 1) hx hb dX7_item_99 (by decide) ?_
            refine lv_iadd hx hb dX7_item_100 ?_
            refine a_ist (wn := [(ax, .inr (7, [.ref ax_row, .ref ax_text, .int x_letters, .int x_at_o84, .ref ax_read, .ref ax_undone, .int x_undos, .ref ax_order, .ref ax_dones, .int x_away, .int x_bestSet, .ref ax_aside, .ref ax_tapedWho, .ref ax_tapedTill, .int x_taped, .ref ax_kept, .int x_keeps])), (ax_text, .inl (cyI, 200, .inl x_text)), (ax_read, .inl (cyI, 28, .inl (upd x_read_o84 0 ((x_read_o84 0) + (1 : Int32)))))]) hx hb hK hP hD hS 2 rfl (vin (by decide)) 0 (by decide) rfl dX7_item_101 (fun H locs hP hD hS => ?_)
            refine lv_iconst (v := 1) hx hb dX7_item_102 (by decide) ?_
            simp only [Option.some.injEq, Prod.mk.injEq] at hf
            obtain ⟨rfl, rfl, rfl⟩ := hf
            exact W.zret hx hb hr rfl (fun t ht hW => ⟨⟨_, (), rfl, rfl, by rw [ht]; exact hP, hD⟩, hS.F ht⟩) hS.2.2 dX7_item_103
          · replace hf := ip c87 hf
            refine lv_iconst (v := 0) hx hb dX7_item_90 (by decide) ?_
            simp only [Option.some.injEq, Prod.mk.injEq] at hf
            obtain ⟨rfl, rfl, rfl⟩ := hf
            exact W.zret hx hb hr rfl (fun t ht hW => ⟨⟨_, (), rfl, rfl, by rw [ht]; exact hP, hD⟩, hS.F ht⟩) hS.2.2 dX7_item_91
abbrev rX7_fault : Room := { frames := 4, cells := 0, slots := 0, locals := 93 }
set_option maxHeartbeats 4000000 in
set_option maxRecDepth 100000 in
theorem c_X7_fault (l : Launch) (D : va_G) (cyI cyC cyS : ClassId) (sz : Nat) (ax : Nat) (ax_row : Nat) (ax_text : Nat) (ax_read : Nat) (ax_undone : Nat) (ax_order : Nat) (ax_dones : Nat) (ax_aside : Nat) (ax_tapedWho : Nat) (ax_tapedTill : Nat) (ax_kept : Nat) (x_letters : Int32) (x_at : Int32) (x_undos : Int32) (x_away : Int32) (x_bestSet : Int32) (x_taped : Int32) (x_keeps : Int32) (x_read : Nat → Int32) (x_text : Nat → Int32) {r : Int32} {o_x_at : Int32} {o_x_read : Nat → Int32} (hf : S_X7_fault x_letters x_read x_text = some (r, o_x_at, o_x_read)) : Met l yX7_fault wsX7_fault rX7_fault (Cpre [.ref ax] D cyI cyC cyS sz [(ax, .inr (7, [.ref ax_row, .ref ax_text, .int x_letters, .int x_at, .ref ax_read, .ref ax_undone, .int x_undos, .ref ax_order, .ref ax_dones, .int x_away, .int x_bestSet, .ref ax_aside, .ref ax_tapedWho, .ref ax_tapedTill, .int x_taped, .ref ax_kept, .int x_keeps])), (ax_read, .inl (cyI, 28, .inl x_read)), (ax_text, .inl (cyI, 200, .inl x_text))]) (CQi r D [(ax, .inr (7, [.ref ax_row, .ref ax_text, .int x_letters, .int o_x_at, .ref ax_read, .ref ax_undone, .int x_undos, .ref ax_order, .ref ax_dones, .int x_away, .int x_bestSet, .ref ax_aside, .ref ax_tapedWho, .ref ax_tapedTill, .int x_taped, .ref ax_kept, .int x_keeps])), (ax_read, .inl (cyI, 28, .inl o_x_read)), (ax_text, .inl (cyI, 200, .inl x_text))] (va_A [(ax, .inr (7, [.ref ax_row, .ref ax_text, .int x_letters, .int x_at, .ref ax_read, .ref ax_undone, .int x_undos, .ref ax_order, .ref ax_dones, .int x_away, .int x_bestSet, .ref ax_aside, .ref ax_tapedWho, .ref ax_tapedTill, .int x_taped, .ref ax_kept, .int x_keeps])), (ax_read, .inl (cyI, 28, .inl x_read)), (ax_text, .inl (cyI, 200, .inl x_text))] sz)) 0 0 (va_A [(ax, .inr (7, [.ref ax_row, .ref ax_text, .int x_letters, .int x_at, .ref ax_read, .ref ax_undone, .int x_undos, .ref ax_order, .ref ax_dones, .int x_away, .int x_bestSet, .ref ax_aside, .ref ax_tapedWho, .ref ax_tapedTill, .int x_taped, .ref ax_kept, .int x_keeps])), (ax_read, .inl (cyI, 28, .inl x_read)), (ax_text, .inl (cyI, 200, .inl x_text))] sz) := by
  refine Met.ofW (cc := cX7_fault) (maxL := 2) (ret := (some .int)) (by decide) rfl ?_
  intro p e s m args below meth c s₁ B hml hv
  obtain ⟨rfl, hsz, hP, hK, hD0⟩ := hv
  have hx := B.exec
  have hb := B.bytes
  have hr := B.returns
  have hts := atoms_spec (ws := wsX7_fault) B.pre
  have hown : s.vm.findClass RX7 = some m.cls := findClass_of_methodNamed B.named
  have hlocks := B.notSynchronized
  subst hsz
  have hD := hD0.self (sz := s.heap.size)
  generalize hAe : va_A [(ax, .inr (7, [.ref ax_row, .ref ax_text, .int x_letters, .int x_at, .ref ax_read, .ref ax_undone, .int x_undos, .ref ax_order, .ref ax_dones, .int x_away, .int x_bestSet, .ref ax_aside, .ref ax_tapedWho, .ref ax_tapedTill, .int x_taped, .ref ax_kept, .int x_keeps])), (ax_read, .inl (cyI, 28, .inl x_read)), (ax_text, .inl (cyI, 200, .inl x_text))] s.heap.size = A at hD ⊢
  have hA : ∀ q : Nat, s.heap.size ≤ q → A q := fun q h => by rw [← hAe]; exact Or.inr h
  have hS : va_S A s.heap s.heap [] := va_S.rf
  have hl := lv_entry ([.ref ax]) (n := 2) (Nat.le_of_ble_eq_true rfl)
  rw [lg_entry_eq]
  generalize (lg_sl ([.ref ax]) ++ List.replicate (2 - (lg_sl ([.ref ax])).length) Slot.unset).toArray = ls at hl ⊢
  have hl : lv_has ls 2 [(0, .ref ax)] := hl
  have f66 := hts (.fieldLink RX7 66 "SecondTillModel" "at" "I") (by decide +kernel)
  have inX7 : ∀ w ∈ u_ws RX7 TX7 17, w ∈ wsX7_fault := by decide +kernel
  have f62 := hts (.fieldLink RX7 62 "SecondTillModel" "letters" "I") (by decide +kernel)
  have f16 := hts (.fieldLink RX7 16 "SecondTillModel" "read" "[I") (by decide +kernel)
  unfold S_X7_fault at hf
  have hP : va_P D vwCl [(ax, .inr (7, [.ref ax_row, .ref ax_text, .int x_letters, .int x_at, .ref ax_read, .ref ax_undone, .int x_undos, .ref ax_order, .ref ax_dones, .int x_away, .int x_bestSet, .ref ax_aside, .ref ax_tapedWho, .ref ax_tapedTill, .int x_taped, .ref ax_kept, .int x_keeps])), (ax_read, .inl (cyI, 28, .inl x_read)), (ax_text, .inl (cyI, 200, .inl x_text))] s.heap := hP
  suffices hgo : ∀ (H : Heap) (locs : List Loc), va_P D vwCl [(ax, .inr (7, [.ref ax_row, .ref ax_text, .int x_letters, .int x_at, .ref ax_read, .ref ax_undone, .int x_undos, .ref ax_order, .ref ax_dones, .int x_away, .int x_bestSet, .ref ax_aside, .ref ax_tapedWho, .ref ax_tapedTill, .int x_taped, .ref ax_kept, .int x_keeps])), (ax_read, .inl (cyI, 28, .inl x_read)), (ax_text, .inl (cyI, 200, .inl x_text))] H → va_S A s.heap H locs → W p l e rX7_fault s m (([.ref ax] : List Value).toArray) below meth c H locs 0 0 (MQ below (CQi r D [(ax, .inr (7, [.ref ax_row, .ref ax_text, .int x_letters, .int o_x_at, .ref ax_read, .ref ax_undone, .int x_undos, .ref ax_order, .ref ax_dones, .int x_away, .int x_bestSet, .ref ax_aside, .ref ax_tapedWho, .ref ax_tapedTill, .int x_taped, .ref ax_kept, .int x_keeps])), (ax_read, .inl (cyI, 28, .inl o_x_read)), (ax_text, .inl (cyI, 200, .inl x_text))] A) (([.ref ax] : List Value).toArray) s 0 0 A) (F0 m 0 ls []) from hgo _ _ hP hS
  clear hP hS
  intro H locs hP hS
  refine lv_iconst (v := 0) hx hb dX7_fault_0 (by decide) ?_
  refine lv_istore_n (lv' := [(1, .int (0 : Int32)), (0, .ref ax)]) hx hb dX7_fault_1 rfl hl (by decide) rfl (fun ls hl => ?_)
  have hL2 : ∀ (n2 : Nat) (x_at : Int32) (i1 : Int32) (x_read : Nat → Int32) (H : Heap) (locs : List Loc) (ls : Array Slot), va_P D vwCl [(ax, .inr (7, [.ref ax_row, .ref ax_text, .int x_letters, .int x_at, .ref ax_read, .ref ax_undone, .int x_undos, .ref ax_order, .ref ax_dones, .int x_away, .int x_bestSet, .ref ax_aside, .ref ax_tapedWho, .ref ax_tapedTill, .int x_taped, .ref ax_kept, .int x_keeps])), (ax_read, .inl (cyI, 28, .inl x_read)), (ax_text, .inl (cyI, 200, .inl x_text))] H → va_D A [(ax, .inr (7, [.ref ax_row, .ref ax_text, .int x_letters, .int x_at, .ref ax_read, .ref ax_undone, .int x_undos, .ref ax_order, .ref ax_dones, .int x_away, .int x_bestSet, .ref ax_aside, .ref ax_tapedWho, .ref ax_tapedTill, .int x_taped, .ref ax_kept, .int x_keeps])), (ax_read, .inl (cyI, 28, .inl x_read)), (ax_text, .inl (cyI, 200, .inl x_text))] → va_S A s.heap H locs → lv_has ls 2 [(0, .ref ax), (1, .int i1)] → S_X7_fault_L2 x_letters x_text n2 i1 x_read = some (r, o_x_at, o_x_read) → W p l e rX7_fault s m (([.ref ax] : List Value).toArray) below meth c H locs 0 0 (MQ below (CQi r D [(ax, .inr (7, [.ref ax_row, .ref ax_text, .int x_letters, .int o_x_at, .ref ax_read, .ref ax_undone, .int x_undos, .ref ax_order, .ref ax_dones, .int x_away, .int x_bestSet, .ref ax_aside, .ref ax_tapedWho, .ref ax_tapedTill, .int x_taped, .ref ax_kept, .int x_keeps])), (ax_read, .inl (cyI, 28, .inl o_x_read)), (ax_text, .inl (cyI, 200, .inl x_text))] A) (([.ref ax] : List Value).toArray) s 0 0 A) (F0 m 2 ls []) := by
    intro n2
    induction n2 with
    | zero => intro x_at i1 x_read H locs ls hP hD hS hl hf; exact absurd hf (by simp [S_X7_fault_L2])
    | succ n2 ih2 =>
      intro x_at i1 x_read H locs ls hP hD hS hl hf
      rw [S_X7_fault_L2] at hf
      refine lv_iload_n hx hb dX7_fault_2 rfl (lv_at hl 1 rfl) ?_
      refine lv_bipush (v := 28) hx hb dX7_fault_3 (by decide) ?_
      refine lv_icmp_ge (tgt := 34) hx hb dX7_fault_5 (by decide) (fun c5 => ?_) (fun c5 => ?_)
      · replace hf := ip c5 hf
        refine lv_aload_n hx hb dX7_fault_34 rfl (lv_at hl 0 rfl) ?_
        refine lv_iconst (v := 0) hx hb dX7_fault_35 (by decide) ?_
        refine a_put (C := RX7) (T := TX7) (N := 17) (wn := [(ax, .inr (7, [.ref ax_row, .ref ax_text, .int x_letters, .int (0 : Int32), .ref ax_read, .ref ax_undone, .int x_undos, .ref ax_order, .ref ax_dones, .int x_away, .int x_bestSet, .ref ax_aside, .ref ax_tapedWho, .ref ax_tapedTill, .int x_taped, .ref ax_kept, .int x_keeps])), (ax_read, .inl (cyI, 28, .inl x_read)), (ax_text, .inl (cyI, 200, .inl x_text))]) hx hb hts inX7 tyX7 tyX7_ok nmX7 hown hK hP hD hS 0 rfl rfl 3 (by decide) f66 (fun _ h9 => h9) rfl rfl (Nat.le_of_ble_eq_true rfl) rfl dX7_fault_36 (fun H locs hP hD hS => ?_)
        have hL39 : ∀ (n39 : Nat) (x_at : Int32) (x_read : Nat → Int32) (H : Heap) (locs : List Loc) (ls : Array Slot), va_P D vwCl [(ax, .inr (7, [.ref ax_row, .ref ax_text, .int x_letters, .int x_at, .ref ax_read, .ref ax_undone, .int x_undos, .ref ax_order, .ref ax_dones, .int x_away, .int x_bestSet, .ref ax_aside, .ref ax_tapedWho, .ref ax_tapedTill, .int x_taped, .ref ax_kept, .int x_keeps])), (ax_read, .inl (cyI, 28, .inl x_read)), (ax_text, .inl (cyI, 200, .inl x_text))] H → va_D A [(ax, .inr (7, [.ref ax_row, .ref ax_text, .int x_letters, .int x_at, .ref ax_read, .ref ax_undone, .int x_undos, .ref ax_order, .ref ax_dones, .int x_away, .int x_bestSet, .ref ax_aside, .ref ax_tapedWho, .ref ax_tapedTill, .int x_taped, .ref ax_kept, .int x_keeps])), (ax_read, .inl (cyI, 28, .inl x_read)), (ax_text, .inl (cyI, 200, .inl x_text))] → va_S A s.heap H locs → lv_has ls 2 [(0, .ref ax)] → S_X7_fault_L39 x_letters x_text n39 x_at x_read = some (r, o_x_at, o_x_read) → W p l e rX7_fault s m (([.ref ax] : List Value).toArray) below meth c H locs 0 0 (MQ below (CQi r D [(ax, .inr (7, [.ref ax_row, .ref ax_text, .int x_letters, .int o_x_at, .ref ax_read, .ref ax_undone, .int x_undos, .ref ax_order, .ref ax_dones, .int x_away, .int x_bestSet, .ref ax_aside, .ref ax_tapedWho, .ref ax_tapedTill, .int x_taped, .ref ax_kept, .int x_keeps])), (ax_read, .inl (cyI, 28, .inl o_x_read)), (ax_text, .inl (cyI, 200, .inl x_text))] A) (([.ref ax] : List Value).toArray) s 0 0 A) (F0 m 39 ls []) := by
          intro n39
          induction n39 with
          | zero => intro x_at x_read H locs ls hP hD hS hl hf; exact absurd hf (by simp [S_X7_fault_L39])
          | succ n39 ih39 =>
            intro x_at x_read H locs ls hP hD hS hl hf
            rw [S_X7_fault_L39] at hf
            refine lv_aload_n hx hb dX7_fault_39 rfl (lv_at hl 0 rfl) ?_
            refine va_get (C := RX7) (T := TX7) (N := 17) hx hb hts inX7 hown hK.1 hP 0 rfl rfl 3 (by decide) f66 (fun _ h9 => h9) rfl dX7_fault_40 ?_
            refine lv_aload_n hx hb dX7_fault_43 rfl (lv_at hl 0 rfl) ?_
            refine va_get (C := RX7) (T := TX7) (N := 17) hx hb hts inX7 hown hK.1 hP 0 rfl rfl 2 (by decide) f62 (fun _ h9 => h9) rfl dX7_fault_44 ?_
            refine lv_icmp_ge (tgt := 67) hx hb dX7_fault_47 (by decide) (fun c47 => ?_) (fun c47 => ?_)
            · replace hf := ip c47 hf
              refine lv_bipush (v := -4) hx hb dX7_fault_67 (by decide) ?_
              simp only [Option.some.injEq, Prod.mk.injEq] at hf
              obtain ⟨rfl, rfl, rfl⟩ := hf
              exact W.iret hx hb hr (fun t ht hW => ⟨⟨_, (), rfl, rfl, by rw [ht]; exact hP, hD⟩, hS.F ht⟩) hS.2.2 dX7_fault_69
            · replace hf := iq c47 hf
              refine lv_aload_n hx hb dX7_fault_50 rfl (lv_at hl 0 rfl) ?_
              refine va_get (C := RX7) (T := TX7) (N := 17) hx hb hts inX7 hown hK.1 hP 0 rfl rfl 3 (by decide) f66 (fun _ h9 => h9) rfl dX7_fault_51 ?_
              refine lv_istore_n (lv' := [(1, .int x_at), (0, .ref ax)]) hx hb dX7_fault_54 rfl hl (by decide) rfl (fun ls hl => ?_)
              refine lv_aload_n hx hb dX7_fault_55 rfl (lv_at hl 1 rfl) ?_
              obtain ⟨⟨r56, x_at_o56, x_read_o56⟩, q56, hf⟩ := ob hf
              replace hf : _ = _ := hf
              refine k_i (wc := [(ax, .inr (7, [.ref ax_row, .ref ax_text, .int x_letters, .int x_at, .ref ax_read, .ref ax_undone, .int x_undos, .ref ax_order, .ref ax_dones, .int x_away, .int x_bestSet, .ref ax_aside, .ref ax_tapedWho, .ref ax_tapedTill, .int x_taped, .ref ax_kept, .int x_keeps])), (ax_text, .inl (cyI, 200, .inl x_text)), (ax_read, .inl (cyI, 28, .inl x_read))]) (wr := []) (w1 := [(ax, .inr (7, [.ref ax_row, .ref ax_text, .int x_letters, .int x_at_o56, .ref ax_read, .ref ax_undone, .int x_undos, .ref ax_order, .ref ax_dones, .int x_away, .int x_bestSet, .ref ax_aside, .ref ax_tapedWho, .ref ax_tapedTill, .int x_taped, .ref ax_kept, .int x_keeps])), (ax_text, .inl (cyI, 200, .inl x_text)), (ax_read, .inl (cyI, 28, .inl x_read_o56))]) (wn := [(ax, .inr (7, [.ref ax_row, .ref ax_text, .int x_letters, .int x_at_o56, .ref ax_read, .ref ax_undone, .int x_undos, .ref ax_order, .ref ax_dones, .int x_away, .int x_bestSet, .ref ax_aside, .ref ax_tapedWho, .ref ax_tapedTill, .int x_taped, .ref ax_kept, .int x_keeps])), (ax_read, .inl (cyI, 28, .inl x_read_o56)), (ax_text, .inl (cyI, 200, .inl x_text))]) (va_runV (As := []) (rest := []) ⟨hx, hb, hml, hown, hts⟩ (c_X7_item l D cyI cyC cyS H.size ax ax_row ax_text ax_read ax_undone ax_order ax_dones ax_aside ax_tapedWho ax_tapedTill ax_kept x_letters x_at x_undos x_away x_bestSet x_taped x_keeps x_text x_read q56) (cwV 0 hts gX7_fault_X7_item rfl rfl rfl (by decide +kernel) ⟨Nat.le_of_ble_eq_true rfl, Nat.le_of_ble_eq_true rfl⟩) (preV (ci := 7) hK (hP.subm (ws' := [(ax, .inr (7, [.ref ax_row, .ref ax_text, .int x_letters, .int x_at, .ref ax_read, .ref ax_undone, .int x_undos, .ref ax_order, .ref ax_dones, .int x_away, .int x_bestSet, .ref ax_aside, .ref ax_tapedWho, .ref ax_tapedTill, .int x_taped, .ref ax_kept, .int x_keeps])), (ax_text, .inl (cyI, 200, .inl x_text)), (ax_read, .inl (cyI, 28, .inl x_read))]) [0, 2, 1] rfl) (hD.sub (ws' := [(ax, .inr (7, [.ref ax_row, .ref ax_text, .int x_letters, .int x_at, .ref ax_read, .ref ax_undone, .int x_undos, .ref ax_order, .ref ax_dones, .int x_away, .int x_bestSet, .ref ax_aside, .ref ax_tapedWho, .ref ax_tapedTill, .int x_taped, .ref ax_kept, .int x_keeps])), (ax_text, .inl (cyI, 200, .inl x_text)), (ax_read, .inl (cyI, 28, .inl x_read))]) [0, 2, 1] (by decide) rfl) rfl rfl) rfl rfl hl.1 rfl (lv_room (Nat.le_of_ble_eq_true rfl)) dX7_fault_56 ⟨Nat.le_of_ble_eq_true rfl, Nat.le_of_ble_eq_true rfl⟩) hP hD hS hA [0, 2, 1] [] [0, 2, 1] rfl rfl rfl (by decide) (by decide) (by decide) (fun H locs hP hD hS => ?_)
              refine lv_if_ne (tgt := 64) hx hb dX7_fault_59 (by decide) (fun c59 => ?_) (fun c59 => ?_)
              · replace hf := iq c59 hf
                refine lv_goto (tgt := 39) hx hb dX7_fault_64 (by decide) ?_
                exact ih39 x_at_o56 x_read_o56 _ _ _ hP hD hS (lv_sub hl [1] rfl) hf
              · replace hf := ip c59 hf
                refine lv_iload_n hx hb dX7_fault_62 rfl (lv_at hl 0 rfl) ?_
                simp only [Option.some.injEq, Prod.mk.injEq] at hf
                obtain ⟨rfl, rfl, rfl⟩ := hf
                exact W.iret hx hb hr (fun t ht hW => ⟨⟨_, (), rfl, rfl, by rw [ht]; exact hP, hD⟩, hS.F ht⟩) hS.2.2 dX7_fault_63
        exact hL39 300 (0 : Int32) x_read _ _ _ hP hD hS (lv_sub hl [0] rfl) hf
      · replace hf := iq c5 hf
        refine lv_aload_n hx hb dX7_fault_8 rfl (lv_at hl 0 rfl) ?_
        refine va_get (C := RX7) (T := TX7) (N := 17) hx hb hts inX7 hown hK.1 hP 0 rfl rfl 4 (by decide) f16 (fun _ h9 => h9) rfl dX7_fault_9 ?_
        refine lv_iload_n hx hb dX7_fault_12 rfl (lv_at hl 1 rfl) ?_
        refine lv_iload_n hx hb dX7_fault_13 rfl (lv_at hl 1 rfl) ?_
        have hJ27 : ∀ (s0_27 : Int32) (H : Heap) (locs : List Loc) (ls : Array Slot), va_P D vwCl [(ax, .inr (7, [.ref ax_row, .ref ax_text, .int x_letters, .int x_at, .ref ax_read, .ref ax_undone, .int x_undos, .ref ax_order, .ref ax_dones, .int x_away, .int x_bestSet, .ref ax_aside, .ref ax_tapedWho, .ref ax_tapedTill, .int x_taped, .ref ax_kept, .int x_keeps])), (ax_read, .inl (cyI, 28, .inl x_read)), (ax_text, .inl (cyI, 200, .inl x_text))] H → va_D A [(ax, .inr (7, [.ref ax_row, .ref ax_text, .int x_letters, .int x_at, .ref ax_read, .ref ax_undone, .int x_undos, .ref ax_order, .ref ax_dones, .int x_away, .int x_bestSet, .ref ax_aside, .ref ax_tapedWho, .ref ax_tapedTill, .int x_taped, .ref ax_kept, .int x_keeps])), (ax_read, .inl (cyI, 28, .inl x_read)), (ax_text, .inl (cyI, 200, .inl x_text))] → va_S A s.heap H locs → lv_has ls 2 [(0, .ref ax), (1, .int i1)] → (if i1 < 0 ∨ 28 ≤ i1.toNatClampNeg then none else
((S_X7_fault_L2 x_letters x_text n2) (i1 + (1 : Int32)) (upd x_read i1.toNatClampNeg s0_27))) = some (r, o_x_at, o_x_read) → W p l e rX7_fault s m (([.ref ax] : List Value).toArray) below meth c H locs 0 0 (MQ below (CQi r D [(ax, .inr (7, [.ref ax_row, .ref ax_text, .int x_letters, .int o_x_at, .ref ax_read, .ref ax_undone, .int x_undos, .ref ax_order, .ref ax_dones, .int x_away, .int x_bestSet, .ref ax_aside, .ref ax_tapedWho, .ref ax_tapedTill, .int x_taped, .ref ax_kept, .int x_keeps])), (ax_read, .inl (cyI, 28, .inl o_x_read)), (ax_text, .inl (cyI, 200, .inl x_text))] A) (([.ref ax] : List Value).toArray) s 0 0 A) (F0 m 27 ls [.int s0_27, .int i1, .ref ax_read]) := by
          intro s0_27 H locs ls hP hD hS hl hf
          obtain ⟨z27, hf⟩ := oi hf
          refine a_ist (wn := [(ax, .inr (7, [.ref ax_row, .ref ax_text, .int x_letters, .int x_at, .ref ax_read, .ref ax_undone, .int x_undos, .ref ax_order, .ref ax_dones, .int x_away, .int x_bestSet, .ref ax_aside, .ref ax_tapedWho, .ref ax_tapedTill, .int x_taped, .ref ax_kept, .int x_keeps])), (ax_read, .inl (cyI, 28, .inl (upd x_read i1.toNatClampNeg s0_27))), (ax_text, .inl (cyI, 200, .inl x_text))]) hx hb hK hP hD hS 1 rfl z27 i1.toNatClampNeg rfl rfl dX7_fault_27 (fun H locs hP hD hS => ?_)
          refine lv_iinc (v := i1 + (1 : Int32)) (lv' := [(1, .int (i1 + (1 : Int32))), (0, .ref ax)]) hx hb dX7_fault_28 hl (k := 1) rfl rfl (by decide) rfl (fun ls hl => ?_)
          refine lv_goto (tgt := 2) hx hb dX7_fault_31 (by decide) ?_
          exact ih2 x_at (i1 + (1 : Int32)) (upd x_read i1.toNatClampNeg s0_27) _ _ _ hP hD hS (lv_sub hl [1, 0] rfl) hf
        replace hf := jn_h hf
        have hJ26 : ∀ (H : Heap) (locs : List Loc) (ls : Array Slot), va_P D vwCl [(ax, .inr (7, [.ref ax_row, .ref ax_text, .int x_letters, .int x_at, .ref ax_read, .ref ax_undone, .int x_undos, .ref ax_order, .ref ax_dones, .int x_away, .int x_bestSet, .ref ax_aside, .ref ax_tapedWho, .ref ax_tapedTill, .int x_taped, .ref ax_kept, .int x_keeps])), (ax_read, .inl (cyI, 28, .inl x_read)), (ax_text, .inl (cyI, 200, .inl x_text))] H → va_D A [(ax, .inr (7, [.ref ax_row, .ref ax_text, .int x_letters, .int x_at, .ref ax_read, .ref ax_undone, .int x_undos, .ref ax_order, .ref ax_dones, .int x_away, .int x_bestSet, .ref ax_aside, .ref ax_tapedWho, .ref ax_tapedTill, .int x_taped, .ref ax_kept, .int x_keeps])), (ax_read, .inl (cyI, 28, .inl x_read)), (ax_text, .inl (cyI, 200, .inl x_text))] → va_S A s.heap H locs → lv_has ls 2 [(0, .ref ax), (1, .int i1)] → ((fun (s0_27 : Int32) => (if i1 < 0 ∨ 28 ≤ i1.toNatClampNeg then none else ((S_X7_fault_L2 x_letters x_text n2) (i1 + (1 : Int32)) (upd x_read i1.toNatClampNeg s0_27)))) (0 : Int32)) = some (r, o_x_at, o_x_read) → W p l e rX7_fault s m (([.ref ax] : List Value).toArray) below meth c H locs 0 0 (MQ below (CQi r D [(ax, .inr (7, [.ref ax_row, .ref ax_text, .int x_letters, .int o_x_at, .ref ax_read, .ref ax_undone, .int x_undos, .ref ax_order, .ref ax_dones, .int x_away, .int x_bestSet, .ref ax_aside, .ref ax_tapedWho, .ref ax_tapedTill, .int x_taped, .ref ax_kept, .int x_keeps])), (ax_read, .inl (cyI, 28, .inl o_x_read)), (ax_text, .inl (cyI, 200, .inl x_text))] A) (([.ref ax] : List Value).toArray) s 0 0 A) (F0 m 26 ls [.int i1, .ref ax_read]) := by
          intro  H locs ls hP hD hS hl hf
          refine lv_iconst (v := 0) hx hb dX7_fault_26 (by decide) ?_
          exact hJ27 (0 : Int32) _ _ _ hP hD hS (lv_sub hl [0, 1] rfl) hf
        replace hf := jn_h hf
        refine lv_if_le (tgt := 26) hx hb dX7_fault_14 (by decide) (fun c14 => ?_) (fun c14 => ?_)
        · replace hf := ip c14 hf
          exact hJ26 _ _ _ hP hD hS (lv_sub hl [0, 1] rfl) hf
        · replace hf := iq c14 hf
          refine lv_iload_n hx hb dX7_fault_17 rfl (lv_at hl 1 rfl) ?_
          refine lv_iconst (v := 4) hx hb dX7_fault_18 (by decide) ?_
          refine lv_icmp_ge (tgt := 26) hx hb dX7_fault_19 (by decide) (fun c19 => ?_) (fun c19 => ?_)
          · replace hf := ip c19 hf
            exact hJ26 _ _ _ hP hD hS (lv_sub hl [0, 1] rfl) hf
          · replace hf := iq c19 hf
            refine lv_iconst (v := 2) hx hb dX7_fault_22 (by decide) ?_
            refine lv_goto (tgt := 27) hx hb dX7_fault_23 (by decide) ?_
            exact hJ27 (2 : Int32) _ _ _ hP hD hS (lv_sub hl [0, 1] rfl) hf
  exact hL2 300 x_at (0 : Int32) x_read _ _ _ hP hD hS (lv_sub hl [1, 0] rfl) hf
abbrev rX7_lay : Room := { frames := 5, cells := 0, slots := 0, locals := 114 }
set_option maxHeartbeats 4000000 in
set_option maxRecDepth 100000 in
theorem c_X7_lay (l : Launch) (D : va_G) (cyI cyC cyS : ClassId) (sz : Nat) (ax : Nat) (ax_row : Nat) (ax_text : Nat) (ax_read : Nat) (ax_undone : Nat) (ax_order : Nat) (ax_dones : Nat) (ax_aside : Nat) (ax_tapedWho : Nat) (ax_tapedTill : Nat) (ax_kept : Nat) (x_letters : Int32) (x_at : Int32) (x_undos : Int32) (x_away : Int32) (x_bestSet : Int32) (x_taped : Int32) (x_keeps : Int32) (x_read : Nat → Int32) (x_text : Nat → Int32) (x_row : Nat → Int32) {r : Int32} {o_x_at : Int32} {o_x_undos : Int32} {o_x_taped : Int32} {o_x_keeps : Int32} {o_x_read : Nat → Int32} {o_x_row : Nat → Int32} (hf : S_X7_lay x_letters x_undos x_taped x_keeps x_read x_text x_row = some (r, o_x_at, o_x_undos, o_x_taped, o_x_keeps, o_x_read, o_x_row)) : Met l yX7_lay wsX7_lay rX7_lay (Cpre [.ref ax] D cyI cyC cyS sz [(ax, .inr (7, [.ref ax_row, .ref ax_text, .int x_letters, .int x_at, .ref ax_read, .ref ax_undone, .int x_undos, .ref ax_order, .ref ax_dones, .int x_away, .int x_bestSet, .ref ax_aside, .ref ax_tapedWho, .ref ax_tapedTill, .int x_taped, .ref ax_kept, .int x_keeps])), (ax_read, .inl (cyI, 28, .inl x_read)), (ax_text, .inl (cyI, 200, .inl x_text)), (ax_row, .inl (cyI, 28, .inl x_row))]) (CQi r D [(ax, .inr (7, [.ref ax_row, .ref ax_text, .int x_letters, .int o_x_at, .ref ax_read, .ref ax_undone, .int o_x_undos, .ref ax_order, .ref ax_dones, .int x_away, .int x_bestSet, .ref ax_aside, .ref ax_tapedWho, .ref ax_tapedTill, .int o_x_taped, .ref ax_kept, .int o_x_keeps])), (ax_read, .inl (cyI, 28, .inl o_x_read)), (ax_text, .inl (cyI, 200, .inl x_text)), (ax_row, .inl (cyI, 28, .inl o_x_row))] (va_A [(ax, .inr (7, [.ref ax_row, .ref ax_text, .int x_letters, .int x_at, .ref ax_read, .ref ax_undone, .int x_undos, .ref ax_order, .ref ax_dones, .int x_away, .int x_bestSet, .ref ax_aside, .ref ax_tapedWho, .ref ax_tapedTill, .int x_taped, .ref ax_kept, .int x_keeps])), (ax_read, .inl (cyI, 28, .inl x_read)), (ax_text, .inl (cyI, 200, .inl x_text)), (ax_row, .inl (cyI, 28, .inl x_row))] sz)) 0 0 (va_A [(ax, .inr (7, [.ref ax_row, .ref ax_text, .int x_letters, .int x_at, .ref ax_read, .ref ax_undone, .int x_undos, .ref ax_order, .ref ax_dones, .int x_away, .int x_bestSet, .ref ax_aside, .ref ax_tapedWho, .ref ax_tapedTill, .int x_taped, .ref ax_kept, .int x_keeps])), (ax_read, .inl (cyI, 28, .inl x_read)), (ax_text, .inl (cyI, 200, .inl x_text)), (ax_row, .inl (cyI, 28, .inl x_row))] sz) := by
  refine Met.ofW (cc := cX7_lay) (maxL := 2) (ret := (some .int)) (by decide) rfl ?_
  intro p e s m args below meth c s₁ B hml hv
  obtain ⟨rfl, hsz, hP, hK, hD0⟩ := hv
  have hx := B.exec
  have hb := B.bytes
  have hr := B.returns
  have hts := atoms_spec (ws := wsX7_lay) B.pre
  have hown : s.vm.findClass RX7 = some m.cls := findClass_of_methodNamed B.named
  have hlocks := B.notSynchronized
  subst hsz
  have hD := hD0.self (sz := s.heap.size)
  generalize hAe : va_A [(ax, .inr (7, [.ref ax_row, .ref ax_text, .int x_letters, .int x_at, .ref ax_read, .ref ax_undone, .int x_undos, .ref ax_order, .ref ax_dones, .int x_away, .int x_bestSet, .ref ax_aside, .ref ax_tapedWho, .ref ax_tapedTill, .int x_taped, .ref ax_kept, .int x_keeps])), (ax_read, .inl (cyI, 28, .inl x_read)), (ax_text, .inl (cyI, 200, .inl x_text)), (ax_row, .inl (cyI, 28, .inl x_row))] s.heap.size = A at hD ⊢
  have hA : ∀ q : Nat, s.heap.size ≤ q → A q := fun q h => by rw [← hAe]; exact Or.inr h
  have hS : va_S A s.heap s.heap [] := va_S.rf
  have hl := lv_entry ([.ref ax]) (n := 2) (Nat.le_of_ble_eq_true rfl)
  rw [lg_entry_eq]
  generalize (lg_sl ([.ref ax]) ++ List.replicate (2 - (lg_sl ([.ref ax])).length) Slot.unset).toArray = ls at hl ⊢
  have hl : lv_has ls 2 [(0, .ref ax)] := hl
  have f16 := hts (.fieldLink RX7 16 "SecondTillModel" "read" "[I") (by decide +kernel)
  have inX7 : ∀ w ∈ u_ws RX7 TX7 17, w ∈ wsX7_lay := by decide +kernel
  have f88 := hts (.fieldLink RX7 88 "SecondTillModel" "taped" "I") (by decide +kernel)
  have f91 := hts (.fieldLink RX7 91 "SecondTillModel" "undos" "I") (by decide +kernel)
  have f94 := hts (.fieldLink RX7 94 "SecondTillModel" "keeps" "I") (by decide +kernel)
  have f7 := hts (.fieldLink RX7 7 "SecondTillModel" "row" "[I") (by decide +kernel)
  unfold S_X7_lay at hf
  have hP : va_P D vwCl [(ax, .inr (7, [.ref ax_row, .ref ax_text, .int x_letters, .int x_at, .ref ax_read, .ref ax_undone, .int x_undos, .ref ax_order, .ref ax_dones, .int x_away, .int x_bestSet, .ref ax_aside, .ref ax_tapedWho, .ref ax_tapedTill, .int x_taped, .ref ax_kept, .int x_keeps])), (ax_read, .inl (cyI, 28, .inl x_read)), (ax_text, .inl (cyI, 200, .inl x_text)), (ax_row, .inl (cyI, 28, .inl x_row))] s.heap := hP
  suffices hgo : ∀ (H : Heap) (locs : List Loc), va_P D vwCl [(ax, .inr (7, [.ref ax_row, .ref ax_text, .int x_letters, .int x_at, .ref ax_read, .ref ax_undone, .int x_undos, .ref ax_order, .ref ax_dones, .int x_away, .int x_bestSet, .ref ax_aside, .ref ax_tapedWho, .ref ax_tapedTill, .int x_taped, .ref ax_kept, .int x_keeps])), (ax_read, .inl (cyI, 28, .inl x_read)), (ax_text, .inl (cyI, 200, .inl x_text)), (ax_row, .inl (cyI, 28, .inl x_row))] H → va_S A s.heap H locs → W p l e rX7_lay s m (([.ref ax] : List Value).toArray) below meth c H locs 0 0 (MQ below (CQi r D [(ax, .inr (7, [.ref ax_row, .ref ax_text, .int x_letters, .int o_x_at, .ref ax_read, .ref ax_undone, .int o_x_undos, .ref ax_order, .ref ax_dones, .int x_away, .int x_bestSet, .ref ax_aside, .ref ax_tapedWho, .ref ax_tapedTill, .int o_x_taped, .ref ax_kept, .int o_x_keeps])), (ax_read, .inl (cyI, 28, .inl o_x_read)), (ax_text, .inl (cyI, 200, .inl x_text)), (ax_row, .inl (cyI, 28, .inl o_x_row))] A) (([.ref ax] : List Value).toArray) s 0 0 A) (F0 m 0 ls []) from hgo _ _ hP hS
  clear hP hS
  intro H locs hP hS
  refine lv_aload_n hx hb dX7_lay_0 rfl (lv_at hl 0 rfl) ?_
  obtain ⟨⟨r1, x_at_o1, x_read_o1⟩, q1, hf⟩ := ob hf
  replace hf : _ = _ := hf
  refine k_i (wc := [(ax, .inr (7, [.ref ax_row, .ref ax_text, .int x_letters, .int x_at, .ref ax_read, .ref ax_undone, .int x_undos, .ref ax_order, .ref ax_dones, .int x_away, .int x_bestSet, .ref ax_aside, .ref ax_tapedWho, .ref ax_tapedTill, .int x_taped, .ref ax_kept, .int x_keeps])), (ax_read, .inl (cyI, 28, .inl x_read)), (ax_text, .inl (cyI, 200, .inl x_text))]) (wr := [(ax_row, .inl (cyI, 28, .inl x_row))]) (w1 := [(ax, .inr (7, [.ref ax_row, .ref ax_text, .int x_letters, .int x_at_o1, .ref ax_read, .ref ax_undone, .int x_undos, .ref ax_order, .ref ax_dones, .int x_away, .int x_bestSet, .ref ax_aside, .ref ax_tapedWho, .ref ax_tapedTill, .int x_taped, .ref ax_kept, .int x_keeps])), (ax_read, .inl (cyI, 28, .inl x_read_o1)), (ax_text, .inl (cyI, 200, .inl x_text))]) (wn := [(ax, .inr (7, [.ref ax_row, .ref ax_text, .int x_letters, .int x_at_o1, .ref ax_read, .ref ax_undone, .int x_undos, .ref ax_order, .ref ax_dones, .int x_away, .int x_bestSet, .ref ax_aside, .ref ax_tapedWho, .ref ax_tapedTill, .int x_taped, .ref ax_kept, .int x_keeps])), (ax_read, .inl (cyI, 28, .inl x_read_o1)), (ax_text, .inl (cyI, 200, .inl x_text)), (ax_row, .inl (cyI, 28, .inl x_row))]) (va_runV (As := []) (rest := []) ⟨hx, hb, hml, hown, hts⟩ (c_X7_fault l D cyI cyC cyS H.size ax ax_row ax_text ax_read ax_undone ax_order ax_dones ax_aside ax_tapedWho ax_tapedTill ax_kept x_letters x_at x_undos x_away x_bestSet x_taped x_keeps x_read x_text q1) (cwV 0 hts gX7_lay_X7_fault rfl rfl rfl (by decide +kernel) ⟨Nat.le_of_ble_eq_true rfl, Nat.le_of_ble_eq_true rfl⟩) (preV (ci := 7) hK (hP.subm (ws' := [(ax, .inr (7, [.ref ax_row, .ref ax_text, .int x_letters, .int x_at, .ref ax_read, .ref ax_undone, .int x_undos, .ref ax_order, .ref ax_dones, .int x_away, .int x_bestSet, .ref ax_aside, .ref ax_tapedWho, .ref ax_tapedTill, .int x_taped, .ref ax_kept, .int x_keeps])), (ax_read, .inl (cyI, 28, .inl x_read)), (ax_text, .inl (cyI, 200, .inl x_text))]) [0, 1, 2] rfl) (hD.sub (ws' := [(ax, .inr (7, [.ref ax_row, .ref ax_text, .int x_letters, .int x_at, .ref ax_read, .ref ax_undone, .int x_undos, .ref ax_order, .ref ax_dones, .int x_away, .int x_bestSet, .ref ax_aside, .ref ax_tapedWho, .ref ax_tapedTill, .int x_taped, .ref ax_kept, .int x_keeps])), (ax_read, .inl (cyI, 28, .inl x_read)), (ax_text, .inl (cyI, 200, .inl x_text))]) [0, 1, 2] (by decide) rfl) rfl rfl) rfl rfl hl.1 rfl (lv_room (Nat.le_of_ble_eq_true rfl)) dX7_lay_1 ⟨Nat.le_of_ble_eq_true rfl, Nat.le_of_ble_eq_true rfl⟩) hP hD hS hA [0, 1, 2] [3] [1, 2, 3, 0] rfl rfl rfl (by decide) (by decide) (by decide) (fun H locs hP hD hS => ?_)
  refine lv_bipush (v := -4) hx hb dX7_lay_4 (by decide) ?_
  refine lv_icmp_ne (tgt := 18) hx hb dX7_lay_6 (by decide) (fun c6 => ?_) (fun c6 => ?_)
  · replace hf := iq c6 hf
    refine lv_bipush (v := -2) hx hb dX7_lay_18 (by decide) ?_
    simp only [Option.some.injEq, Prod.mk.injEq] at hf
    obtain ⟨rfl, rfl, rfl, rfl, rfl, rfl, rfl⟩ := hf
    exact W.iret hx hb hr (fun t ht hW => ⟨⟨_, (), rfl, rfl, by rw [ht]; exact hP, hD⟩, hS.F ht⟩) hS.2.2 dX7_lay_20
  · replace hf := ip c6 hf
    refine lv_aload_n hx hb dX7_lay_9 rfl (lv_at hl 0 rfl) ?_
    refine va_get (C := RX7) (T := TX7) (N := 17) hx hb hts inX7 hown hK.1 hP 0 rfl rfl 4 (by decide) f16 (fun _ h9 => h9) rfl dX7_lay_10 ?_
    refine lv_iconst (v := 0) hx hb dX7_lay_13 (by decide) ?_
    refine a_ild hx hb hK hP 1 rfl (vin (by decide)) 0 (by decide) dX7_lay_14 ?_
    refine lv_if_ne (tgt := 21) hx hb dX7_lay_15 (by decide) (fun c15 => ?_) (fun c15 => ?_)
    · replace hf := iq c15 hf
      refine lv_iconst (v := 0) hx hb dX7_lay_21 (by decide) ?_
      refine lv_istore_n (lv' := [(1, .int (0 : Int32)), (0, .ref ax)]) hx hb dX7_lay_22 rfl hl (by decide) rfl (fun ls hl => ?_)
      have hL23 : ∀ (n23 : Nat) (x_at : Int32) (x_undos : Int32) (x_taped : Int32) (x_keeps : Int32) (x_read : Nat → Int32) (i1 : Int32) (x_row : Nat → Int32) (H : Heap) (locs : List Loc) (ls : Array Slot), va_P D vwCl [(ax, .inr (7, [.ref ax_row, .ref ax_text, .int x_letters, .int x_at, .ref ax_read, .ref ax_undone, .int x_undos, .ref ax_order, .ref ax_dones, .int x_away, .int x_bestSet, .ref ax_aside, .ref ax_tapedWho, .ref ax_tapedTill, .int x_taped, .ref ax_kept, .int x_keeps])), (ax_read, .inl (cyI, 28, .inl x_read)), (ax_text, .inl (cyI, 200, .inl x_text)), (ax_row, .inl (cyI, 28, .inl x_row))] H → va_D A [(ax, .inr (7, [.ref ax_row, .ref ax_text, .int x_letters, .int x_at, .ref ax_read, .ref ax_undone, .int x_undos, .ref ax_order, .ref ax_dones, .int x_away, .int x_bestSet, .ref ax_aside, .ref ax_tapedWho, .ref ax_tapedTill, .int x_taped, .ref ax_kept, .int x_keeps])), (ax_read, .inl (cyI, 28, .inl x_read)), (ax_text, .inl (cyI, 200, .inl x_text)), (ax_row, .inl (cyI, 28, .inl x_row))] → va_S A s.heap H locs → lv_has ls 2 [(0, .ref ax), (1, .int i1)] → S_X7_lay_L23 x_at x_read n23 i1 x_row = some (r, o_x_at, o_x_undos, o_x_taped, o_x_keeps, o_x_read, o_x_row) → W p l e rX7_lay s m (([.ref ax] : List Value).toArray) below meth c H locs 0 0 (MQ below (CQi r D [(ax, .inr (7, [.ref ax_row, .ref ax_text, .int x_letters, .int o_x_at, .ref ax_read, .ref ax_undone, .int o_x_undos, .ref ax_order, .ref ax_dones, .int x_away, .int x_bestSet, .ref ax_aside, .ref ax_tapedWho, .ref ax_tapedTill, .int o_x_taped, .ref ax_kept, .int o_x_keeps])), (ax_read, .inl (cyI, 28, .inl o_x_read)), (ax_text, .inl (cyI, 200, .inl x_text)), (ax_row, .inl (cyI, 28, .inl o_x_row))] A) (([.ref ax] : List Value).toArray) s 0 0 A) (F0 m 23 ls []) := by
        intro n23
        induction n23 with
        | zero => intro x_at x_undos x_taped x_keeps x_read i1 x_row H locs ls hP hD hS hl hf; exact absurd hf (by simp [S_X7_lay_L23])
        | succ n23 ih23 =>
          intro x_at x_undos x_taped x_keeps x_read i1 x_row H locs ls hP hD hS hl hf
          rw [S_X7_lay_L23] at hf
          refine lv_iload_n hx hb dX7_lay_23 rfl (lv_at hl 1 rfl) ?_
          refine lv_bipush (v := 28) hx hb dX7_lay_24 (by decide) ?_
          refine lv_icmp_ge (tgt := 47) hx hb dX7_lay_26 (by decide) (fun c26 => ?_) (fun c26 => ?_)
          · replace hf := ip c26 hf
            refine lv_aload_n hx hb dX7_lay_47 rfl (lv_at hl 0 rfl) ?_
            refine lv_iconst (v := 0) hx hb dX7_lay_48 (by decide) ?_
            refine a_put (C := RX7) (T := TX7) (N := 17) (wn := [(ax, .inr (7, [.ref ax_row, .ref ax_text, .int x_letters, .int x_at, .ref ax_read, .ref ax_undone, .int x_undos, .ref ax_order, .ref ax_dones, .int x_away, .int x_bestSet, .ref ax_aside, .ref ax_tapedWho, .ref ax_tapedTill, .int (0 : Int32), .ref ax_kept, .int x_keeps])), (ax_read, .inl (cyI, 28, .inl x_read)), (ax_text, .inl (cyI, 200, .inl x_text)), (ax_row, .inl (cyI, 28, .inl x_row))]) hx hb hts inX7 tyX7 tyX7_ok nmX7 hown hK hP hD hS 0 rfl rfl 14 (by decide) f88 (fun _ h9 => h9) rfl rfl (Nat.le_of_ble_eq_true rfl) rfl dX7_lay_49 (fun H locs hP hD hS => ?_)
            refine lv_aload_n hx hb dX7_lay_52 rfl (lv_at hl 0 rfl) ?_
            refine lv_iconst (v := 0) hx hb dX7_lay_53 (by decide) ?_
            refine a_put (C := RX7) (T := TX7) (N := 17) (wn := [(ax, .inr (7, [.ref ax_row, .ref ax_text, .int x_letters, .int x_at, .ref ax_read, .ref ax_undone, .int (0 : Int32), .ref ax_order, .ref ax_dones, .int x_away, .int x_bestSet, .ref ax_aside, .ref ax_tapedWho, .ref ax_tapedTill, .int (0 : Int32), .ref ax_kept, .int x_keeps])), (ax_read, .inl (cyI, 28, .inl x_read)), (ax_text, .inl (cyI, 200, .inl x_text)), (ax_row, .inl (cyI, 28, .inl x_row))]) hx hb hts inX7 tyX7 tyX7_ok nmX7 hown hK hP hD hS 0 rfl rfl 6 (by decide) f91 (fun _ h9 => h9) rfl rfl (Nat.le_of_ble_eq_true rfl) rfl dX7_lay_54 (fun H locs hP hD hS => ?_)
            refine lv_aload_n hx hb dX7_lay_57 rfl (lv_at hl 0 rfl) ?_
            refine lv_iconst (v := 0) hx hb dX7_lay_58 (by decide) ?_
            refine a_put (C := RX7) (T := TX7) (N := 17) (wn := [(ax, .inr (7, [.ref ax_row, .ref ax_text, .int x_letters, .int x_at, .ref ax_read, .ref ax_undone, .int (0 : Int32), .ref ax_order, .ref ax_dones, .int x_away, .int x_bestSet, .ref ax_aside, .ref ax_tapedWho, .ref ax_tapedTill, .int (0 : Int32), .ref ax_kept, .int (0 : Int32)])), (ax_read, .inl (cyI, 28, .inl x_read)), (ax_text, .inl (cyI, 200, .inl x_text)), (ax_row, .inl (cyI, 28, .inl x_row))]) hx hb hts inX7 tyX7 tyX7_ok nmX7 hown hK hP hD hS 0 rfl rfl 16 (by decide) f94 (fun _ h9 => h9) rfl rfl (Nat.le_of_ble_eq_true rfl) rfl dX7_lay_59 (fun H locs hP hD hS => ?_)
            refine lv_aload_n hx hb dX7_lay_62 rfl (lv_at hl 0 rfl) ?_
            refine va_get (C := RX7) (T := TX7) (N := 17) hx hb hts inX7 hown hK.1 hP 0 rfl rfl 0 (by decide) f7 (fun _ h9 => h9) rfl dX7_lay_63 ?_
            refine lv_iconst (v := 0) hx hb dX7_lay_66 (by decide) ?_
            refine a_ild hx hb hK hP 3 rfl (vin (by decide)) 0 (by decide) dX7_lay_67 ?_
            simp only [Option.some.injEq, Prod.mk.injEq] at hf
            obtain ⟨rfl, rfl, rfl, rfl, rfl, rfl, rfl⟩ := hf
            exact W.iret hx hb hr (fun t ht hW => ⟨⟨_, (), rfl, rfl, by rw [ht]; exact hP, hD⟩, hS.F ht⟩) hS.2.2 dX7_lay_68
          · replace hf := iq c26 hf
            refine lv_aload_n hx hb dX7_lay_29 rfl (lv_at hl 0 rfl) ?_
            refine va_get (C := RX7) (T := TX7) (N := 17) hx hb hts inX7 hown hK.1 hP 0 rfl rfl 0 (by decide) f7 (fun _ h9 => h9) rfl dX7_lay_30 ?_
            refine lv_iload_n hx hb dX7_lay_33 rfl (lv_at hl 1 rfl) ?_
            refine lv_aload_n hx hb dX7_lay_34 rfl (lv_at hl 0 rfl) ?_
            refine va_get (C := RX7) (T := TX7) (N := 17) hx hb hts inX7 hown hK.1 hP 0 rfl rfl 4 (by decide) f16 (fun _ h9 => h9) rfl dX7_lay_35 ?_
            refine lv_iload_n hx hb dX7_lay_38 rfl (lv_at hl 1 rfl) ?_
            obtain ⟨z39, hf⟩ := oi hf
            refine a_ild hx hb hK hP 1 rfl z39 i1.toNatClampNeg rfl dX7_lay_39 ?_
            obtain ⟨z40, hf⟩ := oi hf
            refine a_ist (wn := [(ax, .inr (7, [.ref ax_row, .ref ax_text, .int x_letters, .int x_at, .ref ax_read, .ref ax_undone, .int x_undos, .ref ax_order, .ref ax_dones, .int x_away, .int x_bestSet, .ref ax_aside, .ref ax_tapedWho, .ref ax_tapedTill, .int x_taped, .ref ax_kept, .int x_keeps])), (ax_read, .inl (cyI, 28, .inl x_read)), (ax_text, .inl (cyI, 200, .inl x_text)), (ax_row, .inl (cyI, 28, .inl (upd x_row i1.toNatClampNeg (x_read i1.toNatClampNeg))))]) hx hb hK hP hD hS 3 rfl z40 i1.toNatClampNeg rfl rfl dX7_lay_40 (fun H locs hP hD hS => ?_)
            refine lv_iinc (v := i1 + (1 : Int32)) (lv' := [(1, .int (i1 + (1 : Int32))), (0, .ref ax)]) hx hb dX7_lay_41 hl (k := 1) rfl rfl (by decide) rfl (fun ls hl => ?_)
            refine lv_goto (tgt := 23) hx hb dX7_lay_44 (by decide) ?_
            exact ih23 x_at x_undos x_taped x_keeps x_read (i1 + (1 : Int32)) (upd x_row i1.toNatClampNeg (x_read i1.toNatClampNeg)) _ _ _ hP hD hS (lv_sub hl [1, 0] rfl) hf
      exact hL23 300 x_at_o1 x_undos x_taped x_keeps x_read_o1 (0 : Int32) x_row _ _ _ hP hD hS (lv_sub hl [1, 0] rfl) hf
    · replace hf := ip c15 hf
      refine lv_bipush (v := -2) hx hb dX7_lay_18 (by decide) ?_
      simp only [Option.some.injEq, Prod.mk.injEq] at hf
      obtain ⟨rfl, rfl, rfl, rfl, rfl, rfl, rfl⟩ := hf
      exact W.iret hx hb hr (fun t ht hW => ⟨⟨_, (), rfl, rfl, by rw [ht]; exact hP, hD⟩, hS.F ht⟩) hS.2.2 dX7_lay_20
abbrev rX7_notes : Room := { frames := 0, cells := 0, slots := 0, locals := 0 }
set_option maxHeartbeats 4000000 in
set_option maxRecDepth 100000 in
theorem c_X7_notes (l : Launch) (D : va_G) (cyI cyC cyS : ClassId) (sz : Nat) (ax : Nat) (ax_row : Nat) (ax_text : Nat) (ax_read : Nat) (ax_undone : Nat) (ax_order : Nat) (ax_dones : Nat) (ax_aside : Nat) (ax_tapedWho : Nat) (ax_tapedTill : Nat) (ax_kept : Nat) (x_letters : Int32) (x_at : Int32) (x_undos : Int32) (x_away : Int32) (x_bestSet : Int32) (x_taped : Int32) (x_keeps : Int32) (x_undone : Nat → Int32) (x_row : Nat → Int32) {o_x_undos : Int32} {o_x_undone : Nat → Int32} (hf : S_X7_notes x_undos x_undone x_row = some (o_x_undos, o_x_undone)) : Met l yX7_notes wsX7_notes rX7_notes (Cpre [.ref ax] D cyI cyC cyS sz [(ax, .inr (7, [.ref ax_row, .ref ax_text, .int x_letters, .int x_at, .ref ax_read, .ref ax_undone, .int x_undos, .ref ax_order, .ref ax_dones, .int x_away, .int x_bestSet, .ref ax_aside, .ref ax_tapedWho, .ref ax_tapedTill, .int x_taped, .ref ax_kept, .int x_keeps])), (ax_undone, .inl (cyI, 224, .inl x_undone)), (ax_row, .inl (cyI, 28, .inl x_row))]) (CQv D [(ax, .inr (7, [.ref ax_row, .ref ax_text, .int x_letters, .int x_at, .ref ax_read, .ref ax_undone, .int o_x_undos, .ref ax_order, .ref ax_dones, .int x_away, .int x_bestSet, .ref ax_aside, .ref ax_tapedWho, .ref ax_tapedTill, .int x_taped, .ref ax_kept, .int x_keeps])), (ax_undone, .inl (cyI, 224, .inl o_x_undone)), (ax_row, .inl (cyI, 28, .inl x_row))] (va_A [(ax, .inr (7, [.ref ax_row, .ref ax_text, .int x_letters, .int x_at, .ref ax_read, .ref ax_undone, .int x_undos, .ref ax_order, .ref ax_dones, .int x_away, .int x_bestSet, .ref ax_aside, .ref ax_tapedWho, .ref ax_tapedTill, .int x_taped, .ref ax_kept, .int x_keeps])), (ax_undone, .inl (cyI, 224, .inl x_undone)), (ax_row, .inl (cyI, 28, .inl x_row))] sz)) 0 0 (va_A [(ax, .inr (7, [.ref ax_row, .ref ax_text, .int x_letters, .int x_at, .ref ax_read, .ref ax_undone, .int x_undos, .ref ax_order, .ref ax_dones, .int x_away, .int x_bestSet, .ref ax_aside, .ref ax_tapedWho, .ref ax_tapedTill, .int x_taped, .ref ax_kept, .int x_keeps])), (ax_undone, .inl (cyI, 224, .inl x_undone)), (ax_row, .inl (cyI, 28, .inl x_row))] sz) := by
  refine Met.ofW (cc := cX7_notes) (maxL := 2) (ret := none) (by decide) rfl ?_
  intro p e s m args below meth c s₁ B hml hv
  obtain ⟨rfl, hsz, hP, hK, hD0⟩ := hv
  have hx := B.exec
  have hb := B.bytes
  have hr := B.returns
  have hts := atoms_spec (ws := wsX7_notes) B.pre
  have hown : s.vm.findClass RX7 = some m.cls := findClass_of_methodNamed B.named
  have hlocks := B.notSynchronized
  subst hsz
  have hD := hD0.self (sz := s.heap.size)
  generalize hAe : va_A [(ax, .inr (7, [.ref ax_row, .ref ax_text, .int x_letters, .int x_at, .ref ax_read, .ref ax_undone, .int x_undos, .ref ax_order, .ref ax_dones, .int x_away, .int x_bestSet, .ref ax_aside, .ref ax_tapedWho, .ref ax_tapedTill, .int x_taped, .ref ax_kept, .int x_keeps])), (ax_undone, .inl (cyI, 224, .inl x_undone)), (ax_row, .inl (cyI, 28, .inl x_row))] s.heap.size = A at hD ⊢
  have hA : ∀ q : Nat, s.heap.size ≤ q → A q := fun q h => by rw [← hAe]; exact Or.inr h
  have hS : va_S A s.heap s.heap [] := va_S.rf
  have hl := lv_entry ([.ref ax]) (n := 2) (Nat.le_of_ble_eq_true rfl)
  rw [lg_entry_eq]
  generalize (lg_sl ([.ref ax]) ++ List.replicate (2 - (lg_sl ([.ref ax])).length) Slot.unset).toArray = ls at hl ⊢
  have hl : lv_has ls 2 [(0, .ref ax)] := hl
  have f91 := hts (.fieldLink RX7 91 "SecondTillModel" "undos" "I") (by decide +kernel)
  have inX7 : ∀ w ∈ u_ws RX7 TX7 17, w ∈ wsX7_notes := by decide +kernel
  have f19 := hts (.fieldLink RX7 19 "SecondTillModel" "undone" "[I") (by decide +kernel)
  have f7 := hts (.fieldLink RX7 7 "SecondTillModel" "row" "[I") (by decide +kernel)
  unfold S_X7_notes at hf
  have hP : va_P D vwCl [(ax, .inr (7, [.ref ax_row, .ref ax_text, .int x_letters, .int x_at, .ref ax_read, .ref ax_undone, .int x_undos, .ref ax_order, .ref ax_dones, .int x_away, .int x_bestSet, .ref ax_aside, .ref ax_tapedWho, .ref ax_tapedTill, .int x_taped, .ref ax_kept, .int x_keeps])), (ax_undone, .inl (cyI, 224, .inl x_undone)), (ax_row, .inl (cyI, 28, .inl x_row))] s.heap := hP
  suffices hgo : ∀ (H : Heap) (locs : List Loc), va_P D vwCl [(ax, .inr (7, [.ref ax_row, .ref ax_text, .int x_letters, .int x_at, .ref ax_read, .ref ax_undone, .int x_undos, .ref ax_order, .ref ax_dones, .int x_away, .int x_bestSet, .ref ax_aside, .ref ax_tapedWho, .ref ax_tapedTill, .int x_taped, .ref ax_kept, .int x_keeps])), (ax_undone, .inl (cyI, 224, .inl x_undone)), (ax_row, .inl (cyI, 28, .inl x_row))] H → va_S A s.heap H locs → W p l e rX7_notes s m (([.ref ax] : List Value).toArray) below meth c H locs 0 0 (MQ below (CQv D [(ax, .inr (7, [.ref ax_row, .ref ax_text, .int x_letters, .int x_at, .ref ax_read, .ref ax_undone, .int o_x_undos, .ref ax_order, .ref ax_dones, .int x_away, .int x_bestSet, .ref ax_aside, .ref ax_tapedWho, .ref ax_tapedTill, .int x_taped, .ref ax_kept, .int x_keeps])), (ax_undone, .inl (cyI, 224, .inl o_x_undone)), (ax_row, .inl (cyI, 28, .inl x_row))] A) (([.ref ax] : List Value).toArray) s 0 0 A) (F0 m 0 ls []) from hgo _ _ hP hS
  clear hP hS
  intro H locs hP hS
  refine lv_aload_n hx hb dX7_notes_0 rfl (lv_at hl 0 rfl) ?_
  refine va_get (C := RX7) (T := TX7) (N := 17) hx hb hts inX7 hown hK.1 hP 0 rfl rfl 6 (by decide) f91 (fun _ h9 => h9) rfl dX7_notes_1 ?_
  refine lv_bipush (v := 8) hx hb dX7_notes_4 (by decide) ?_
  have hJ46 : ∀ (x_undos_46 : Int32) (x_undone_46 : Nat → Int32) (H : Heap) (locs : List Loc) (ls : Array Slot), va_P D vwCl [(ax, .inr (7, [.ref ax_row, .ref ax_text, .int x_letters, .int x_at, .ref ax_read, .ref ax_undone, .int x_undos_46, .ref ax_order, .ref ax_dones, .int x_away, .int x_bestSet, .ref ax_aside, .ref ax_tapedWho, .ref ax_tapedTill, .int x_taped, .ref ax_kept, .int x_keeps])), (ax_undone, .inl (cyI, 224, .inl x_undone_46)), (ax_row, .inl (cyI, 28, .inl x_row))] H → va_D A [(ax, .inr (7, [.ref ax_row, .ref ax_text, .int x_letters, .int x_at, .ref ax_read, .ref ax_undone, .int x_undos_46, .ref ax_order, .ref ax_dones, .int x_away, .int x_bestSet, .ref ax_aside, .ref ax_tapedWho, .ref ax_tapedTill, .int x_taped, .ref ax_kept, .int x_keeps])), (ax_undone, .inl (cyI, 224, .inl x_undone_46)), (ax_row, .inl (cyI, 28, .inl x_row))] → va_S A s.heap H locs → lv_has ls 2 [(0, .ref ax)] → (S_X7_notes_L48 x_undos_46 x_row 300 (0 : Int32) x_undone_46) = some (o_x_undos, o_x_undone) → W p l e rX7_notes s m (([.ref ax] : List Value).toArray) below meth c H locs 0 0 (MQ below (CQv D [(ax, .inr (7, [.ref ax_row, .ref ax_text, .int x_letters, .int x_at, .ref ax_read, .ref ax_undone, .int o_x_undos, .ref ax_order, .ref ax_dones, .int x_away, .int x_bestSet, .ref ax_aside, .ref ax_tapedWho, .ref ax_tapedTill, .int x_taped, .ref ax_kept, .int x_keeps])), (ax_undone, .inl (cyI, 224, .inl o_x_undone)), (ax_row, .inl (cyI, 28, .inl x_row))] A) (([.ref ax] : List Value).toArray) s 0 0 A) (F0 m 46 ls []) := by
    intro x_undos_46 x_undone_46 H locs ls hP hD hS hl hf
    refine lv_iconst (v := 0) hx hb dX7_notes_46 (by decide) ?_
    refine lv_istore_n (lv' := [(1, .int (0 : Int32)), (0, .ref ax)]) hx hb dX7_notes_47 rfl hl (by decide) rfl (fun ls hl => ?_)
    have hL48 : ∀ (n48 : Nat) (x_undos : Int32) (i1 : Int32) (x_undone : Nat → Int32) (H : Heap) (locs : List Loc) (ls : Array Slot), va_P D vwCl [(ax, .inr (7, [.ref ax_row, .ref ax_text, .int x_letters, .int x_at, .ref ax_read, .ref ax_undone, .int x_undos, .ref ax_order, .ref ax_dones, .int x_away, .int x_bestSet, .ref ax_aside, .ref ax_tapedWho, .ref ax_tapedTill, .int x_taped, .ref ax_kept, .int x_keeps])), (ax_undone, .inl (cyI, 224, .inl x_undone)), (ax_row, .inl (cyI, 28, .inl x_row))] H → va_D A [(ax, .inr (7, [.ref ax_row, .ref ax_text, .int x_letters, .int x_at, .ref ax_read, .ref ax_undone, .int x_undos, .ref ax_order, .ref ax_dones, .int x_away, .int x_bestSet, .ref ax_aside, .ref ax_tapedWho, .ref ax_tapedTill, .int x_taped, .ref ax_kept, .int x_keeps])), (ax_undone, .inl (cyI, 224, .inl x_undone)), (ax_row, .inl (cyI, 28, .inl x_row))] → va_S A s.heap H locs → lv_has ls 2 [(0, .ref ax), (1, .int i1)] → S_X7_notes_L48 x_undos x_row n48 i1 x_undone = some (o_x_undos, o_x_undone) → W p l e rX7_notes s m (([.ref ax] : List Value).toArray) below meth c H locs 0 0 (MQ below (CQv D [(ax, .inr (7, [.ref ax_row, .ref ax_text, .int x_letters, .int x_at, .ref ax_read, .ref ax_undone, .int o_x_undos, .ref ax_order, .ref ax_dones, .int x_away, .int x_bestSet, .ref ax_aside, .ref ax_tapedWho, .ref ax_tapedTill, .int x_taped, .ref ax_kept, .int x_keeps])), (ax_undone, .inl (cyI, 224, .inl o_x_undone)), (ax_row, .inl (cyI, 28, .inl x_row))] A) (([.ref ax] : List Value).toArray) s 0 0 A) (F0 m 48 ls []) := by
      intro n48
      induction n48 with
      | zero => intro x_undos i1 x_undone H locs ls hP hD hS hl hf; exact absurd hf (by simp [S_X7_notes_L48])
      | succ n48 ih48 =>
        intro x_undos i1 x_undone H locs ls hP hD hS hl hf
        rw [S_X7_notes_L48] at hf
        refine lv_iload_n hx hb dX7_notes_48 rfl (lv_at hl 1 rfl) ?_
        refine lv_bipush (v := 28) hx hb dX7_notes_49 (by decide) ?_
        refine lv_icmp_ge (tgt := 80) hx hb dX7_notes_51 (by decide) (fun c51 => ?_) (fun c51 => ?_)
        · replace hf := ip c51 hf
          refine lv_aload_n hx hb dX7_notes_80 rfl (lv_at hl 0 rfl) ?_
          refine lv_dup hx hb dX7_notes_81 rfl ?_
          refine va_get (C := RX7) (T := TX7) (N := 17) hx hb hts inX7 hown hK.1 hP 0 rfl rfl 6 (by decide) f91 (fun _ h9 => h9) rfl dX7_notes_82 ?_
          refine lv_iconst (v := 1) hx hb dX7_notes_85 (by decide) ?_
          refine lv_iadd hx hb dX7_notes_86 ?_
          refine a_put (C := RX7) (T := TX7) (N := 17) (wn := [(ax, .inr (7, [.ref ax_row, .ref ax_text, .int x_letters, .int x_at, .ref ax_read, .ref ax_undone, .int (x_undos + (1 : Int32)), .ref ax_order, .ref ax_dones, .int x_away, .int x_bestSet, .ref ax_aside, .ref ax_tapedWho, .ref ax_tapedTill, .int x_taped, .ref ax_kept, .int x_keeps])), (ax_undone, .inl (cyI, 224, .inl x_undone)), (ax_row, .inl (cyI, 28, .inl x_row))]) hx hb hts inX7 tyX7 tyX7_ok nmX7 hown hK hP hD hS 0 rfl rfl 6 (by decide) f91 (fun _ h9 => h9) rfl rfl (Nat.le_of_ble_eq_true rfl) rfl dX7_notes_87 (fun H locs hP hD hS => ?_)
          simp only [Option.some.injEq, Prod.mk.injEq] at hf
          obtain ⟨rfl, rfl⟩ := hf
          exact W.vret hx hb hr (fun t ht hW => ⟨⟨(), rfl, trivial, by rw [ht]; exact hP, hD⟩, hS.F ht⟩) hS.2.2 dX7_notes_90
        · replace hf := iq c51 hf
          refine lv_aload_n hx hb dX7_notes_54 rfl (lv_at hl 0 rfl) ?_
          refine va_get (C := RX7) (T := TX7) (N := 17) hx hb hts inX7 hown hK.1 hP 0 rfl rfl 5 (by decide) f19 (fun _ h9 => h9) rfl dX7_notes_55 ?_
          refine lv_bipush (v := 28) hx hb dX7_notes_58 (by decide) ?_
          refine lv_aload_n hx hb dX7_notes_60 rfl (lv_at hl 0 rfl) ?_
          refine va_get (C := RX7) (T := TX7) (N := 17) hx hb hts inX7 hown hK.1 hP 0 rfl rfl 6 (by decide) f91 (fun _ h9 => h9) rfl dX7_notes_61 ?_
          refine lv_imul hx hb dX7_notes_64 ?_
          refine lv_iload_n hx hb dX7_notes_65 rfl (lv_at hl 1 rfl) ?_
          refine lv_iadd hx hb dX7_notes_66 ?_
          refine lv_aload_n hx hb dX7_notes_67 rfl (lv_at hl 0 rfl) ?_
          refine va_get (C := RX7) (T := TX7) (N := 17) hx hb hts inX7 hown hK.1 hP 0 rfl rfl 0 (by decide) f7 (fun _ h9 => h9) rfl dX7_notes_68 ?_
          refine lv_iload_n hx hb dX7_notes_71 rfl (lv_at hl 1 rfl) ?_
          obtain ⟨z72, hf⟩ := oi hf
          refine a_ild hx hb hK hP 2 rfl z72 i1.toNatClampNeg rfl dX7_notes_72 ?_
          obtain ⟨z73, hf⟩ := oi hf
          refine a_ist (wn := [(ax, .inr (7, [.ref ax_row, .ref ax_text, .int x_letters, .int x_at, .ref ax_read, .ref ax_undone, .int x_undos, .ref ax_order, .ref ax_dones, .int x_away, .int x_bestSet, .ref ax_aside, .ref ax_tapedWho, .ref ax_tapedTill, .int x_taped, .ref ax_kept, .int x_keeps])), (ax_undone, .inl (cyI, 224, .inl (upd x_undone (((28 : Int32) * x_undos) + i1).toNatClampNeg (x_row i1.toNatClampNeg)))), (ax_row, .inl (cyI, 28, .inl x_row))]) hx hb hK hP hD hS 1 rfl z73 (((28 : Int32) * x_undos) + i1).toNatClampNeg rfl rfl dX7_notes_73 (fun H locs hP hD hS => ?_)
          refine lv_iinc (v := i1 + (1 : Int32)) (lv' := [(1, .int (i1 + (1 : Int32))), (0, .ref ax)]) hx hb dX7_notes_74 hl (k := 1) rfl rfl (by decide) rfl (fun ls hl => ?_)
          refine lv_goto (tgt := 48) hx hb dX7_notes_77 (by decide) ?_
          exact ih48 x_undos (i1 + (1 : Int32)) (upd x_undone (((28 : Int32) * x_undos) + i1).toNatClampNeg (x_row i1.toNatClampNeg)) _ _ _ hP hD hS (lv_sub hl [1, 0] rfl) hf
    exact hL48 300 x_undos_46 (0 : Int32) x_undone_46 _ _ _ hP hD hS (lv_sub hl [1, 0] rfl) hf
  replace hf := jn_h hf
  refine lv_icmp_ne (tgt := 46) hx hb dX7_notes_6 (by decide) (fun c6 => ?_) (fun c6 => ?_)
  · replace hf := iq c6 hf
    exact hJ46 x_undos x_undone _ _ _ hP hD hS (lv_sub hl [0] rfl) hf
  · replace hf := ip c6 hf
    refine lv_bipush (v := 28) hx hb dX7_notes_9 (by decide) ?_
    refine lv_istore_n (lv' := [(1, .int (28 : Int32)), (0, .ref ax)]) hx hb dX7_notes_11 rfl hl (by decide) rfl (fun ls hl => ?_)
    have hL12 : ∀ (n12 : Nat) (x_undos : Int32) (i1 : Int32) (x_undone : Nat → Int32) (H : Heap) (locs : List Loc) (ls : Array Slot), va_P D vwCl [(ax, .inr (7, [.ref ax_row, .ref ax_text, .int x_letters, .int x_at, .ref ax_read, .ref ax_undone, .int x_undos, .ref ax_order, .ref ax_dones, .int x_away, .int x_bestSet, .ref ax_aside, .ref ax_tapedWho, .ref ax_tapedTill, .int x_taped, .ref ax_kept, .int x_keeps])), (ax_undone, .inl (cyI, 224, .inl x_undone)), (ax_row, .inl (cyI, 28, .inl x_row))] H → va_D A [(ax, .inr (7, [.ref ax_row, .ref ax_text, .int x_letters, .int x_at, .ref ax_read, .ref ax_undone, .int x_undos, .ref ax_order, .ref ax_dones, .int x_away, .int x_bestSet, .ref ax_aside, .ref ax_tapedWho, .ref ax_tapedTill, .int x_taped, .ref ax_kept, .int x_keeps])), (ax_undone, .inl (cyI, 224, .inl x_undone)), (ax_row, .inl (cyI, 28, .inl x_row))] → va_S A s.heap H locs → lv_has ls 2 [(0, .ref ax), (1, .int i1)] → S_X7_notes_L12 (fun (x_undos_46 : Int32) (x_undone_46 : Nat → Int32) => (S_X7_notes_L48 x_undos_46 x_row 300 (0 : Int32) x_undone_46)) n12 i1 x_undone = some (o_x_undos, o_x_undone) → W p l e rX7_notes s m (([.ref ax] : List Value).toArray) below meth c H locs 0 0 (MQ below (CQv D [(ax, .inr (7, [.ref ax_row, .ref ax_text, .int x_letters, .int x_at, .ref ax_read, .ref ax_undone, .int o_x_undos, .ref ax_order, .ref ax_dones, .int x_away, .int x_bestSet, .ref ax_aside, .ref ax_tapedWho, .ref ax_tapedTill, .int x_taped, .ref ax_kept, .int x_keeps])), (ax_undone, .inl (cyI, 224, .inl o_x_undone)), (ax_row, .inl (cyI, 28, .inl x_row))] A) (([.ref ax] : List Value).toArray) s 0 0 A) (F0 m 12 ls []) := by
      intro n12
      induction n12 with
      | zero => intro x_undos i1 x_undone H locs ls hP hD hS hl hf; exact absurd hf (by simp [S_X7_notes_L12])
      | succ n12 ih12 =>
        intro x_undos i1 x_undone H locs ls hP hD hS hl hf
        rw [S_X7_notes_L12] at hf
        refine lv_iload_n hx hb dX7_notes_12 rfl (lv_at hl 1 rfl) ?_
        refine lv_sipush (v := 224) hx hb dX7_notes_13 (by decide) ?_
        refine lv_icmp_ge (tgt := 40) hx hb dX7_notes_16 (by decide) (fun c16 => ?_) (fun c16 => ?_)
        · replace hf := ip c16 hf
          refine lv_aload_n hx hb dX7_notes_40 rfl (lv_at hl 0 rfl) ?_
          refine lv_bipush (v := 7) hx hb dX7_notes_41 (by decide) ?_
          refine a_put (C := RX7) (T := TX7) (N := 17) (wn := [(ax, .inr (7, [.ref ax_row, .ref ax_text, .int x_letters, .int x_at, .ref ax_read, .ref ax_undone, .int (7 : Int32), .ref ax_order, .ref ax_dones, .int x_away, .int x_bestSet, .ref ax_aside, .ref ax_tapedWho, .ref ax_tapedTill, .int x_taped, .ref ax_kept, .int x_keeps])), (ax_undone, .inl (cyI, 224, .inl x_undone)), (ax_row, .inl (cyI, 28, .inl x_row))]) hx hb hts inX7 tyX7 tyX7_ok nmX7 hown hK hP hD hS 0 rfl rfl 6 (by decide) f91 (fun _ h9 => h9) rfl rfl (Nat.le_of_ble_eq_true rfl) rfl dX7_notes_43 (fun H locs hP hD hS => ?_)
          exact hJ46 (7 : Int32) x_undone _ _ _ hP hD hS (lv_sub hl [0] rfl) hf
        · replace hf := iq c16 hf
          refine lv_aload_n hx hb dX7_notes_19 rfl (lv_at hl 0 rfl) ?_
          refine va_get (C := RX7) (T := TX7) (N := 17) hx hb hts inX7 hown hK.1 hP 0 rfl rfl 5 (by decide) f19 (fun _ h9 => h9) rfl dX7_notes_20 ?_
          refine lv_iload_n hx hb dX7_notes_23 rfl (lv_at hl 1 rfl) ?_
          refine lv_bipush (v := 28) hx hb dX7_notes_24 (by decide) ?_
          refine lv_isub hx hb dX7_notes_26 ?_
          refine lv_aload_n hx hb dX7_notes_27 rfl (lv_at hl 0 rfl) ?_
          refine va_get (C := RX7) (T := TX7) (N := 17) hx hb hts inX7 hown hK.1 hP 0 rfl rfl 5 (by decide) f19 (fun _ h9 => h9) rfl dX7_notes_28 ?_
          refine lv_iload_n hx hb dX7_notes_31 rfl (lv_at hl 1 rfl) ?_
          obtain ⟨z32, hf⟩ := oi hf
          refine a_ild hx hb hK hP 1 rfl z32 i1.toNatClampNeg rfl dX7_notes_32 ?_
          obtain ⟨z33, hf⟩ := oi hf
          refine a_ist (wn := [(ax, .inr (7, [.ref ax_row, .ref ax_text, .int x_letters, .int x_at, .ref ax_read, .ref ax_undone, .int x_undos, .ref ax_order, .ref ax_dones, .int x_away, .int x_bestSet, .ref ax_aside, .ref ax_tapedWho, .ref ax_tapedTill, .int x_taped, .ref ax_kept, .int x_keeps])), (ax_undone, .inl (cyI, 224, .inl (upd x_undone (i1 - (28 : Int32)).toNatClampNeg (x_undone i1.toNatClampNeg)))), (ax_row, .inl (cyI, 28, .inl x_row))]) hx hb hK hP hD hS 1 rfl z33 (i1 - (28 : Int32)).toNatClampNeg rfl rfl dX7_notes_33 (fun H locs hP hD hS => ?_)
          refine lv_iinc (v := i1 + (1 : Int32)) (lv' := [(1, .int (i1 + (1 : Int32))), (0, .ref ax)]) hx hb dX7_notes_34 hl (k := 1) rfl rfl (by decide) rfl (fun ls hl => ?_)
          refine lv_goto (tgt := 12) hx hb dX7_notes_37 (by decide) ?_
          exact ih12 x_undos (i1 + (1 : Int32)) (upd x_undone (i1 - (28 : Int32)).toNatClampNeg (x_undone i1.toNatClampNeg)) _ _ _ hP hD hS (lv_sub hl [1, 0] rfl) hf
    exact hL12 300 x_undos (28 : Int32) x_undone _ _ _ hP hD hS (lv_sub hl [1, 0] rfl) hf
abbrev rX7_come : Room := { frames := 1, cells := 0, slots := 0, locals := 25 }
set_option maxHeartbeats 4000000 in
set_option maxRecDepth 100000 in
theorem c_X7_come (l : Launch) (D : va_G) (cyI cyC cyS : ClassId) (sz : Nat) (ax : Nat) (ax_row : Nat) (ax_text : Nat) (ax_read : Nat) (ax_undone : Nat) (ax_order : Nat) (ax_dones : Nat) (ax_aside : Nat) (ax_tapedWho : Nat) (ax_tapedTill : Nat) (ax_kept : Nat) (x_letters : Int32) (x_at : Int32) (x_undos : Int32) (x_away : Int32) (x_bestSet : Int32) (x_taped : Int32) (x_keeps : Int32) (x_row : Nat → Int32) (x_undone : Nat → Int32) (i1 : Int32) (i2 : Int32) (i3 : Int32) {r : Int32} {o_x_undos : Int32} {o_x_taped : Int32} {o_x_row : Nat → Int32} {o_x_undone : Nat → Int32} (hf : S_X7_come i1 i2 i3 x_undos x_taped x_row x_undone = some (r, o_x_undos, o_x_taped, o_x_row, o_x_undone)) : Met l yX7_come wsX7_come rX7_come (Cpre [.ref ax, .int i1, .int i2, .int i3] D cyI cyC cyS sz [(ax, .inr (7, [.ref ax_row, .ref ax_text, .int x_letters, .int x_at, .ref ax_read, .ref ax_undone, .int x_undos, .ref ax_order, .ref ax_dones, .int x_away, .int x_bestSet, .ref ax_aside, .ref ax_tapedWho, .ref ax_tapedTill, .int x_taped, .ref ax_kept, .int x_keeps])), (ax_row, .inl (cyI, 28, .inl x_row)), (ax_undone, .inl (cyI, 224, .inl x_undone))]) (CQi r D [(ax, .inr (7, [.ref ax_row, .ref ax_text, .int x_letters, .int x_at, .ref ax_read, .ref ax_undone, .int o_x_undos, .ref ax_order, .ref ax_dones, .int x_away, .int x_bestSet, .ref ax_aside, .ref ax_tapedWho, .ref ax_tapedTill, .int o_x_taped, .ref ax_kept, .int x_keeps])), (ax_row, .inl (cyI, 28, .inl o_x_row)), (ax_undone, .inl (cyI, 224, .inl o_x_undone))] (va_A [(ax, .inr (7, [.ref ax_row, .ref ax_text, .int x_letters, .int x_at, .ref ax_read, .ref ax_undone, .int x_undos, .ref ax_order, .ref ax_dones, .int x_away, .int x_bestSet, .ref ax_aside, .ref ax_tapedWho, .ref ax_tapedTill, .int x_taped, .ref ax_kept, .int x_keeps])), (ax_row, .inl (cyI, 28, .inl x_row)), (ax_undone, .inl (cyI, 224, .inl x_undone))] sz)) 0 0 (va_A [(ax, .inr (7, [.ref ax_row, .ref ax_text, .int x_letters, .int x_at, .ref ax_read, .ref ax_undone, .int x_undos, .ref ax_order, .ref ax_dones, .int x_away, .int x_bestSet, .ref ax_aside, .ref ax_tapedWho, .ref ax_tapedTill, .int x_taped, .ref ax_kept, .int x_keeps])), (ax_row, .inl (cyI, 28, .inl x_row)), (ax_undone, .inl (cyI, 224, .inl x_undone))] sz) := by
  refine Met.ofW (cc := cX7_come) (maxL := 4) (ret := (some .int)) (by decide) rfl ?_
  intro p e s m args below meth c s₁ B hml hv
  obtain ⟨rfl, hsz, hP, hK, hD0⟩ := hv
  have hx := B.exec
  have hb := B.bytes
  have hr := B.returns
  have hts := atoms_spec (ws := wsX7_come) B.pre
  have hown : s.vm.findClass RX7 = some m.cls := findClass_of_methodNamed B.named
  have hlocks := B.notSynchronized
  subst hsz
  have hD := hD0.self (sz := s.heap.size)
  generalize hAe : va_A [(ax, .inr (7, [.ref ax_row, .ref ax_text, .int x_letters, .int x_at, .ref ax_read, .ref ax_undone, .int x_undos, .ref ax_order, .ref ax_dones, .int x_away, .int x_bestSet, .ref ax_aside, .ref ax_tapedWho, .ref ax_tapedTill, .int x_taped, .ref ax_kept, .int x_keeps])), (ax_row, .inl (cyI, 28, .inl x_row)), (ax_undone, .inl (cyI, 224, .inl x_undone))] s.heap.size = A at hD ⊢
  have hA : ∀ q : Nat, s.heap.size ≤ q → A q := fun q h => by rw [← hAe]; exact Or.inr h
  have hS : va_S A s.heap s.heap [] := va_S.rf
  have hl := lv_entry ([.ref ax, .int i1, .int i2, .int i3]) (n := 4) (Nat.le_of_ble_eq_true rfl)
  rw [lg_entry_eq]
  generalize (lg_sl ([.ref ax, .int i1, .int i2, .int i3]) ++ List.replicate (4 - (lg_sl ([.ref ax, .int i1, .int i2, .int i3])).length) Slot.unset).toArray = ls at hl ⊢
  have hl : lv_has ls 4 [(0, .ref ax), (1, .int i1), (2, .int i2), (3, .int i3)] := hl
  have k52 := hts (.constantLong RX7 52 (3)) (by decide +kernel)
  have k97 := hts (.constantLong RX7 97 (20)) (by decide +kernel)
  have k99 := hts (.constantLong RX7 99 (9)) (by decide +kernel)
  have f7 := hts (.fieldLink RX7 7 "SecondTillModel" "row" "[I") (by decide +kernel)
  have inX7 : ∀ w ∈ u_ws RX7 TX7 17, w ∈ wsX7_come := by decide +kernel
  have f88 := hts (.fieldLink RX7 88 "SecondTillModel" "taped" "I") (by decide +kernel)
  unfold S_X7_come at hf
  have hP : va_P D vwCl [(ax, .inr (7, [.ref ax_row, .ref ax_text, .int x_letters, .int x_at, .ref ax_read, .ref ax_undone, .int x_undos, .ref ax_order, .ref ax_dones, .int x_away, .int x_bestSet, .ref ax_aside, .ref ax_tapedWho, .ref ax_tapedTill, .int x_taped, .ref ax_kept, .int x_keeps])), (ax_row, .inl (cyI, 28, .inl x_row)), (ax_undone, .inl (cyI, 224, .inl x_undone))] s.heap := hP
  suffices hgo : ∀ (H : Heap) (locs : List Loc), va_P D vwCl [(ax, .inr (7, [.ref ax_row, .ref ax_text, .int x_letters, .int x_at, .ref ax_read, .ref ax_undone, .int x_undos, .ref ax_order, .ref ax_dones, .int x_away, .int x_bestSet, .ref ax_aside, .ref ax_tapedWho, .ref ax_tapedTill, .int x_taped, .ref ax_kept, .int x_keeps])), (ax_row, .inl (cyI, 28, .inl x_row)), (ax_undone, .inl (cyI, 224, .inl x_undone))] H → va_S A s.heap H locs → W p l e rX7_come s m (([.ref ax, .int i1, .int i2, .int i3] : List Value).toArray) below meth c H locs 0 0 (MQ below (CQi r D [(ax, .inr (7, [.ref ax_row, .ref ax_text, .int x_letters, .int x_at, .ref ax_read, .ref ax_undone, .int o_x_undos, .ref ax_order, .ref ax_dones, .int x_away, .int x_bestSet, .ref ax_aside, .ref ax_tapedWho, .ref ax_tapedTill, .int o_x_taped, .ref ax_kept, .int x_keeps])), (ax_row, .inl (cyI, 28, .inl o_x_row)), (ax_undone, .inl (cyI, 224, .inl o_x_undone))] A) (([.ref ax, .int i1, .int i2, .int i3] : List Value).toArray) s 0 0 A) (F0 m 0 ls []) from hgo _ _ hP hS
  clear hP hS
  intro H locs hP hS
  refine lv_iload_n hx hb dX7_come_0 rfl (lv_at hl 1 rfl) ?_
  refine lv_i2l (v := i1.toInt64) hx hb dX7_come_1 rfl ?_
  refine lv_lconst (v := 0) hx hb dX7_come_2 (by decide) ?_
  refine lv_ldc2 hx hb hown k52 dX7_come_3 ?_
  obtain ⟨r6, q6, hf⟩ := ob hf
  refine k_i (wc := []) (wr := [(ax, .inr (7, [.ref ax_row, .ref ax_text, .int x_letters, .int x_at, .ref ax_read, .ref ax_undone, .int x_undos, .ref ax_order, .ref ax_dones, .int x_away, .int x_bestSet, .ref ax_aside, .ref ax_tapedWho, .ref ax_tapedTill, .int x_taped, .ref ax_kept, .int x_keeps])), (ax_row, .inl (cyI, 28, .inl x_row)), (ax_undone, .inl (cyI, 224, .inl x_undone))]) (w1 := []) (wn := [(ax, .inr (7, [.ref ax_row, .ref ax_text, .int x_letters, .int x_at, .ref ax_read, .ref ax_undone, .int x_undos, .ref ax_order, .ref ax_dones, .int x_away, .int x_bestSet, .ref ax_aside, .ref ax_tapedWho, .ref ax_tapedTill, .int x_taped, .ref ax_kept, .int x_keeps])), (ax_row, .inl (cyI, 28, .inl x_row)), (ax_undone, .inl (cyI, 224, .inl x_undone))]) (va_runS (As := [.long i1.toInt64, .long (0 : Int64), .long (3 : Int64)]) (rest := []) ⟨hx, hb, hml, hown, hts⟩ (c_X7_in l D cyI cyC cyS H.size i1.toInt64 (0 : Int64) (3 : Int64) q6) (va_cwS 3 hts gX7_come_X7_in rfl rfl rfl (by decide +kernel) ⟨Nat.le_of_ble_eq_true rfl, Nat.le_of_ble_eq_true rfl⟩) (preS hK (hP.subm (ws' := []) [] rfl) (hD.sub (ws' := []) [] (by decide) rfl)) rfl rfl hl.1 rfl (lv_room (Nat.le_of_ble_eq_true rfl)) dX7_come_6 ⟨Nat.le_of_ble_eq_true rfl, Nat.le_of_ble_eq_true rfl⟩) hP hD hS hA [] [0, 1, 2] [0, 1, 2] rfl rfl rfl (by decide) (by decide) (by decide) (fun H locs hP hD hS => ?_)
  refine lv_if_eq (tgt := 36) hx hb dX7_come_9 (by decide) (fun c9 => ?_) (fun c9 => ?_)
  · replace hf := ip c9 hf
    refine lv_iconst (v := -1) hx hb dX7_come_36 (by decide) ?_
    simp only [Option.some.injEq, Prod.mk.injEq] at hf
    obtain ⟨rfl, rfl, rfl, rfl, rfl⟩ := hf
    exact W.iret hx hb hr (fun t ht hW => ⟨⟨_, (), rfl, rfl, by rw [ht]; exact hP, hD⟩, hS.F ht⟩) hS.2.2 dX7_come_37
  · replace hf := iq c9 hf
    refine lv_iload_n hx hb dX7_come_12 rfl (lv_at hl 2 rfl) ?_
    refine lv_i2l (v := i2.toInt64) hx hb dX7_come_13 rfl ?_
    refine lv_lconst (v := 1) hx hb dX7_come_14 (by decide) ?_
    refine lv_ldc2 hx hb hown k97 dX7_come_15 ?_
    obtain ⟨r18, q18, hf⟩ := ob hf
    refine k_i (wc := []) (wr := [(ax, .inr (7, [.ref ax_row, .ref ax_text, .int x_letters, .int x_at, .ref ax_read, .ref ax_undone, .int x_undos, .ref ax_order, .ref ax_dones, .int x_away, .int x_bestSet, .ref ax_aside, .ref ax_tapedWho, .ref ax_tapedTill, .int x_taped, .ref ax_kept, .int x_keeps])), (ax_row, .inl (cyI, 28, .inl x_row)), (ax_undone, .inl (cyI, 224, .inl x_undone))]) (w1 := []) (wn := [(ax, .inr (7, [.ref ax_row, .ref ax_text, .int x_letters, .int x_at, .ref ax_read, .ref ax_undone, .int x_undos, .ref ax_order, .ref ax_dones, .int x_away, .int x_bestSet, .ref ax_aside, .ref ax_tapedWho, .ref ax_tapedTill, .int x_taped, .ref ax_kept, .int x_keeps])), (ax_row, .inl (cyI, 28, .inl x_row)), (ax_undone, .inl (cyI, 224, .inl x_undone))]) (va_runS (As := [.long i2.toInt64, .long (1 : Int64), .long (20 : Int64)]) (rest := []) ⟨hx, hb, hml, hown, hts⟩ (c_X7_in l D cyI cyC cyS H.size i2.toInt64 (1 : Int64) (20 : Int64) q18) (va_cwS 3 hts gX7_come_X7_in rfl rfl rfl (by decide +kernel) ⟨Nat.le_of_ble_eq_true rfl, Nat.le_of_ble_eq_true rfl⟩) (preS hK (hP.subm (ws' := []) [] rfl) (hD.sub (ws' := []) [] (by decide) rfl)) rfl rfl hl.1 rfl (lv_room (Nat.le_of_ble_eq_true rfl)) dX7_come_18 ⟨Nat.le_of_ble_eq_true rfl, Nat.le_of_ble_eq_true rfl⟩) hP hD hS hA [] [0, 1, 2] [0, 1, 2] rfl rfl rfl (by decide) (by decide) (by decide) (fun H locs hP hD hS => ?_)
    refine lv_if_eq (tgt := 36) hx hb dX7_come_21 (by decide) (fun c21 => ?_) (fun c21 => ?_)
    · replace hf := ip c21 hf
      refine lv_iconst (v := -1) hx hb dX7_come_36 (by decide) ?_
      simp only [Option.some.injEq, Prod.mk.injEq] at hf
      obtain ⟨rfl, rfl, rfl, rfl, rfl⟩ := hf
      exact W.iret hx hb hr (fun t ht hW => ⟨⟨_, (), rfl, rfl, by rw [ht]; exact hP, hD⟩, hS.F ht⟩) hS.2.2 dX7_come_37
    · replace hf := iq c21 hf
      refine lv_iload_n hx hb dX7_come_24 rfl (lv_at hl 3 rfl) ?_
      refine lv_i2l (v := i3.toInt64) hx hb dX7_come_25 rfl ?_
      refine lv_lconst (v := 1) hx hb dX7_come_26 (by decide) ?_
      refine lv_ldc2 hx hb hown k99 dX7_come_27 ?_
      obtain ⟨r30, q30, hf⟩ := ob hf
      refine k_i (wc := []) (wr := [(ax, .inr (7, [.ref ax_row, .ref ax_text, .int x_letters, .int x_at, .ref ax_read, .ref ax_undone, .int x_undos, .ref ax_order, .ref ax_dones, .int x_away, .int x_bestSet, .ref ax_aside, .ref ax_tapedWho, .ref ax_tapedTill, .int x_taped, .ref ax_kept, .int x_keeps])), (ax_row, .inl (cyI, 28, .inl x_row)), (ax_undone, .inl (cyI, 224, .inl x_undone))]) (w1 := []) (wn := [(ax, .inr (7, [.ref ax_row, .ref ax_text, .int x_letters, .int x_at, .ref ax_read, .ref ax_undone, .int x_undos, .ref ax_order, .ref ax_dones, .int x_away, .int x_bestSet, .ref ax_aside, .ref ax_tapedWho, .ref ax_tapedTill, .int x_taped, .ref ax_kept, .int x_keeps])), (ax_row, .inl (cyI, 28, .inl x_row)), (ax_undone, .inl (cyI, 224, .inl x_undone))]) (va_runS (As := [.long i3.toInt64, .long (1 : Int64), .long (9 : Int64)]) (rest := []) ⟨hx, hb, hml, hown, hts⟩ (c_X7_in l D cyI cyC cyS H.size i3.toInt64 (1 : Int64) (9 : Int64) q30) (va_cwS 3 hts gX7_come_X7_in rfl rfl rfl (by decide +kernel) ⟨Nat.le_of_ble_eq_true rfl, Nat.le_of_ble_eq_true rfl⟩) (preS hK (hP.subm (ws' := []) [] rfl) (hD.sub (ws' := []) [] (by decide) rfl)) rfl rfl hl.1 rfl (lv_room (Nat.le_of_ble_eq_true rfl)) dX7_come_30 ⟨Nat.le_of_ble_eq_true rfl, Nat.le_of_ble_eq_true rfl⟩) hP hD hS hA [] [0, 1, 2] [0, 1, 2] rfl rfl rfl (by decide) (by decide) (by decide) (fun H locs hP hD hS => ?_)
      refine lv_if_ne (tgt := 38) hx hb dX7_come_33 (by decide) (fun c33 => ?_) (fun c33 => ?_)
      · replace hf := iq c33 hf
        refine lv_aload_n hx hb dX7_come_38 rfl (lv_at hl 0 rfl) ?_
        refine va_get (C := RX7) (T := TX7) (N := 17) hx hb hts inX7 hown hK.1 hP 0 rfl rfl 0 (by decide) f7 (fun _ h9 => h9) rfl dX7_come_39 ?_
        refine lv_iconst (v := 0) hx hb dX7_come_42 (by decide) ?_
        refine a_ild hx hb hK hP 1 rfl (vin (by decide)) 0 (by decide) dX7_come_43 ?_
        refine lv_bipush (v := 8) hx hb dX7_come_44 (by decide) ?_
        refine lv_icmp_ne (tgt := 52) hx hb dX7_come_46 (by decide) (fun c46 => ?_) (fun c46 => ?_)
        · replace hf := iq c46 hf
          refine lv_aload_n hx hb dX7_come_52 rfl (lv_at hl 0 rfl) ?_
          obtain ⟨⟨x_undos_o53, x_undone_o53⟩, q53, hf⟩ := ob hf
          replace hf : _ = _ := hf
          refine k_v (wc := [(ax, .inr (7, [.ref ax_row, .ref ax_text, .int x_letters, .int x_at, .ref ax_read, .ref ax_undone, .int x_undos, .ref ax_order, .ref ax_dones, .int x_away, .int x_bestSet, .ref ax_aside, .ref ax_tapedWho, .ref ax_tapedTill, .int x_taped, .ref ax_kept, .int x_keeps])), (ax_undone, .inl (cyI, 224, .inl x_undone)), (ax_row, .inl (cyI, 28, .inl x_row))]) (wr := []) (w1 := [(ax, .inr (7, [.ref ax_row, .ref ax_text, .int x_letters, .int x_at, .ref ax_read, .ref ax_undone, .int x_undos_o53, .ref ax_order, .ref ax_dones, .int x_away, .int x_bestSet, .ref ax_aside, .ref ax_tapedWho, .ref ax_tapedTill, .int x_taped, .ref ax_kept, .int x_keeps])), (ax_undone, .inl (cyI, 224, .inl x_undone_o53)), (ax_row, .inl (cyI, 28, .inl x_row))]) (wn := [(ax, .inr (7, [.ref ax_row, .ref ax_text, .int x_letters, .int x_at, .ref ax_read, .ref ax_undone, .int x_undos_o53, .ref ax_order, .ref ax_dones, .int x_away, .int x_bestSet, .ref ax_aside, .ref ax_tapedWho, .ref ax_tapedTill, .int x_taped, .ref ax_kept, .int x_keeps])), (ax_row, .inl (cyI, 28, .inl x_row)), (ax_undone, .inl (cyI, 224, .inl x_undone_o53))]) (va_runV (As := []) (rest := []) ⟨hx, hb, hml, hown, hts⟩ (c_X7_notes l D cyI cyC cyS H.size ax ax_row ax_text ax_read ax_undone ax_order ax_dones ax_aside ax_tapedWho ax_tapedTill ax_kept x_letters x_at x_undos x_away x_bestSet x_taped x_keeps x_undone x_row q53) (cwV 0 hts gX7_come_X7_notes rfl rfl rfl (by decide +kernel) ⟨Nat.le_of_ble_eq_true rfl, Nat.le_of_ble_eq_true rfl⟩) (preV (ci := 7) hK (hP.subm (ws' := [(ax, .inr (7, [.ref ax_row, .ref ax_text, .int x_letters, .int x_at, .ref ax_read, .ref ax_undone, .int x_undos, .ref ax_order, .ref ax_dones, .int x_away, .int x_bestSet, .ref ax_aside, .ref ax_tapedWho, .ref ax_tapedTill, .int x_taped, .ref ax_kept, .int x_keeps])), (ax_undone, .inl (cyI, 224, .inl x_undone)), (ax_row, .inl (cyI, 28, .inl x_row))]) [0, 2, 1] rfl) (hD.sub (ws' := [(ax, .inr (7, [.ref ax_row, .ref ax_text, .int x_letters, .int x_at, .ref ax_read, .ref ax_undone, .int x_undos, .ref ax_order, .ref ax_dones, .int x_away, .int x_bestSet, .ref ax_aside, .ref ax_tapedWho, .ref ax_tapedTill, .int x_taped, .ref ax_kept, .int x_keeps])), (ax_undone, .inl (cyI, 224, .inl x_undone)), (ax_row, .inl (cyI, 28, .inl x_row))]) [0, 2, 1] (by decide) rfl) rfl rfl) rfl rfl hl.1 rfl (lv_room (Nat.le_of_ble_eq_true rfl)) dX7_come_53 ⟨Nat.le_of_ble_eq_true rfl, Nat.le_of_ble_eq_true rfl⟩) hP hD hS hA [0, 2, 1] [] [0, 2, 1] rfl rfl rfl (by decide) (by decide) (by decide) (fun H locs hP hD hS => ?_)
          refine lv_aload_n hx hb dX7_come_56 rfl (lv_at hl 0 rfl) ?_
          refine lv_iload_n hx hb dX7_come_57 rfl (lv_at hl 1 rfl) ?_
          refine lv_iload_n hx hb dX7_come_58 rfl (lv_at hl 2 rfl) ?_
          refine lv_iload_n hx hb dX7_come_59 rfl (lv_at hl 3 rfl) ?_
          obtain ⟨x_row_o60, q60, hf⟩ := ob hf
          refine k_v (wc := [(ax, .inr (7, [.ref ax_row, .ref ax_text, .int x_letters, .int x_at, .ref ax_read, .ref ax_undone, .int x_undos_o53, .ref ax_order, .ref ax_dones, .int x_away, .int x_bestSet, .ref ax_aside, .ref ax_tapedWho, .ref ax_tapedTill, .int x_taped, .ref ax_kept, .int x_keeps])), (ax_row, .inl (cyI, 28, .inl x_row))]) (wr := [(ax_undone, .inl (cyI, 224, .inl x_undone_o53))]) (w1 := [(ax, .inr (7, [.ref ax_row, .ref ax_text, .int x_letters, .int x_at, .ref ax_read, .ref ax_undone, .int x_undos_o53, .ref ax_order, .ref ax_dones, .int x_away, .int x_bestSet, .ref ax_aside, .ref ax_tapedWho, .ref ax_tapedTill, .int x_taped, .ref ax_kept, .int x_keeps])), (ax_row, .inl (cyI, 28, .inl x_row_o60))]) (wn := [(ax, .inr (7, [.ref ax_row, .ref ax_text, .int x_letters, .int x_at, .ref ax_read, .ref ax_undone, .int x_undos_o53, .ref ax_order, .ref ax_dones, .int x_away, .int x_bestSet, .ref ax_aside, .ref ax_tapedWho, .ref ax_tapedTill, .int x_taped, .ref ax_kept, .int x_keeps])), (ax_row, .inl (cyI, 28, .inl x_row_o60)), (ax_undone, .inl (cyI, 224, .inl x_undone_o53))]) (va_runV (As := [.int i1, .int i2, .int i3]) (rest := []) ⟨hx, hb, hml, hown, hts⟩ (c_X7_stands l D cyI cyC cyS H.size ax ax_row ax_text ax_read ax_undone ax_order ax_dones ax_aside ax_tapedWho ax_tapedTill ax_kept x_letters x_at x_undos_o53 x_away x_bestSet x_taped x_keeps x_row i1 i2 i3 q60) (cwV 3 hts gX7_come_X7_stands rfl rfl rfl (by decide +kernel) ⟨Nat.le_of_ble_eq_true rfl, Nat.le_of_ble_eq_true rfl⟩) (preV (ci := 7) hK (hP.subm (ws' := [(ax, .inr (7, [.ref ax_row, .ref ax_text, .int x_letters, .int x_at, .ref ax_read, .ref ax_undone, .int x_undos_o53, .ref ax_order, .ref ax_dones, .int x_away, .int x_bestSet, .ref ax_aside, .ref ax_tapedWho, .ref ax_tapedTill, .int x_taped, .ref ax_kept, .int x_keeps])), (ax_row, .inl (cyI, 28, .inl x_row))]) [0, 1] rfl) (hD.sub (ws' := [(ax, .inr (7, [.ref ax_row, .ref ax_text, .int x_letters, .int x_at, .ref ax_read, .ref ax_undone, .int x_undos_o53, .ref ax_order, .ref ax_dones, .int x_away, .int x_bestSet, .ref ax_aside, .ref ax_tapedWho, .ref ax_tapedTill, .int x_taped, .ref ax_kept, .int x_keeps])), (ax_row, .inl (cyI, 28, .inl x_row))]) [0, 1] (by decide) rfl) rfl rfl) rfl rfl hl.1 rfl (lv_room (Nat.le_of_ble_eq_true rfl)) dX7_come_60 ⟨Nat.le_of_ble_eq_true rfl, Nat.le_of_ble_eq_true rfl⟩) hP hD hS hA [0, 1] [2] [1, 2, 0] rfl rfl rfl (by decide) (by decide) (by decide) (fun H locs hP hD hS => ?_)
          refine lv_aload_n hx hb dX7_come_63 rfl (lv_at hl 0 rfl) ?_
          refine lv_iconst (v := 0) hx hb dX7_come_64 (by decide) ?_
          refine a_put (C := RX7) (T := TX7) (N := 17) (wn := [(ax, .inr (7, [.ref ax_row, .ref ax_text, .int x_letters, .int x_at, .ref ax_read, .ref ax_undone, .int x_undos_o53, .ref ax_order, .ref ax_dones, .int x_away, .int x_bestSet, .ref ax_aside, .ref ax_tapedWho, .ref ax_tapedTill, .int (0 : Int32), .ref ax_kept, .int x_keeps])), (ax_row, .inl (cyI, 28, .inl x_row_o60)), (ax_undone, .inl (cyI, 224, .inl x_undone_o53))]) hx hb hts inX7 tyX7 tyX7_ok nmX7 hown hK hP hD hS 0 rfl rfl 14 (by decide) f88 (fun _ h9 => h9) rfl rfl (Nat.le_of_ble_eq_true rfl) rfl dX7_come_65 (fun H locs hP hD hS => ?_)
          refine lv_aload_n hx hb dX7_come_68 rfl (lv_at hl 0 rfl) ?_
          refine va_get (C := RX7) (T := TX7) (N := 17) hx hb hts inX7 hown hK.1 hP 0 rfl rfl 0 (by decide) f7 (fun _ h9 => h9) rfl dX7_come_69 ?_
          refine lv_iconst (v := 0) hx hb dX7_come_72 (by decide) ?_
          refine a_ild hx hb hK hP 1 rfl (vin (by decide)) 0 (by decide) dX7_come_73 ?_
          simp only [Option.some.injEq, Prod.mk.injEq] at hf
          obtain ⟨rfl, rfl, rfl, rfl, rfl⟩ := hf
          exact W.iret hx hb hr (fun t ht hW => ⟨⟨_, (), rfl, rfl, by rw [ht]; exact hP, hD⟩, hS.F ht⟩) hS.2.2 dX7_come_74
        · replace hf := ip c46 hf
          refine lv_bipush (v := -3) hx hb dX7_come_49 (by decide) ?_
          simp only [Option.some.injEq, Prod.mk.injEq] at hf
          obtain ⟨rfl, rfl, rfl, rfl, rfl⟩ := hf
          exact W.iret hx hb hr (fun t ht hW => ⟨⟨_, (), rfl, rfl, by rw [ht]; exact hP, hD⟩, hS.F ht⟩) hS.2.2 dX7_come_51
      · replace hf := ip c33 hf
        refine lv_iconst (v := -1) hx hb dX7_come_36 (by decide) ?_
        simp only [Option.some.injEq, Prod.mk.injEq] at hf
        obtain ⟨rfl, rfl, rfl, rfl, rfl⟩ := hf
        exact W.iret hx hb hr (fun t ht hW => ⟨⟨_, (), rfl, rfl, by rw [ht]; exact hP, hD⟩, hS.F ht⟩) hS.2.2 dX7_come_37
abbrev rX7_leave : Room := { frames := 2, cells := 0, slots := 0, locals := 46 }
set_option maxHeartbeats 4000000 in
set_option maxRecDepth 100000 in
theorem c_X7_leave (l : Launch) (D : va_G) (cyI cyC cyS : ClassId) (sz : Nat) (ax : Nat) (ax_row : Nat) (ax_text : Nat) (ax_read : Nat) (ax_undone : Nat) (ax_order : Nat) (ax_dones : Nat) (ax_aside : Nat) (ax_tapedWho : Nat) (ax_tapedTill : Nat) (ax_kept : Nat) (x_letters : Int32) (x_at : Int32) (x_undos : Int32) (x_away : Int32) (x_bestSet : Int32) (x_taped : Int32) (x_keeps : Int32) (x_row : Nat → Int32) (x_undone : Nat → Int32) (i1 : Int32) {r : Int32} {o_x_undos : Int32} {o_x_taped : Int32} {o_x_row : Nat → Int32} {o_x_undone : Nat → Int32} (hf : S_X7_leave i1 x_undos x_taped x_row x_undone = some (r, o_x_undos, o_x_taped, o_x_row, o_x_undone)) : Met l yX7_leave wsX7_leave rX7_leave (Cpre [.ref ax, .int i1] D cyI cyC cyS sz [(ax, .inr (7, [.ref ax_row, .ref ax_text, .int x_letters, .int x_at, .ref ax_read, .ref ax_undone, .int x_undos, .ref ax_order, .ref ax_dones, .int x_away, .int x_bestSet, .ref ax_aside, .ref ax_tapedWho, .ref ax_tapedTill, .int x_taped, .ref ax_kept, .int x_keeps])), (ax_row, .inl (cyI, 28, .inl x_row)), (ax_undone, .inl (cyI, 224, .inl x_undone))]) (CQi r D [(ax, .inr (7, [.ref ax_row, .ref ax_text, .int x_letters, .int x_at, .ref ax_read, .ref ax_undone, .int o_x_undos, .ref ax_order, .ref ax_dones, .int x_away, .int x_bestSet, .ref ax_aside, .ref ax_tapedWho, .ref ax_tapedTill, .int o_x_taped, .ref ax_kept, .int x_keeps])), (ax_row, .inl (cyI, 28, .inl o_x_row)), (ax_undone, .inl (cyI, 224, .inl o_x_undone))] (va_A [(ax, .inr (7, [.ref ax_row, .ref ax_text, .int x_letters, .int x_at, .ref ax_read, .ref ax_undone, .int x_undos, .ref ax_order, .ref ax_dones, .int x_away, .int x_bestSet, .ref ax_aside, .ref ax_tapedWho, .ref ax_tapedTill, .int x_taped, .ref ax_kept, .int x_keeps])), (ax_row, .inl (cyI, 28, .inl x_row)), (ax_undone, .inl (cyI, 224, .inl x_undone))] sz)) 0 0 (va_A [(ax, .inr (7, [.ref ax_row, .ref ax_text, .int x_letters, .int x_at, .ref ax_read, .ref ax_undone, .int x_undos, .ref ax_order, .ref ax_dones, .int x_away, .int x_bestSet, .ref ax_aside, .ref ax_tapedWho, .ref ax_tapedTill, .int x_taped, .ref ax_kept, .int x_keeps])), (ax_row, .inl (cyI, 28, .inl x_row)), (ax_undone, .inl (cyI, 224, .inl x_undone))] sz) := by
  refine Met.ofW (cc := cX7_leave) (maxL := 2) (ret := (some .int)) (by decide) rfl ?_
  intro p e s m args below meth c s₁ B hml hv
  obtain ⟨rfl, hsz, hP, hK, hD0⟩ := hv
  have hx := B.exec
  have hb := B.bytes
  have hr := B.returns
  have hts := atoms_spec (ws := wsX7_leave) B.pre
  have hown : s.vm.findClass RX7 = some m.cls := findClass_of_methodNamed B.named
  have hlocks := B.notSynchronized
  subst hsz
  have hD := hD0.self (sz := s.heap.size)
  generalize hAe : va_A [(ax, .inr (7, [.ref ax_row, .ref ax_text, .int x_letters, .int x_at, .ref ax_read, .ref ax_undone, .int x_undos, .ref ax_order, .ref ax_dones, .int x_away, .int x_bestSet, .ref ax_aside, .ref ax_tapedWho, .ref ax_tapedTill, .int x_taped, .ref ax_kept, .int x_keeps])), (ax_row, .inl (cyI, 28, .inl x_row)), (ax_undone, .inl (cyI, 224, .inl x_undone))] s.heap.size = A at hD ⊢
  have hA : ∀ q : Nat, s.heap.size ≤ q → A q := fun q h => by rw [← hAe]; exact Or.inr h
  have hS : va_S A s.heap s.heap [] := va_S.rf
  have hl := lv_entry ([.ref ax, .int i1]) (n := 2) (Nat.le_of_ble_eq_true rfl)
  rw [lg_entry_eq]
  generalize (lg_sl ([.ref ax, .int i1]) ++ List.replicate (2 - (lg_sl ([.ref ax, .int i1])).length) Slot.unset).toArray = ls at hl ⊢
  have hl : lv_has ls 2 [(0, .ref ax), (1, .int i1)] := hl
  have f88 := hts (.fieldLink RX7 88 "SecondTillModel" "taped" "I") (by decide +kernel)
  have inX7 : ∀ w ∈ u_ws RX7 TX7 17, w ∈ wsX7_leave := by decide +kernel
  have f7 := hts (.fieldLink RX7 7 "SecondTillModel" "row" "[I") (by decide +kernel)
  unfold S_X7_leave at hf
  have hP : va_P D vwCl [(ax, .inr (7, [.ref ax_row, .ref ax_text, .int x_letters, .int x_at, .ref ax_read, .ref ax_undone, .int x_undos, .ref ax_order, .ref ax_dones, .int x_away, .int x_bestSet, .ref ax_aside, .ref ax_tapedWho, .ref ax_tapedTill, .int x_taped, .ref ax_kept, .int x_keeps])), (ax_row, .inl (cyI, 28, .inl x_row)), (ax_undone, .inl (cyI, 224, .inl x_undone))] s.heap := hP
  suffices hgo : ∀ (H : Heap) (locs : List Loc), va_P D vwCl [(ax, .inr (7, [.ref ax_row, .ref ax_text, .int x_letters, .int x_at, .ref ax_read, .ref ax_undone, .int x_undos, .ref ax_order, .ref ax_dones, .int x_away, .int x_bestSet, .ref ax_aside, .ref ax_tapedWho, .ref ax_tapedTill, .int x_taped, .ref ax_kept, .int x_keeps])), (ax_row, .inl (cyI, 28, .inl x_row)), (ax_undone, .inl (cyI, 224, .inl x_undone))] H → va_S A s.heap H locs → W p l e rX7_leave s m (([.ref ax, .int i1] : List Value).toArray) below meth c H locs 0 0 (MQ below (CQi r D [(ax, .inr (7, [.ref ax_row, .ref ax_text, .int x_letters, .int x_at, .ref ax_read, .ref ax_undone, .int o_x_undos, .ref ax_order, .ref ax_dones, .int x_away, .int x_bestSet, .ref ax_aside, .ref ax_tapedWho, .ref ax_tapedTill, .int o_x_taped, .ref ax_kept, .int x_keeps])), (ax_row, .inl (cyI, 28, .inl o_x_row)), (ax_undone, .inl (cyI, 224, .inl o_x_undone))] A) (([.ref ax, .int i1] : List Value).toArray) s 0 0 A) (F0 m 0 ls []) from hgo _ _ hP hS
  clear hP hS
  intro H locs hP hS
  refine lv_aload_n hx hb dX7_leave_0 rfl (lv_at hl 0 rfl) ?_
  refine lv_iload_n hx hb dX7_leave_1 rfl (lv_at hl 1 rfl) ?_
  obtain ⟨r2, q2, hf⟩ := ob hf
  refine k_i (wc := [(ax, .inr (7, [.ref ax_row, .ref ax_text, .int x_letters, .int x_at, .ref ax_read, .ref ax_undone, .int x_undos, .ref ax_order, .ref ax_dones, .int x_away, .int x_bestSet, .ref ax_aside, .ref ax_tapedWho, .ref ax_tapedTill, .int x_taped, .ref ax_kept, .int x_keeps])), (ax_row, .inl (cyI, 28, .inl x_row))]) (wr := [(ax_undone, .inl (cyI, 224, .inl x_undone))]) (w1 := [(ax, .inr (7, [.ref ax_row, .ref ax_text, .int x_letters, .int x_at, .ref ax_read, .ref ax_undone, .int x_undos, .ref ax_order, .ref ax_dones, .int x_away, .int x_bestSet, .ref ax_aside, .ref ax_tapedWho, .ref ax_tapedTill, .int x_taped, .ref ax_kept, .int x_keeps])), (ax_row, .inl (cyI, 28, .inl x_row))]) (wn := [(ax, .inr (7, [.ref ax_row, .ref ax_text, .int x_letters, .int x_at, .ref ax_read, .ref ax_undone, .int x_undos, .ref ax_order, .ref ax_dones, .int x_away, .int x_bestSet, .ref ax_aside, .ref ax_tapedWho, .ref ax_tapedTill, .int x_taped, .ref ax_kept, .int x_keeps])), (ax_row, .inl (cyI, 28, .inl x_row)), (ax_undone, .inl (cyI, 224, .inl x_undone))]) (va_runV (As := [.int i1]) (rest := []) ⟨hx, hb, hml, hown, hts⟩ (c_X7_isPerson l D cyI cyC cyS H.size ax ax_row ax_text ax_read ax_undone ax_order ax_dones ax_aside ax_tapedWho ax_tapedTill ax_kept x_letters x_at x_undos x_away x_bestSet x_taped x_keeps x_row i1 q2) (cwV 1 hts gX7_leave_X7_isPerson rfl rfl rfl (by decide +kernel) ⟨Nat.le_of_ble_eq_true rfl, Nat.le_of_ble_eq_true rfl⟩) (preV (ci := 7) hK (hP.subm (ws' := [(ax, .inr (7, [.ref ax_row, .ref ax_text, .int x_letters, .int x_at, .ref ax_read, .ref ax_undone, .int x_undos, .ref ax_order, .ref ax_dones, .int x_away, .int x_bestSet, .ref ax_aside, .ref ax_tapedWho, .ref ax_tapedTill, .int x_taped, .ref ax_kept, .int x_keeps])), (ax_row, .inl (cyI, 28, .inl x_row))]) [0, 1] rfl) (hD.sub (ws' := [(ax, .inr (7, [.ref ax_row, .ref ax_text, .int x_letters, .int x_at, .ref ax_read, .ref ax_undone, .int x_undos, .ref ax_order, .ref ax_dones, .int x_away, .int x_bestSet, .ref ax_aside, .ref ax_tapedWho, .ref ax_tapedTill, .int x_taped, .ref ax_kept, .int x_keeps])), (ax_row, .inl (cyI, 28, .inl x_row))]) [0, 1] (by decide) rfl) rfl rfl) rfl rfl hl.1 rfl (lv_room (Nat.le_of_ble_eq_true rfl)) dX7_leave_2 ⟨Nat.le_of_ble_eq_true rfl, Nat.le_of_ble_eq_true rfl⟩) hP hD hS hA [0, 1] [2] [1, 2, 0] rfl rfl rfl (by decide) (by decide) (by decide) (fun H locs hP hD hS => ?_)
  refine lv_if_ne (tgt := 10) hx hb dX7_leave_5 (by decide) (fun c5 => ?_) (fun c5 => ?_)
  · replace hf := iq c5 hf
    refine lv_aload_n hx hb dX7_leave_10 rfl (lv_at hl 0 rfl) ?_
    obtain ⟨⟨x_undos_o11, x_undone_o11⟩, q11, hf⟩ := ob hf
    replace hf : _ = _ := hf
    refine k_v (wc := [(ax, .inr (7, [.ref ax_row, .ref ax_text, .int x_letters, .int x_at, .ref ax_read, .ref ax_undone, .int x_undos, .ref ax_order, .ref ax_dones, .int x_away, .int x_bestSet, .ref ax_aside, .ref ax_tapedWho, .ref ax_tapedTill, .int x_taped, .ref ax_kept, .int x_keeps])), (ax_undone, .inl (cyI, 224, .inl x_undone)), (ax_row, .inl (cyI, 28, .inl x_row))]) (wr := []) (w1 := [(ax, .inr (7, [.ref ax_row, .ref ax_text, .int x_letters, .int x_at, .ref ax_read, .ref ax_undone, .int x_undos_o11, .ref ax_order, .ref ax_dones, .int x_away, .int x_bestSet, .ref ax_aside, .ref ax_tapedWho, .ref ax_tapedTill, .int x_taped, .ref ax_kept, .int x_keeps])), (ax_undone, .inl (cyI, 224, .inl x_undone_o11)), (ax_row, .inl (cyI, 28, .inl x_row))]) (wn := [(ax, .inr (7, [.ref ax_row, .ref ax_text, .int x_letters, .int x_at, .ref ax_read, .ref ax_undone, .int x_undos_o11, .ref ax_order, .ref ax_dones, .int x_away, .int x_bestSet, .ref ax_aside, .ref ax_tapedWho, .ref ax_tapedTill, .int x_taped, .ref ax_kept, .int x_keeps])), (ax_row, .inl (cyI, 28, .inl x_row)), (ax_undone, .inl (cyI, 224, .inl x_undone_o11))]) (va_runV (As := []) (rest := []) ⟨hx, hb, hml, hown, hts⟩ (c_X7_notes l D cyI cyC cyS H.size ax ax_row ax_text ax_read ax_undone ax_order ax_dones ax_aside ax_tapedWho ax_tapedTill ax_kept x_letters x_at x_undos x_away x_bestSet x_taped x_keeps x_undone x_row q11) (cwV 0 hts gX7_leave_X7_notes rfl rfl rfl (by decide +kernel) ⟨Nat.le_of_ble_eq_true rfl, Nat.le_of_ble_eq_true rfl⟩) (preV (ci := 7) hK (hP.subm (ws' := [(ax, .inr (7, [.ref ax_row, .ref ax_text, .int x_letters, .int x_at, .ref ax_read, .ref ax_undone, .int x_undos, .ref ax_order, .ref ax_dones, .int x_away, .int x_bestSet, .ref ax_aside, .ref ax_tapedWho, .ref ax_tapedTill, .int x_taped, .ref ax_kept, .int x_keeps])), (ax_undone, .inl (cyI, 224, .inl x_undone)), (ax_row, .inl (cyI, 28, .inl x_row))]) [0, 2, 1] rfl) (hD.sub (ws' := [(ax, .inr (7, [.ref ax_row, .ref ax_text, .int x_letters, .int x_at, .ref ax_read, .ref ax_undone, .int x_undos, .ref ax_order, .ref ax_dones, .int x_away, .int x_bestSet, .ref ax_aside, .ref ax_tapedWho, .ref ax_tapedTill, .int x_taped, .ref ax_kept, .int x_keeps])), (ax_undone, .inl (cyI, 224, .inl x_undone)), (ax_row, .inl (cyI, 28, .inl x_row))]) [0, 2, 1] (by decide) rfl) rfl rfl) rfl rfl hl.1 rfl (lv_room (Nat.le_of_ble_eq_true rfl)) dX7_leave_11 ⟨Nat.le_of_ble_eq_true rfl, Nat.le_of_ble_eq_true rfl⟩) hP hD hS hA [0, 2, 1] [] [0, 2, 1] rfl rfl rfl (by decide) (by decide) (by decide) (fun H locs hP hD hS => ?_)
    refine lv_aload_n hx hb dX7_leave_14 rfl (lv_at hl 0 rfl) ?_
    refine lv_iload_n hx hb dX7_leave_15 rfl (lv_at hl 1 rfl) ?_
    obtain ⟨x_row_o16, q16, hf⟩ := ob hf
    refine k_v (wc := [(ax, .inr (7, [.ref ax_row, .ref ax_text, .int x_letters, .int x_at, .ref ax_read, .ref ax_undone, .int x_undos_o11, .ref ax_order, .ref ax_dones, .int x_away, .int x_bestSet, .ref ax_aside, .ref ax_tapedWho, .ref ax_tapedTill, .int x_taped, .ref ax_kept, .int x_keeps])), (ax_row, .inl (cyI, 28, .inl x_row))]) (wr := [(ax_undone, .inl (cyI, 224, .inl x_undone_o11))]) (w1 := [(ax, .inr (7, [.ref ax_row, .ref ax_text, .int x_letters, .int x_at, .ref ax_read, .ref ax_undone, .int x_undos_o11, .ref ax_order, .ref ax_dones, .int x_away, .int x_bestSet, .ref ax_aside, .ref ax_tapedWho, .ref ax_tapedTill, .int x_taped, .ref ax_kept, .int x_keeps])), (ax_row, .inl (cyI, 28, .inl x_row_o16))]) (wn := [(ax, .inr (7, [.ref ax_row, .ref ax_text, .int x_letters, .int x_at, .ref ax_read, .ref ax_undone, .int x_undos_o11, .ref ax_order, .ref ax_dones, .int x_away, .int x_bestSet, .ref ax_aside, .ref ax_tapedWho, .ref ax_tapedTill, .int x_taped, .ref ax_kept, .int x_keeps])), (ax_row, .inl (cyI, 28, .inl x_row_o16)), (ax_undone, .inl (cyI, 224, .inl x_undone_o11))]) (va_runV (As := [.int i1]) (rest := []) ⟨hx, hb, hml, hown, hts⟩ (c_X7_goesAway l D cyI cyC cyS H.size ax ax_row ax_text ax_read ax_undone ax_order ax_dones ax_aside ax_tapedWho ax_tapedTill ax_kept x_letters x_at x_undos_o11 x_away x_bestSet x_taped x_keeps x_row i1 q16) (cwV 1 hts gX7_leave_X7_goesAway rfl rfl rfl (by decide +kernel) ⟨Nat.le_of_ble_eq_true rfl, Nat.le_of_ble_eq_true rfl⟩) (preV (ci := 7) hK (hP.subm (ws' := [(ax, .inr (7, [.ref ax_row, .ref ax_text, .int x_letters, .int x_at, .ref ax_read, .ref ax_undone, .int x_undos_o11, .ref ax_order, .ref ax_dones, .int x_away, .int x_bestSet, .ref ax_aside, .ref ax_tapedWho, .ref ax_tapedTill, .int x_taped, .ref ax_kept, .int x_keeps])), (ax_row, .inl (cyI, 28, .inl x_row))]) [0, 1] rfl) (hD.sub (ws' := [(ax, .inr (7, [.ref ax_row, .ref ax_text, .int x_letters, .int x_at, .ref ax_read, .ref ax_undone, .int x_undos_o11, .ref ax_order, .ref ax_dones, .int x_away, .int x_bestSet, .ref ax_aside, .ref ax_tapedWho, .ref ax_tapedTill, .int x_taped, .ref ax_kept, .int x_keeps])), (ax_row, .inl (cyI, 28, .inl x_row))]) [0, 1] (by decide) rfl) rfl rfl) rfl rfl hl.1 rfl (lv_room (Nat.le_of_ble_eq_true rfl)) dX7_leave_16 ⟨Nat.le_of_ble_eq_true rfl, Nat.le_of_ble_eq_true rfl⟩) hP hD hS hA [0, 1] [2] [1, 2, 0] rfl rfl rfl (by decide) (by decide) (by decide) (fun H locs hP hD hS => ?_)
    refine lv_aload_n hx hb dX7_leave_19 rfl (lv_at hl 0 rfl) ?_
    refine lv_iconst (v := 0) hx hb dX7_leave_20 (by decide) ?_
    refine a_put (C := RX7) (T := TX7) (N := 17) (wn := [(ax, .inr (7, [.ref ax_row, .ref ax_text, .int x_letters, .int x_at, .ref ax_read, .ref ax_undone, .int x_undos_o11, .ref ax_order, .ref ax_dones, .int x_away, .int x_bestSet, .ref ax_aside, .ref ax_tapedWho, .ref ax_tapedTill, .int (0 : Int32), .ref ax_kept, .int x_keeps])), (ax_row, .inl (cyI, 28, .inl x_row_o16)), (ax_undone, .inl (cyI, 224, .inl x_undone_o11))]) hx hb hts inX7 tyX7 tyX7_ok nmX7 hown hK hP hD hS 0 rfl rfl 14 (by decide) f88 (fun _ h9 => h9) rfl rfl (Nat.le_of_ble_eq_true rfl) rfl dX7_leave_21 (fun H locs hP hD hS => ?_)
    refine lv_aload_n hx hb dX7_leave_24 rfl (lv_at hl 0 rfl) ?_
    refine va_get (C := RX7) (T := TX7) (N := 17) hx hb hts inX7 hown hK.1 hP 0 rfl rfl 0 (by decide) f7 (fun _ h9 => h9) rfl dX7_leave_25 ?_
    refine lv_iconst (v := 0) hx hb dX7_leave_28 (by decide) ?_
    refine a_ild hx hb hK hP 1 rfl (vin (by decide)) 0 (by decide) dX7_leave_29 ?_
    simp only [Option.some.injEq, Prod.mk.injEq] at hf
    obtain ⟨rfl, rfl, rfl, rfl, rfl⟩ := hf
    exact W.iret hx hb hr (fun t ht hW => ⟨⟨_, (), rfl, rfl, by rw [ht]; exact hP, hD⟩, hS.F ht⟩) hS.2.2 dX7_leave_30
  · replace hf := ip c5 hf
    refine lv_iconst (v := -1) hx hb dX7_leave_8 (by decide) ?_
    simp only [Option.some.injEq, Prod.mk.injEq] at hf
    obtain ⟨rfl, rfl, rfl, rfl, rfl⟩ := hf
    exact W.iret hx hb hr (fun t ht hW => ⟨⟨_, (), rfl, rfl, by rw [ht]; exact hP, hD⟩, hS.F ht⟩) hS.2.2 dX7_leave_9
abbrev rX7_goesBy : Room := { frames := 1, cells := 0, slots := 0, locals := 22 }
set_option maxHeartbeats 4000000 in
set_option maxRecDepth 100000 in
theorem c_X7_goesBy (l : Launch) (D : va_G) (cyI cyC cyS : ClassId) (sz : Nat) (ax : Nat) (ax_row : Nat) (ax_text : Nat) (ax_read : Nat) (ax_undone : Nat) (ax_order : Nat) (ax_dones : Nat) (ax_aside : Nat) (ax_tapedWho : Nat) (ax_tapedTill : Nat) (ax_kept : Nat) (x_letters : Int32) (x_at : Int32) (x_undos : Int32) (x_away : Int32) (x_bestSet : Int32) (x_taped : Int32) (x_keeps : Int32) (x_row : Nat → Int32) (i1 : Int32) {r : Int32} {o_x_row : Nat → Int32} (hf : S_X7_goesBy i1 x_row = some (r, o_x_row)) : Met l yX7_goesBy wsX7_goesBy rX7_goesBy (Cpre [.ref ax, .int i1] D cyI cyC cyS sz [(ax, .inr (7, [.ref ax_row, .ref ax_text, .int x_letters, .int x_at, .ref ax_read, .ref ax_undone, .int x_undos, .ref ax_order, .ref ax_dones, .int x_away, .int x_bestSet, .ref ax_aside, .ref ax_tapedWho, .ref ax_tapedTill, .int x_taped, .ref ax_kept, .int x_keeps])), (ax_row, .inl (cyI, 28, .inl x_row))]) (CQi r D [(ax, .inr (7, [.ref ax_row, .ref ax_text, .int x_letters, .int x_at, .ref ax_read, .ref ax_undone, .int x_undos, .ref ax_order, .ref ax_dones, .int x_away, .int x_bestSet, .ref ax_aside, .ref ax_tapedWho, .ref ax_tapedTill, .int x_taped, .ref ax_kept, .int x_keeps])), (ax_row, .inl (cyI, 28, .inl o_x_row))] (va_A [(ax, .inr (7, [.ref ax_row, .ref ax_text, .int x_letters, .int x_at, .ref ax_read, .ref ax_undone, .int x_undos, .ref ax_order, .ref ax_dones, .int x_away, .int x_bestSet, .ref ax_aside, .ref ax_tapedWho, .ref ax_tapedTill, .int x_taped, .ref ax_kept, .int x_keeps])), (ax_row, .inl (cyI, 28, .inl x_row))] sz)) 0 0 (va_A [(ax, .inr (7, [.ref ax_row, .ref ax_text, .int x_letters, .int x_at, .ref ax_read, .ref ax_undone, .int x_undos, .ref ax_order, .ref ax_dones, .int x_away, .int x_bestSet, .ref ax_aside, .ref ax_tapedWho, .ref ax_tapedTill, .int x_taped, .ref ax_kept, .int x_keeps])), (ax_row, .inl (cyI, 28, .inl x_row))] sz) := by
  refine Met.ofW (cc := cX7_goesBy) (maxL := 4) (ret := (some .int)) (by decide) rfl ?_
  intro p e s m args below meth c s₁ B hml hv
  obtain ⟨rfl, hsz, hP, hK, hD0⟩ := hv
  have hx := B.exec
  have hb := B.bytes
  have hr := B.returns
  have hts := atoms_spec (ws := wsX7_goesBy) B.pre
  have hown : s.vm.findClass RX7 = some m.cls := findClass_of_methodNamed B.named
  have hlocks := B.notSynchronized
  subst hsz
  have hD := hD0.self (sz := s.heap.size)
  generalize hAe : va_A [(ax, .inr (7, [.ref ax_row, .ref ax_text, .int x_letters, .int x_at, .ref ax_read, .ref ax_undone, .int x_undos, .ref ax_order, .ref ax_dones, .int x_away, .int x_bestSet, .ref ax_aside, .ref ax_tapedWho, .ref ax_tapedTill, .int x_taped, .ref ax_kept, .int x_keeps])), (ax_row, .inl (cyI, 28, .inl x_row))] s.heap.size = A at hD ⊢
  have hA : ∀ q : Nat, s.heap.size ≤ q → A q := fun q h => by rw [← hAe]; exact Or.inr h
  have hS : va_S A s.heap s.heap [] := va_S.rf
  have hl := lv_entry ([.ref ax, .int i1]) (n := 4) (Nat.le_of_ble_eq_true rfl)
  rw [lg_entry_eq]
  generalize (lg_sl ([.ref ax, .int i1]) ++ List.replicate (4 - (lg_sl ([.ref ax, .int i1])).length) Slot.unset).toArray = ls at hl ⊢
  have hl : lv_has ls 4 [(0, .ref ax), (1, .int i1)] := hl
  have f7 := hts (.fieldLink RX7 7 "SecondTillModel" "row" "[I") (by decide +kernel)
  have inX7 : ∀ w ∈ u_ws RX7 TX7 17, w ∈ wsX7_goesBy := by decide +kernel
  unfold S_X7_goesBy at hf
  have hP : va_P D vwCl [(ax, .inr (7, [.ref ax_row, .ref ax_text, .int x_letters, .int x_at, .ref ax_read, .ref ax_undone, .int x_undos, .ref ax_order, .ref ax_dones, .int x_away, .int x_bestSet, .ref ax_aside, .ref ax_tapedWho, .ref ax_tapedTill, .int x_taped, .ref ax_kept, .int x_keeps])), (ax_row, .inl (cyI, 28, .inl x_row))] s.heap := hP
  suffices hgo : ∀ (H : Heap) (locs : List Loc), va_P D vwCl [(ax, .inr (7, [.ref ax_row, .ref ax_text, .int x_letters, .int x_at, .ref ax_read, .ref ax_undone, .int x_undos, .ref ax_order, .ref ax_dones, .int x_away, .int x_bestSet, .ref ax_aside, .ref ax_tapedWho, .ref ax_tapedTill, .int x_taped, .ref ax_kept, .int x_keeps])), (ax_row, .inl (cyI, 28, .inl x_row))] H → va_S A s.heap H locs → W p l e rX7_goesBy s m (([.ref ax, .int i1] : List Value).toArray) below meth c H locs 0 0 (MQ below (CQi r D [(ax, .inr (7, [.ref ax_row, .ref ax_text, .int x_letters, .int x_at, .ref ax_read, .ref ax_undone, .int x_undos, .ref ax_order, .ref ax_dones, .int x_away, .int x_bestSet, .ref ax_aside, .ref ax_tapedWho, .ref ax_tapedTill, .int x_taped, .ref ax_kept, .int x_keeps])), (ax_row, .inl (cyI, 28, .inl o_x_row))] A) (([.ref ax, .int i1] : List Value).toArray) s 0 0 A) (F0 m 0 ls []) from hgo _ _ hP hS
  clear hP hS
  intro H locs hP hS
  refine lv_iload_n hx hb dX7_goesBy_0 rfl (lv_at hl 1 rfl) ?_
  refine lv_aload_n hx hb dX7_goesBy_1 rfl (lv_at hl 0 rfl) ?_
  refine va_get (C := RX7) (T := TX7) (N := 17) hx hb hts inX7 hown hK.1 hP 0 rfl rfl 0 (by decide) f7 (fun _ h9 => h9) rfl dX7_goesBy_2 ?_
  refine lv_iconst (v := 1) hx hb dX7_goesBy_5 (by decide) ?_
  refine a_ild hx hb hK hP 1 rfl (vin (by decide)) 1 (by decide) dX7_goesBy_6 ?_
  obtain ⟨z7, hf⟩ := oi hf
  refine lv_idiv hx hb dX7_goesBy_7 z7 ?_
  refine lv_istore_n (lv' := [(2, .int (i1 / (x_row 1))), (0, .ref ax), (1, .int i1)]) hx hb dX7_goesBy_8 rfl hl (by decide) rfl (fun ls hl => ?_)
  refine lv_iconst (v := 0) hx hb dX7_goesBy_9 (by decide) ?_
  refine lv_istore_n (lv' := [(3, .int (0 : Int32)), (2, .int (i1 / (x_row 1))), (0, .ref ax), (1, .int i1)]) hx hb dX7_goesBy_10 rfl hl (by decide) rfl (fun ls hl => ?_)
  have hL11 : ∀ (n11 : Nat) (i2 : Int32) (i3 : Int32) (x_row : Nat → Int32) (H : Heap) (locs : List Loc) (ls : Array Slot), va_P D vwCl [(ax, .inr (7, [.ref ax_row, .ref ax_text, .int x_letters, .int x_at, .ref ax_read, .ref ax_undone, .int x_undos, .ref ax_order, .ref ax_dones, .int x_away, .int x_bestSet, .ref ax_aside, .ref ax_tapedWho, .ref ax_tapedTill, .int x_taped, .ref ax_kept, .int x_keeps])), (ax_row, .inl (cyI, 28, .inl x_row))] H → va_D A [(ax, .inr (7, [.ref ax_row, .ref ax_text, .int x_letters, .int x_at, .ref ax_read, .ref ax_undone, .int x_undos, .ref ax_order, .ref ax_dones, .int x_away, .int x_bestSet, .ref ax_aside, .ref ax_tapedWho, .ref ax_tapedTill, .int x_taped, .ref ax_kept, .int x_keeps])), (ax_row, .inl (cyI, 28, .inl x_row))] → va_S A s.heap H locs → lv_has ls 4 [(0, .ref ax), (2, .int i2), (3, .int i3)] → S_X7_goesBy_L11 n11 i2 i3 x_row = some (r, o_x_row) → W p l e rX7_goesBy s m (([.ref ax, .int i1] : List Value).toArray) below meth c H locs 0 0 (MQ below (CQi r D [(ax, .inr (7, [.ref ax_row, .ref ax_text, .int x_letters, .int x_at, .ref ax_read, .ref ax_undone, .int x_undos, .ref ax_order, .ref ax_dones, .int x_away, .int x_bestSet, .ref ax_aside, .ref ax_tapedWho, .ref ax_tapedTill, .int x_taped, .ref ax_kept, .int x_keeps])), (ax_row, .inl (cyI, 28, .inl o_x_row))] A) (([.ref ax, .int i1] : List Value).toArray) s 0 0 A) (F0 m 11 ls []) := by
    intro n11
    induction n11 with
    | zero => intro i2 i3 x_row H locs ls hP hD hS hl hf; exact absurd hf (by simp [S_X7_goesBy_L11])
    | succ n11 ih11 =>
      intro i2 i3 x_row H locs ls hP hD hS hl hf
      rw [S_X7_goesBy_L11] at hf
      refine lv_aload_n hx hb dX7_goesBy_11 rfl (lv_at hl 0 rfl) ?_
      refine va_get (C := RX7) (T := TX7) (N := 17) hx hb hts inX7 hown hK.1 hP 0 rfl rfl 0 (by decide) f7 (fun _ h9 => h9) rfl dX7_goesBy_12 ?_
      refine lv_iconst (v := 0) hx hb dX7_goesBy_15 (by decide) ?_
      refine a_ild hx hb hK hP 1 rfl (vin (by decide)) 0 (by decide) dX7_goesBy_16 ?_
      have hJ48 : ∀ (H : Heap) (locs : List Loc) (ls : Array Slot), va_P D vwCl [(ax, .inr (7, [.ref ax_row, .ref ax_text, .int x_letters, .int x_at, .ref ax_read, .ref ax_undone, .int x_undos, .ref ax_order, .ref ax_dones, .int x_away, .int x_bestSet, .ref ax_aside, .ref ax_tapedWho, .ref ax_tapedTill, .int x_taped, .ref ax_kept, .int x_keeps])), (ax_row, .inl (cyI, 28, .inl x_row))] H → va_D A [(ax, .inr (7, [.ref ax_row, .ref ax_text, .int x_letters, .int x_at, .ref ax_read, .ref ax_undone, .int x_undos, .ref ax_order, .ref ax_dones, .int x_away, .int x_bestSet, .ref ax_aside, .ref ax_tapedWho, .ref ax_tapedTill, .int x_taped, .ref ax_kept, .int x_keeps])), (ax_row, .inl (cyI, 28, .inl x_row))] → va_S A s.heap H locs → lv_has ls 4 [(0, .ref ax), (2, .int i2), (3, .int i3)] → (jn (fun (s0_69 : Int32) => some (i3, upd x_row 5 ((x_row 5) - s0_69))) (fun J69 =>
(if (x_row 0) ≤ 0 then
(J69 (0 : Int32)) else
(J69 i2)))) = some (r, o_x_row) → W p l e rX7_goesBy s m (([.ref ax, .int i1] : List Value).toArray) below meth c H locs 0 0 (MQ below (CQi r D [(ax, .inr (7, [.ref ax_row, .ref ax_text, .int x_letters, .int x_at, .ref ax_read, .ref ax_undone, .int x_undos, .ref ax_order, .ref ax_dones, .int x_away, .int x_bestSet, .ref ax_aside, .ref ax_tapedWho, .ref ax_tapedTill, .int x_taped, .ref ax_kept, .int x_keeps])), (ax_row, .inl (cyI, 28, .inl o_x_row))] A) (([.ref ax, .int i1] : List Value).toArray) s 0 0 A) (F0 m 48 ls []) := by
        intro  H locs ls hP hD hS hl hf
        refine lv_aload_n hx hb dX7_goesBy_48 rfl (lv_at hl 0 rfl) ?_
        refine va_get (C := RX7) (T := TX7) (N := 17) hx hb hts inX7 hown hK.1 hP 0 rfl rfl 0 (by decide) f7 (fun _ h9 => h9) rfl dX7_goesBy_49 ?_
        refine lv_iconst (v := 5) hx hb dX7_goesBy_52 (by decide) ?_
        refine lv_dup2_11 hx hb dX7_goesBy_53 rfl rfl ?_
        refine a_ild hx hb hK hP 1 rfl (vin (by decide)) 5 (by decide) dX7_goesBy_54 ?_
        refine lv_aload_n hx hb dX7_goesBy_55 rfl (lv_at hl 0 rfl) ?_
        refine va_get (C := RX7) (T := TX7) (N := 17) hx hb hts inX7 hown hK.1 hP 0 rfl rfl 0 (by decide) f7 (fun _ h9 => h9) rfl dX7_goesBy_56 ?_
        refine lv_iconst (v := 0) hx hb dX7_goesBy_59 (by decide) ?_
        refine a_ild hx hb hK hP 1 rfl (vin (by decide)) 0 (by decide) dX7_goesBy_60 ?_
        have hJ69 : ∀ (s0_69 : Int32) (H : Heap) (locs : List Loc) (ls : Array Slot), va_P D vwCl [(ax, .inr (7, [.ref ax_row, .ref ax_text, .int x_letters, .int x_at, .ref ax_read, .ref ax_undone, .int x_undos, .ref ax_order, .ref ax_dones, .int x_away, .int x_bestSet, .ref ax_aside, .ref ax_tapedWho, .ref ax_tapedTill, .int x_taped, .ref ax_kept, .int x_keeps])), (ax_row, .inl (cyI, 28, .inl x_row))] H → va_D A [(ax, .inr (7, [.ref ax_row, .ref ax_text, .int x_letters, .int x_at, .ref ax_read, .ref ax_undone, .int x_undos, .ref ax_order, .ref ax_dones, .int x_away, .int x_bestSet, .ref ax_aside, .ref ax_tapedWho, .ref ax_tapedTill, .int x_taped, .ref ax_kept, .int x_keeps])), (ax_row, .inl (cyI, 28, .inl x_row))] → va_S A s.heap H locs → lv_has ls 4 [(3, .int i3)] → some (i3, upd x_row 5 ((x_row 5) - s0_69)) = some (r, o_x_row) → W p l e rX7_goesBy s m (([.ref ax, .int i1] : List Value).toArray) below meth c H locs 0 0 (MQ below (CQi r D [(ax, .inr (7, [.ref ax_row, .ref ax_text, .int x_letters, .int x_at, .ref ax_read, .ref ax_undone, .int x_undos, .ref ax_order, .ref ax_dones, .int x_away, .int x_bestSet, .ref ax_aside, .ref ax_tapedWho, .ref ax_tapedTill, .int x_taped, .ref ax_kept, .int x_keeps])), (ax_row, .inl (cyI, 28, .inl o_x_row))] A) (([.ref ax, .int i1] : List Value).toArray) s 0 0 A) (F0 m 69 ls [.int s0_69, .int (x_row 5), .int (5 : Int32), .ref ax_row]) := by
          intro s0_69 H locs ls hP hD hS hl hf
          refine lv_isub hx hb dX7_goesBy_69 ?_
          refine a_ist (wn := [(ax, .inr (7, [.ref ax_row, .ref ax_text, .int x_letters, .int x_at, .ref ax_read, .ref ax_undone, .int x_undos, .ref ax_order, .ref ax_dones, .int x_away, .int x_bestSet, .ref ax_aside, .ref ax_tapedWho, .ref ax_tapedTill, .int x_taped, .ref ax_kept, .int x_keeps])), (ax_row, .inl (cyI, 28, .inl (upd x_row 5 ((x_row 5) - s0_69))))]) hx hb hK hP hD hS 1 rfl (vin (by decide)) 5 (by decide) rfl dX7_goesBy_70 (fun H locs hP hD hS => ?_)
          refine lv_iload_n hx hb dX7_goesBy_71 rfl (lv_at hl 0 rfl) ?_
          simp only [Option.some.injEq, Prod.mk.injEq] at hf
          obtain ⟨rfl, rfl⟩ := hf
          exact W.iret hx hb hr (fun t ht hW => ⟨⟨_, (), rfl, rfl, by rw [ht]; exact hP, hD⟩, hS.F ht⟩) hS.2.2 dX7_goesBy_72
        replace hf := jn_h hf
        refine lv_if_le (tgt := 68) hx hb dX7_goesBy_61 (by decide) (fun c61 => ?_) (fun c61 => ?_)
        · replace hf := ip c61 hf
          refine lv_iconst (v := 0) hx hb dX7_goesBy_68 (by decide) ?_
          exact hJ69 (0 : Int32) _ _ _ hP hD hS (lv_sub hl [2] rfl) hf
        · replace hf := iq c61 hf
          refine lv_iload_n hx hb dX7_goesBy_64 rfl (lv_at hl 1 rfl) ?_
          refine lv_goto (tgt := 69) hx hb dX7_goesBy_65 (by decide) ?_
          exact hJ69 i2 _ _ _ hP hD hS (lv_sub hl [2] rfl) hf
      replace hf := jn_h hf
      refine lv_if_le (tgt := 48) hx hb dX7_goesBy_17 (by decide) (fun c17 => ?_) (fun c17 => ?_)
      · replace hf := ip c17 hf
        exact hJ48 _ _ _ hP hD hS (lv_sub hl [0, 1, 2] rfl) hf
      · replace hf := iq c17 hf
        refine lv_iload_n hx hb dX7_goesBy_20 rfl (lv_at hl 1 rfl) ?_
        refine lv_aload_n hx hb dX7_goesBy_21 rfl (lv_at hl 0 rfl) ?_
        refine lv_iconst (v := 0) hx hb dX7_goesBy_22 (by decide) ?_
        obtain ⟨r23, q23, hf⟩ := ob hf
        refine k_i (wc := [(ax, .inr (7, [.ref ax_row, .ref ax_text, .int x_letters, .int x_at, .ref ax_read, .ref ax_undone, .int x_undos, .ref ax_order, .ref ax_dones, .int x_away, .int x_bestSet, .ref ax_aside, .ref ax_tapedWho, .ref ax_tapedTill, .int x_taped, .ref ax_kept, .int x_keeps])), (ax_row, .inl (cyI, 28, .inl x_row))]) (wr := []) (w1 := [(ax, .inr (7, [.ref ax_row, .ref ax_text, .int x_letters, .int x_at, .ref ax_read, .ref ax_undone, .int x_undos, .ref ax_order, .ref ax_dones, .int x_away, .int x_bestSet, .ref ax_aside, .ref ax_tapedWho, .ref ax_tapedTill, .int x_taped, .ref ax_kept, .int x_keeps])), (ax_row, .inl (cyI, 28, .inl x_row))]) (wn := [(ax, .inr (7, [.ref ax_row, .ref ax_text, .int x_letters, .int x_at, .ref ax_read, .ref ax_undone, .int x_undos, .ref ax_order, .ref ax_dones, .int x_away, .int x_bestSet, .ref ax_aside, .ref ax_tapedWho, .ref ax_tapedTill, .int x_taped, .ref ax_kept, .int x_keeps])), (ax_row, .inl (cyI, 28, .inl x_row))]) (va_runV (As := [.int (0 : Int32)]) (rest := [.int i2]) ⟨hx, hb, hml, hown, hts⟩ (c_X7_things l D cyI cyC cyS H.size ax ax_row ax_text ax_read ax_undone ax_order ax_dones ax_aside ax_tapedWho ax_tapedTill ax_kept x_letters x_at x_undos x_away x_bestSet x_taped x_keeps x_row (0 : Int32) q23) (cwV 1 hts gX7_goesBy_X7_things rfl rfl rfl (by decide +kernel) ⟨Nat.le_of_ble_eq_true rfl, Nat.le_of_ble_eq_true rfl⟩) (preV (ci := 7) hK (hP.subm (ws' := [(ax, .inr (7, [.ref ax_row, .ref ax_text, .int x_letters, .int x_at, .ref ax_read, .ref ax_undone, .int x_undos, .ref ax_order, .ref ax_dones, .int x_away, .int x_bestSet, .ref ax_aside, .ref ax_tapedWho, .ref ax_tapedTill, .int x_taped, .ref ax_kept, .int x_keeps])), (ax_row, .inl (cyI, 28, .inl x_row))]) [0, 1] rfl) (hD.sub (ws' := [(ax, .inr (7, [.ref ax_row, .ref ax_text, .int x_letters, .int x_at, .ref ax_read, .ref ax_undone, .int x_undos, .ref ax_order, .ref ax_dones, .int x_away, .int x_bestSet, .ref ax_aside, .ref ax_tapedWho, .ref ax_tapedTill, .int x_taped, .ref ax_kept, .int x_keeps])), (ax_row, .inl (cyI, 28, .inl x_row))]) [0, 1] (by decide) rfl) rfl rfl) rfl rfl hl.1 rfl (lv_room (Nat.le_of_ble_eq_true rfl)) dX7_goesBy_23 ⟨Nat.le_of_ble_eq_true rfl, Nat.le_of_ble_eq_true rfl⟩) hP hD hS hA [0, 1] [] [0, 1] rfl rfl rfl (by decide) (by decide) (by decide) (fun H locs hP hD hS => ?_)
        refine lv_icmp_lt (tgt := 48) hx hb dX7_goesBy_26 (by decide) (fun c26 => ?_) (fun c26 => ?_)
        · replace hf := ip c26 hf
          exact hJ48 _ _ _ hP hD hS (lv_sub hl [0, 1, 2] rfl) hf
        · replace hf := iq c26 hf
          refine lv_iload_n hx hb dX7_goesBy_29 rfl (lv_at hl 1 rfl) ?_
          refine lv_aload_n hx hb dX7_goesBy_30 rfl (lv_at hl 0 rfl) ?_
          refine lv_iconst (v := 0) hx hb dX7_goesBy_31 (by decide) ?_
          obtain ⟨r32, q32, hf⟩ := ob hf
          refine k_i (wc := [(ax, .inr (7, [.ref ax_row, .ref ax_text, .int x_letters, .int x_at, .ref ax_read, .ref ax_undone, .int x_undos, .ref ax_order, .ref ax_dones, .int x_away, .int x_bestSet, .ref ax_aside, .ref ax_tapedWho, .ref ax_tapedTill, .int x_taped, .ref ax_kept, .int x_keeps])), (ax_row, .inl (cyI, 28, .inl x_row))]) (wr := []) (w1 := [(ax, .inr (7, [.ref ax_row, .ref ax_text, .int x_letters, .int x_at, .ref ax_read, .ref ax_undone, .int x_undos, .ref ax_order, .ref ax_dones, .int x_away, .int x_bestSet, .ref ax_aside, .ref ax_tapedWho, .ref ax_tapedTill, .int x_taped, .ref ax_kept, .int x_keeps])), (ax_row, .inl (cyI, 28, .inl x_row))]) (wn := [(ax, .inr (7, [.ref ax_row, .ref ax_text, .int x_letters, .int x_at, .ref ax_read, .ref ax_undone, .int x_undos, .ref ax_order, .ref ax_dones, .int x_away, .int x_bestSet, .ref ax_aside, .ref ax_tapedWho, .ref ax_tapedTill, .int x_taped, .ref ax_kept, .int x_keeps])), (ax_row, .inl (cyI, 28, .inl x_row))]) (va_runV (As := [.int (0 : Int32)]) (rest := [.int i2]) ⟨hx, hb, hml, hown, hts⟩ (c_X7_things l D cyI cyC cyS H.size ax ax_row ax_text ax_read ax_undone ax_order ax_dones ax_aside ax_tapedWho ax_tapedTill ax_kept x_letters x_at x_undos x_away x_bestSet x_taped x_keeps x_row (0 : Int32) q32) (cwV 1 hts gX7_goesBy_X7_things rfl rfl rfl (by decide +kernel) ⟨Nat.le_of_ble_eq_true rfl, Nat.le_of_ble_eq_true rfl⟩) (preV (ci := 7) hK (hP.subm (ws' := [(ax, .inr (7, [.ref ax_row, .ref ax_text, .int x_letters, .int x_at, .ref ax_read, .ref ax_undone, .int x_undos, .ref ax_order, .ref ax_dones, .int x_away, .int x_bestSet, .ref ax_aside, .ref ax_tapedWho, .ref ax_tapedTill, .int x_taped, .ref ax_kept, .int x_keeps])), (ax_row, .inl (cyI, 28, .inl x_row))]) [0, 1] rfl) (hD.sub (ws' := [(ax, .inr (7, [.ref ax_row, .ref ax_text, .int x_letters, .int x_at, .ref ax_read, .ref ax_undone, .int x_undos, .ref ax_order, .ref ax_dones, .int x_away, .int x_bestSet, .ref ax_aside, .ref ax_tapedWho, .ref ax_tapedTill, .int x_taped, .ref ax_kept, .int x_keeps])), (ax_row, .inl (cyI, 28, .inl x_row))]) [0, 1] (by decide) rfl) rfl rfl) rfl rfl hl.1 rfl (lv_room (Nat.le_of_ble_eq_true rfl)) dX7_goesBy_32 ⟨Nat.le_of_ble_eq_true rfl, Nat.le_of_ble_eq_true rfl⟩) hP hD hS hA [0, 1] [] [0, 1] rfl rfl rfl (by decide) (by decide) (by decide) (fun H locs hP hD hS => ?_)
          refine lv_isub hx hb dX7_goesBy_35 ?_
          refine lv_istore_n (lv' := [(2, .int (i2 - r32)), (0, .ref ax), (3, .int i3)]) hx hb dX7_goesBy_36 rfl hl (by decide) rfl (fun ls hl => ?_)
          refine lv_aload_n hx hb dX7_goesBy_37 rfl (lv_at hl 1 rfl) ?_
          refine lv_iconst (v := 0) hx hb dX7_goesBy_38 (by decide) ?_
          obtain ⟨x_row_o39, q39, hf⟩ := ob hf
          refine k_v (wc := [(ax, .inr (7, [.ref ax_row, .ref ax_text, .int x_letters, .int x_at, .ref ax_read, .ref ax_undone, .int x_undos, .ref ax_order, .ref ax_dones, .int x_away, .int x_bestSet, .ref ax_aside, .ref ax_tapedWho, .ref ax_tapedTill, .int x_taped, .ref ax_kept, .int x_keeps])), (ax_row, .inl (cyI, 28, .inl x_row))]) (wr := []) (w1 := [(ax, .inr (7, [.ref ax_row, .ref ax_text, .int x_letters, .int x_at, .ref ax_read, .ref ax_undone, .int x_undos, .ref ax_order, .ref ax_dones, .int x_away, .int x_bestSet, .ref ax_aside, .ref ax_tapedWho, .ref ax_tapedTill, .int x_taped, .ref ax_kept, .int x_keeps])), (ax_row, .inl (cyI, 28, .inl x_row_o39))]) (wn := [(ax, .inr (7, [.ref ax_row, .ref ax_text, .int x_letters, .int x_at, .ref ax_read, .ref ax_undone, .int x_undos, .ref ax_order, .ref ax_dones, .int x_away, .int x_bestSet, .ref ax_aside, .ref ax_tapedWho, .ref ax_tapedTill, .int x_taped, .ref ax_kept, .int x_keeps])), (ax_row, .inl (cyI, 28, .inl x_row_o39))]) (va_runV (As := [.int (0 : Int32)]) (rest := []) ⟨hx, hb, hml, hown, hts⟩ (c_X7_goesAway l D cyI cyC cyS H.size ax ax_row ax_text ax_read ax_undone ax_order ax_dones ax_aside ax_tapedWho ax_tapedTill ax_kept x_letters x_at x_undos x_away x_bestSet x_taped x_keeps x_row (0 : Int32) q39) (cwV 1 hts gX7_goesBy_X7_goesAway rfl rfl rfl (by decide +kernel) ⟨Nat.le_of_ble_eq_true rfl, Nat.le_of_ble_eq_true rfl⟩) (preV (ci := 7) hK (hP.subm (ws' := [(ax, .inr (7, [.ref ax_row, .ref ax_text, .int x_letters, .int x_at, .ref ax_read, .ref ax_undone, .int x_undos, .ref ax_order, .ref ax_dones, .int x_away, .int x_bestSet, .ref ax_aside, .ref ax_tapedWho, .ref ax_tapedTill, .int x_taped, .ref ax_kept, .int x_keeps])), (ax_row, .inl (cyI, 28, .inl x_row))]) [0, 1] rfl) (hD.sub (ws' := [(ax, .inr (7, [.ref ax_row, .ref ax_text, .int x_letters, .int x_at, .ref ax_read, .ref ax_undone, .int x_undos, .ref ax_order, .ref ax_dones, .int x_away, .int x_bestSet, .ref ax_aside, .ref ax_tapedWho, .ref ax_tapedTill, .int x_taped, .ref ax_kept, .int x_keeps])), (ax_row, .inl (cyI, 28, .inl x_row))]) [0, 1] (by decide) rfl) rfl rfl) rfl rfl hl.1 rfl (lv_room (Nat.le_of_ble_eq_true rfl)) dX7_goesBy_39 ⟨Nat.le_of_ble_eq_true rfl, Nat.le_of_ble_eq_true rfl⟩) hP hD hS hA [0, 1] [] [0, 1] rfl rfl rfl (by decide) (by decide) (by decide) (fun H locs hP hD hS => ?_)
          refine lv_iinc (v := i3 + (1 : Int32)) (lv' := [(3, .int (i3 + (1 : Int32))), (2, .int (i2 - r32)), (0, .ref ax)]) hx hb dX7_goesBy_42 hl (k := 2) rfl rfl (by decide) rfl (fun ls hl => ?_)
          refine lv_goto (tgt := 11) hx hb dX7_goesBy_45 (by decide) ?_
          exact ih11 (i2 - r32) (i3 + (1 : Int32)) x_row_o39 _ _ _ hP hD hS (lv_sub hl [2, 1, 0] rfl) hf
  exact hL11 300 (i1 / (x_row 1)) (0 : Int32) x_row _ _ _ hP hD hS (lv_sub hl [2, 1, 0] rfl) hf
abbrev rX7_pass : Room := { frames := 2, cells := 0, slots := 0, locals := 45 }
set_option maxHeartbeats 4000000 in
set_option maxRecDepth 100000 in
theorem c_X7_pass (l : Launch) (D : va_G) (cyI cyC cyS : ClassId) (sz : Nat) (ax : Nat) (ax_row : Nat) (ax_text : Nat) (ax_read : Nat) (ax_undone : Nat) (ax_order : Nat) (ax_dones : Nat) (ax_aside : Nat) (ax_tapedWho : Nat) (ax_tapedTill : Nat) (ax_kept : Nat) (x_letters : Int32) (x_at : Int32) (x_undos : Int32) (x_away : Int32) (x_bestSet : Int32) (x_taped : Int32) (x_keeps : Int32) (x_undone : Nat → Int32) (x_row : Nat → Int32) (i1 : Int32) {r : Int32} {o_x_undos : Int32} {o_x_taped : Int32} {o_x_undone : Nat → Int32} {o_x_row : Nat → Int32} (hf : S_X7_pass i1 x_undos x_taped x_undone x_row = some (r, o_x_undos, o_x_taped, o_x_undone, o_x_row)) : Met l yX7_pass wsX7_pass rX7_pass (Cpre [.ref ax, .int i1] D cyI cyC cyS sz [(ax, .inr (7, [.ref ax_row, .ref ax_text, .int x_letters, .int x_at, .ref ax_read, .ref ax_undone, .int x_undos, .ref ax_order, .ref ax_dones, .int x_away, .int x_bestSet, .ref ax_aside, .ref ax_tapedWho, .ref ax_tapedTill, .int x_taped, .ref ax_kept, .int x_keeps])), (ax_undone, .inl (cyI, 224, .inl x_undone)), (ax_row, .inl (cyI, 28, .inl x_row))]) (CQi r D [(ax, .inr (7, [.ref ax_row, .ref ax_text, .int x_letters, .int x_at, .ref ax_read, .ref ax_undone, .int o_x_undos, .ref ax_order, .ref ax_dones, .int x_away, .int x_bestSet, .ref ax_aside, .ref ax_tapedWho, .ref ax_tapedTill, .int o_x_taped, .ref ax_kept, .int x_keeps])), (ax_undone, .inl (cyI, 224, .inl o_x_undone)), (ax_row, .inl (cyI, 28, .inl o_x_row))] (va_A [(ax, .inr (7, [.ref ax_row, .ref ax_text, .int x_letters, .int x_at, .ref ax_read, .ref ax_undone, .int x_undos, .ref ax_order, .ref ax_dones, .int x_away, .int x_bestSet, .ref ax_aside, .ref ax_tapedWho, .ref ax_tapedTill, .int x_taped, .ref ax_kept, .int x_keeps])), (ax_undone, .inl (cyI, 224, .inl x_undone)), (ax_row, .inl (cyI, 28, .inl x_row))] sz)) 0 0 (va_A [(ax, .inr (7, [.ref ax_row, .ref ax_text, .int x_letters, .int x_at, .ref ax_read, .ref ax_undone, .int x_undos, .ref ax_order, .ref ax_dones, .int x_away, .int x_bestSet, .ref ax_aside, .ref ax_tapedWho, .ref ax_tapedTill, .int x_taped, .ref ax_kept, .int x_keeps])), (ax_undone, .inl (cyI, 224, .inl x_undone)), (ax_row, .inl (cyI, 28, .inl x_row))] sz) := by
  refine Met.ofW (cc := cX7_pass) (maxL := 2) (ret := (some .int)) (by decide) rfl ?_
  intro p e s m args below meth c s₁ B hml hv
  obtain ⟨rfl, hsz, hP, hK, hD0⟩ := hv
  have hx := B.exec
  have hb := B.bytes
  have hr := B.returns
  have hts := atoms_spec (ws := wsX7_pass) B.pre
  have hown : s.vm.findClass RX7 = some m.cls := findClass_of_methodNamed B.named
  have hlocks := B.notSynchronized
  subst hsz
  have hD := hD0.self (sz := s.heap.size)
  generalize hAe : va_A [(ax, .inr (7, [.ref ax_row, .ref ax_text, .int x_letters, .int x_at, .ref ax_read, .ref ax_undone, .int x_undos, .ref ax_order, .ref ax_dones, .int x_away, .int x_bestSet, .ref ax_aside, .ref ax_tapedWho, .ref ax_tapedTill, .int x_taped, .ref ax_kept, .int x_keeps])), (ax_undone, .inl (cyI, 224, .inl x_undone)), (ax_row, .inl (cyI, 28, .inl x_row))] s.heap.size = A at hD ⊢
  have hA : ∀ q : Nat, s.heap.size ≤ q → A q := fun q h => by rw [← hAe]; exact Or.inr h
  have hS : va_S A s.heap s.heap [] := va_S.rf
  have hl := lv_entry ([.ref ax, .int i1]) (n := 2) (Nat.le_of_ble_eq_true rfl)
  rw [lg_entry_eq]
  generalize (lg_sl ([.ref ax, .int i1]) ++ List.replicate (2 - (lg_sl ([.ref ax, .int i1])).length) Slot.unset).toArray = ls at hl ⊢
  have hl : lv_has ls 2 [(0, .ref ax), (1, .int i1)] := hl
  have k111 := hts (.constantLong RX7 111 (200)) (by decide +kernel)
  have f88 := hts (.fieldLink RX7 88 "SecondTillModel" "taped" "I") (by decide +kernel)
  have inX7 : ∀ w ∈ u_ws RX7 TX7 17, w ∈ wsX7_pass := by decide +kernel
  have f7 := hts (.fieldLink RX7 7 "SecondTillModel" "row" "[I") (by decide +kernel)
  unfold S_X7_pass at hf
  have hP : va_P D vwCl [(ax, .inr (7, [.ref ax_row, .ref ax_text, .int x_letters, .int x_at, .ref ax_read, .ref ax_undone, .int x_undos, .ref ax_order, .ref ax_dones, .int x_away, .int x_bestSet, .ref ax_aside, .ref ax_tapedWho, .ref ax_tapedTill, .int x_taped, .ref ax_kept, .int x_keeps])), (ax_undone, .inl (cyI, 224, .inl x_undone)), (ax_row, .inl (cyI, 28, .inl x_row))] s.heap := hP
  suffices hgo : ∀ (H : Heap) (locs : List Loc), va_P D vwCl [(ax, .inr (7, [.ref ax_row, .ref ax_text, .int x_letters, .int x_at, .ref ax_read, .ref ax_undone, .int x_undos, .ref ax_order, .ref ax_dones, .int x_away, .int x_bestSet, .ref ax_aside, .ref ax_tapedWho, .ref ax_tapedTill, .int x_taped, .ref ax_kept, .int x_keeps])), (ax_undone, .inl (cyI, 224, .inl x_undone)), (ax_row, .inl (cyI, 28, .inl x_row))] H → va_S A s.heap H locs → W p l e rX7_pass s m (([.ref ax, .int i1] : List Value).toArray) below meth c H locs 0 0 (MQ below (CQi r D [(ax, .inr (7, [.ref ax_row, .ref ax_text, .int x_letters, .int x_at, .ref ax_read, .ref ax_undone, .int o_x_undos, .ref ax_order, .ref ax_dones, .int x_away, .int x_bestSet, .ref ax_aside, .ref ax_tapedWho, .ref ax_tapedTill, .int o_x_taped, .ref ax_kept, .int x_keeps])), (ax_undone, .inl (cyI, 224, .inl o_x_undone)), (ax_row, .inl (cyI, 28, .inl o_x_row))] A) (([.ref ax, .int i1] : List Value).toArray) s 0 0 A) (F0 m 0 ls []) from hgo _ _ hP hS
  clear hP hS
  intro H locs hP hS
  refine lv_iload_n hx hb dX7_pass_0 rfl (lv_at hl 1 rfl) ?_
  refine lv_i2l (v := i1.toInt64) hx hb dX7_pass_1 rfl ?_
  refine lv_lconst (v := 1) hx hb dX7_pass_2 (by decide) ?_
  refine lv_ldc2 hx hb hown k111 dX7_pass_3 ?_
  obtain ⟨r6, q6, hf⟩ := ob hf
  refine k_i (wc := []) (wr := [(ax, .inr (7, [.ref ax_row, .ref ax_text, .int x_letters, .int x_at, .ref ax_read, .ref ax_undone, .int x_undos, .ref ax_order, .ref ax_dones, .int x_away, .int x_bestSet, .ref ax_aside, .ref ax_tapedWho, .ref ax_tapedTill, .int x_taped, .ref ax_kept, .int x_keeps])), (ax_undone, .inl (cyI, 224, .inl x_undone)), (ax_row, .inl (cyI, 28, .inl x_row))]) (w1 := []) (wn := [(ax, .inr (7, [.ref ax_row, .ref ax_text, .int x_letters, .int x_at, .ref ax_read, .ref ax_undone, .int x_undos, .ref ax_order, .ref ax_dones, .int x_away, .int x_bestSet, .ref ax_aside, .ref ax_tapedWho, .ref ax_tapedTill, .int x_taped, .ref ax_kept, .int x_keeps])), (ax_undone, .inl (cyI, 224, .inl x_undone)), (ax_row, .inl (cyI, 28, .inl x_row))]) (va_runS (As := [.long i1.toInt64, .long (1 : Int64), .long (200 : Int64)]) (rest := []) ⟨hx, hb, hml, hown, hts⟩ (c_X7_in l D cyI cyC cyS H.size i1.toInt64 (1 : Int64) (200 : Int64) q6) (va_cwS 3 hts gX7_pass_X7_in rfl rfl rfl (by decide +kernel) ⟨Nat.le_of_ble_eq_true rfl, Nat.le_of_ble_eq_true rfl⟩) (preS hK (hP.subm (ws' := []) [] rfl) (hD.sub (ws' := []) [] (by decide) rfl)) rfl rfl hl.1 rfl (lv_room (Nat.le_of_ble_eq_true rfl)) dX7_pass_6 ⟨Nat.le_of_ble_eq_true rfl, Nat.le_of_ble_eq_true rfl⟩) hP hD hS hA [] [0, 1, 2] [0, 1, 2] rfl rfl rfl (by decide) (by decide) (by decide) (fun H locs hP hD hS => ?_)
  refine lv_if_ne (tgt := 14) hx hb dX7_pass_9 (by decide) (fun c9 => ?_) (fun c9 => ?_)
  · replace hf := iq c9 hf
    refine lv_aload_n hx hb dX7_pass_14 rfl (lv_at hl 0 rfl) ?_
    obtain ⟨⟨x_undos_o15, x_undone_o15⟩, q15, hf⟩ := ob hf
    replace hf : _ = _ := hf
    refine k_v (wc := [(ax, .inr (7, [.ref ax_row, .ref ax_text, .int x_letters, .int x_at, .ref ax_read, .ref ax_undone, .int x_undos, .ref ax_order, .ref ax_dones, .int x_away, .int x_bestSet, .ref ax_aside, .ref ax_tapedWho, .ref ax_tapedTill, .int x_taped, .ref ax_kept, .int x_keeps])), (ax_undone, .inl (cyI, 224, .inl x_undone)), (ax_row, .inl (cyI, 28, .inl x_row))]) (wr := []) (w1 := [(ax, .inr (7, [.ref ax_row, .ref ax_text, .int x_letters, .int x_at, .ref ax_read, .ref ax_undone, .int x_undos_o15, .ref ax_order, .ref ax_dones, .int x_away, .int x_bestSet, .ref ax_aside, .ref ax_tapedWho, .ref ax_tapedTill, .int x_taped, .ref ax_kept, .int x_keeps])), (ax_undone, .inl (cyI, 224, .inl x_undone_o15)), (ax_row, .inl (cyI, 28, .inl x_row))]) (wn := [(ax, .inr (7, [.ref ax_row, .ref ax_text, .int x_letters, .int x_at, .ref ax_read, .ref ax_undone, .int x_undos_o15, .ref ax_order, .ref ax_dones, .int x_away, .int x_bestSet, .ref ax_aside, .ref ax_tapedWho, .ref ax_tapedTill, .int x_taped, .ref ax_kept, .int x_keeps])), (ax_undone, .inl (cyI, 224, .inl x_undone_o15)), (ax_row, .inl (cyI, 28, .inl x_row))]) (va_runV (As := []) (rest := []) ⟨hx, hb, hml, hown, hts⟩ (c_X7_notes l D cyI cyC cyS H.size ax ax_row ax_text ax_read ax_undone ax_order ax_dones ax_aside ax_tapedWho ax_tapedTill ax_kept x_letters x_at x_undos x_away x_bestSet x_taped x_keeps x_undone x_row q15) (cwV 0 hts gX7_pass_X7_notes rfl rfl rfl (by decide +kernel) ⟨Nat.le_of_ble_eq_true rfl, Nat.le_of_ble_eq_true rfl⟩) (preV (ci := 7) hK (hP.subm (ws' := [(ax, .inr (7, [.ref ax_row, .ref ax_text, .int x_letters, .int x_at, .ref ax_read, .ref ax_undone, .int x_undos, .ref ax_order, .ref ax_dones, .int x_away, .int x_bestSet, .ref ax_aside, .ref ax_tapedWho, .ref ax_tapedTill, .int x_taped, .ref ax_kept, .int x_keeps])), (ax_undone, .inl (cyI, 224, .inl x_undone)), (ax_row, .inl (cyI, 28, .inl x_row))]) [0, 1, 2] rfl) (hD.sub (ws' := [(ax, .inr (7, [.ref ax_row, .ref ax_text, .int x_letters, .int x_at, .ref ax_read, .ref ax_undone, .int x_undos, .ref ax_order, .ref ax_dones, .int x_away, .int x_bestSet, .ref ax_aside, .ref ax_tapedWho, .ref ax_tapedTill, .int x_taped, .ref ax_kept, .int x_keeps])), (ax_undone, .inl (cyI, 224, .inl x_undone)), (ax_row, .inl (cyI, 28, .inl x_row))]) [0, 1, 2] (by decide) rfl) rfl rfl) rfl rfl hl.1 rfl (lv_room (Nat.le_of_ble_eq_true rfl)) dX7_pass_15 ⟨Nat.le_of_ble_eq_true rfl, Nat.le_of_ble_eq_true rfl⟩) hP hD hS hA [0, 1, 2] [] [0, 1, 2] rfl rfl rfl (by decide) (by decide) (by decide) (fun H locs hP hD hS => ?_)
    refine lv_aload_n hx hb dX7_pass_18 rfl (lv_at hl 0 rfl) ?_
    refine lv_iload_n hx hb dX7_pass_19 rfl (lv_at hl 1 rfl) ?_
    obtain ⟨⟨r20, x_row_o20⟩, q20, hf⟩ := ob hf
    replace hf : _ = _ := hf
    refine k_i (wc := [(ax, .inr (7, [.ref ax_row, .ref ax_text, .int x_letters, .int x_at, .ref ax_read, .ref ax_undone, .int x_undos_o15, .ref ax_order, .ref ax_dones, .int x_away, .int x_bestSet, .ref ax_aside, .ref ax_tapedWho, .ref ax_tapedTill, .int x_taped, .ref ax_kept, .int x_keeps])), (ax_row, .inl (cyI, 28, .inl x_row))]) (wr := [(ax_undone, .inl (cyI, 224, .inl x_undone_o15))]) (w1 := [(ax, .inr (7, [.ref ax_row, .ref ax_text, .int x_letters, .int x_at, .ref ax_read, .ref ax_undone, .int x_undos_o15, .ref ax_order, .ref ax_dones, .int x_away, .int x_bestSet, .ref ax_aside, .ref ax_tapedWho, .ref ax_tapedTill, .int x_taped, .ref ax_kept, .int x_keeps])), (ax_row, .inl (cyI, 28, .inl x_row_o20))]) (wn := [(ax, .inr (7, [.ref ax_row, .ref ax_text, .int x_letters, .int x_at, .ref ax_read, .ref ax_undone, .int x_undos_o15, .ref ax_order, .ref ax_dones, .int x_away, .int x_bestSet, .ref ax_aside, .ref ax_tapedWho, .ref ax_tapedTill, .int x_taped, .ref ax_kept, .int x_keeps])), (ax_undone, .inl (cyI, 224, .inl x_undone_o15)), (ax_row, .inl (cyI, 28, .inl x_row_o20))]) (va_runV (As := [.int i1]) (rest := []) ⟨hx, hb, hml, hown, hts⟩ (c_X7_goesBy l D cyI cyC cyS H.size ax ax_row ax_text ax_read ax_undone ax_order ax_dones ax_aside ax_tapedWho ax_tapedTill ax_kept x_letters x_at x_undos_o15 x_away x_bestSet x_taped x_keeps x_row i1 q20) (cwV 1 hts gX7_pass_X7_goesBy rfl rfl rfl (by decide +kernel) ⟨Nat.le_of_ble_eq_true rfl, Nat.le_of_ble_eq_true rfl⟩) (preV (ci := 7) hK (hP.subm (ws' := [(ax, .inr (7, [.ref ax_row, .ref ax_text, .int x_letters, .int x_at, .ref ax_read, .ref ax_undone, .int x_undos_o15, .ref ax_order, .ref ax_dones, .int x_away, .int x_bestSet, .ref ax_aside, .ref ax_tapedWho, .ref ax_tapedTill, .int x_taped, .ref ax_kept, .int x_keeps])), (ax_row, .inl (cyI, 28, .inl x_row))]) [0, 2] rfl) (hD.sub (ws' := [(ax, .inr (7, [.ref ax_row, .ref ax_text, .int x_letters, .int x_at, .ref ax_read, .ref ax_undone, .int x_undos_o15, .ref ax_order, .ref ax_dones, .int x_away, .int x_bestSet, .ref ax_aside, .ref ax_tapedWho, .ref ax_tapedTill, .int x_taped, .ref ax_kept, .int x_keeps])), (ax_row, .inl (cyI, 28, .inl x_row))]) [0, 2] (by decide) rfl) rfl rfl) rfl rfl hl.1 rfl (lv_room (Nat.le_of_ble_eq_true rfl)) dX7_pass_20 ⟨Nat.le_of_ble_eq_true rfl, Nat.le_of_ble_eq_true rfl⟩) hP hD hS hA [0, 2] [1] [1, 0, 2] rfl rfl rfl (by decide) (by decide) (by decide) (fun H locs hP hD hS => ?_)
    refine lv_pop hx hb dX7_pass_23 rfl ?_
    refine lv_aload_n hx hb dX7_pass_24 rfl (lv_at hl 0 rfl) ?_
    refine lv_iconst (v := 0) hx hb dX7_pass_25 (by decide) ?_
    refine a_put (C := RX7) (T := TX7) (N := 17) (wn := [(ax, .inr (7, [.ref ax_row, .ref ax_text, .int x_letters, .int x_at, .ref ax_read, .ref ax_undone, .int x_undos_o15, .ref ax_order, .ref ax_dones, .int x_away, .int x_bestSet, .ref ax_aside, .ref ax_tapedWho, .ref ax_tapedTill, .int (0 : Int32), .ref ax_kept, .int x_keeps])), (ax_undone, .inl (cyI, 224, .inl x_undone_o15)), (ax_row, .inl (cyI, 28, .inl x_row_o20))]) hx hb hts inX7 tyX7 tyX7_ok nmX7 hown hK hP hD hS 0 rfl rfl 14 (by decide) f88 (fun _ h9 => h9) rfl rfl (Nat.le_of_ble_eq_true rfl) rfl dX7_pass_26 (fun H locs hP hD hS => ?_)
    refine lv_aload_n hx hb dX7_pass_29 rfl (lv_at hl 0 rfl) ?_
    refine va_get (C := RX7) (T := TX7) (N := 17) hx hb hts inX7 hown hK.1 hP 0 rfl rfl 0 (by decide) f7 (fun _ h9 => h9) rfl dX7_pass_30 ?_
    refine lv_iconst (v := 0) hx hb dX7_pass_33 (by decide) ?_
    refine a_ild hx hb hK hP 2 rfl (vin (by decide)) 0 (by decide) dX7_pass_34 ?_
    simp only [Option.some.injEq, Prod.mk.injEq] at hf
    obtain ⟨rfl, rfl, rfl, rfl, rfl⟩ := hf
    exact W.iret hx hb hr (fun t ht hW => ⟨⟨_, (), rfl, rfl, by rw [ht]; exact hP, hD⟩, hS.F ht⟩) hS.2.2 dX7_pass_35
  · replace hf := ip c9 hf
    refine lv_iconst (v := -1) hx hb dX7_pass_12 (by decide) ?_
    simp only [Option.some.injEq, Prod.mk.injEq] at hf
    obtain ⟨rfl, rfl, rfl, rfl, rfl⟩ := hf
    exact W.iret hx hb hr (fun t ht hW => ⟨⟨_, (), rfl, rfl, by rw [ht]; exact hP, hD⟩, hS.F ht⟩) hS.2.2 dX7_pass_13
abbrev rX7_slow : Room := { frames := 1, cells := 0, slots := 0, locals := 25 }
set_option maxHeartbeats 4000000 in
set_option maxRecDepth 100000 in
theorem c_X7_slow (l : Launch) (D : va_G) (cyI cyC cyS : ClassId) (sz : Nat) (ax : Nat) (ax_row : Nat) (ax_text : Nat) (ax_read : Nat) (ax_undone : Nat) (ax_order : Nat) (ax_dones : Nat) (ax_aside : Nat) (ax_tapedWho : Nat) (ax_tapedTill : Nat) (ax_kept : Nat) (x_letters : Int32) (x_at : Int32) (x_undos : Int32) (x_away : Int32) (x_bestSet : Int32) (x_taped : Int32) (x_keeps : Int32) (x_undone : Nat → Int32) (x_row : Nat → Int32) (i1 : Int32) {r : Int32} {o_x_undos : Int32} {o_x_undone : Nat → Int32} {o_x_row : Nat → Int32} (hf : S_X7_slow i1 x_undos x_undone x_row = some (r, o_x_undos, o_x_undone, o_x_row)) : Met l yX7_slow wsX7_slow rX7_slow (Cpre [.ref ax, .int i1] D cyI cyC cyS sz [(ax, .inr (7, [.ref ax_row, .ref ax_text, .int x_letters, .int x_at, .ref ax_read, .ref ax_undone, .int x_undos, .ref ax_order, .ref ax_dones, .int x_away, .int x_bestSet, .ref ax_aside, .ref ax_tapedWho, .ref ax_tapedTill, .int x_taped, .ref ax_kept, .int x_keeps])), (ax_undone, .inl (cyI, 224, .inl x_undone)), (ax_row, .inl (cyI, 28, .inl x_row))]) (CQi r D [(ax, .inr (7, [.ref ax_row, .ref ax_text, .int x_letters, .int x_at, .ref ax_read, .ref ax_undone, .int o_x_undos, .ref ax_order, .ref ax_dones, .int x_away, .int x_bestSet, .ref ax_aside, .ref ax_tapedWho, .ref ax_tapedTill, .int x_taped, .ref ax_kept, .int x_keeps])), (ax_undone, .inl (cyI, 224, .inl o_x_undone)), (ax_row, .inl (cyI, 28, .inl o_x_row))] (va_A [(ax, .inr (7, [.ref ax_row, .ref ax_text, .int x_letters, .int x_at, .ref ax_read, .ref ax_undone, .int x_undos, .ref ax_order, .ref ax_dones, .int x_away, .int x_bestSet, .ref ax_aside, .ref ax_tapedWho, .ref ax_tapedTill, .int x_taped, .ref ax_kept, .int x_keeps])), (ax_undone, .inl (cyI, 224, .inl x_undone)), (ax_row, .inl (cyI, 28, .inl x_row))] sz)) 0 0 (va_A [(ax, .inr (7, [.ref ax_row, .ref ax_text, .int x_letters, .int x_at, .ref ax_read, .ref ax_undone, .int x_undos, .ref ax_order, .ref ax_dones, .int x_away, .int x_bestSet, .ref ax_aside, .ref ax_tapedWho, .ref ax_tapedTill, .int x_taped, .ref ax_kept, .int x_keeps])), (ax_undone, .inl (cyI, 224, .inl x_undone)), (ax_row, .inl (cyI, 28, .inl x_row))] sz) := by
  refine Met.ofW (cc := cX7_slow) (maxL := 3) (ret := (some .int)) (by decide) rfl ?_
  intro p e s m args below meth c s₁ B hml hv
  obtain ⟨rfl, hsz, hP, hK, hD0⟩ := hv
  have hx := B.exec
  have hb := B.bytes
  have hr := B.returns
  have hts := atoms_spec (ws := wsX7_slow) B.pre
  have hown : s.vm.findClass RX7 = some m.cls := findClass_of_methodNamed B.named
  have hlocks := B.notSynchronized
  subst hsz
  have hD := hD0.self (sz := s.heap.size)
  generalize hAe : va_A [(ax, .inr (7, [.ref ax_row, .ref ax_text, .int x_letters, .int x_at, .ref ax_read, .ref ax_undone, .int x_undos, .ref ax_order, .ref ax_dones, .int x_away, .int x_bestSet, .ref ax_aside, .ref ax_tapedWho, .ref ax_tapedTill, .int x_taped, .ref ax_kept, .int x_keeps])), (ax_undone, .inl (cyI, 224, .inl x_undone)), (ax_row, .inl (cyI, 28, .inl x_row))] s.heap.size = A at hD ⊢
  have hA : ∀ q : Nat, s.heap.size ≤ q → A q := fun q h => by rw [← hAe]; exact Or.inr h
  have hS : va_S A s.heap s.heap [] := va_S.rf
  have hl := lv_entry ([.ref ax, .int i1]) (n := 3) (Nat.le_of_ble_eq_true rfl)
  rw [lg_entry_eq]
  generalize (lg_sl ([.ref ax, .int i1]) ++ List.replicate (3 - (lg_sl ([.ref ax, .int i1])).length) Slot.unset).toArray = ls at hl ⊢
  have hl : lv_has ls 3 [(0, .ref ax), (1, .int i1)] := hl
  have k99 := hts (.constantLong RX7 99 (9)) (by decide +kernel)
  have f7 := hts (.fieldLink RX7 7 "SecondTillModel" "row" "[I") (by decide +kernel)
  have inX7 : ∀ w ∈ u_ws RX7 TX7 17, w ∈ wsX7_slow := by decide +kernel
  unfold S_X7_slow at hf
  have hP : va_P D vwCl [(ax, .inr (7, [.ref ax_row, .ref ax_text, .int x_letters, .int x_at, .ref ax_read, .ref ax_undone, .int x_undos, .ref ax_order, .ref ax_dones, .int x_away, .int x_bestSet, .ref ax_aside, .ref ax_tapedWho, .ref ax_tapedTill, .int x_taped, .ref ax_kept, .int x_keeps])), (ax_undone, .inl (cyI, 224, .inl x_undone)), (ax_row, .inl (cyI, 28, .inl x_row))] s.heap := hP
  suffices hgo : ∀ (H : Heap) (locs : List Loc), va_P D vwCl [(ax, .inr (7, [.ref ax_row, .ref ax_text, .int x_letters, .int x_at, .ref ax_read, .ref ax_undone, .int x_undos, .ref ax_order, .ref ax_dones, .int x_away, .int x_bestSet, .ref ax_aside, .ref ax_tapedWho, .ref ax_tapedTill, .int x_taped, .ref ax_kept, .int x_keeps])), (ax_undone, .inl (cyI, 224, .inl x_undone)), (ax_row, .inl (cyI, 28, .inl x_row))] H → va_S A s.heap H locs → W p l e rX7_slow s m (([.ref ax, .int i1] : List Value).toArray) below meth c H locs 0 0 (MQ below (CQi r D [(ax, .inr (7, [.ref ax_row, .ref ax_text, .int x_letters, .int x_at, .ref ax_read, .ref ax_undone, .int o_x_undos, .ref ax_order, .ref ax_dones, .int x_away, .int x_bestSet, .ref ax_aside, .ref ax_tapedWho, .ref ax_tapedTill, .int x_taped, .ref ax_kept, .int x_keeps])), (ax_undone, .inl (cyI, 224, .inl o_x_undone)), (ax_row, .inl (cyI, 28, .inl o_x_row))] A) (([.ref ax, .int i1] : List Value).toArray) s 0 0 A) (F0 m 0 ls []) from hgo _ _ hP hS
  clear hP hS
  intro H locs hP hS
  refine lv_iload_n hx hb dX7_slow_0 rfl (lv_at hl 1 rfl) ?_
  refine lv_i2l (v := i1.toInt64) hx hb dX7_slow_1 rfl ?_
  refine lv_lconst (v := 1) hx hb dX7_slow_2 (by decide) ?_
  refine lv_ldc2 hx hb hown k99 dX7_slow_3 ?_
  obtain ⟨r6, q6, hf⟩ := ob hf
  refine k_i (wc := []) (wr := [(ax, .inr (7, [.ref ax_row, .ref ax_text, .int x_letters, .int x_at, .ref ax_read, .ref ax_undone, .int x_undos, .ref ax_order, .ref ax_dones, .int x_away, .int x_bestSet, .ref ax_aside, .ref ax_tapedWho, .ref ax_tapedTill, .int x_taped, .ref ax_kept, .int x_keeps])), (ax_undone, .inl (cyI, 224, .inl x_undone)), (ax_row, .inl (cyI, 28, .inl x_row))]) (w1 := []) (wn := [(ax, .inr (7, [.ref ax_row, .ref ax_text, .int x_letters, .int x_at, .ref ax_read, .ref ax_undone, .int x_undos, .ref ax_order, .ref ax_dones, .int x_away, .int x_bestSet, .ref ax_aside, .ref ax_tapedWho, .ref ax_tapedTill, .int x_taped, .ref ax_kept, .int x_keeps])), (ax_undone, .inl (cyI, 224, .inl x_undone)), (ax_row, .inl (cyI, 28, .inl x_row))]) (va_runS (As := [.long i1.toInt64, .long (1 : Int64), .long (9 : Int64)]) (rest := []) ⟨hx, hb, hml, hown, hts⟩ (c_X7_in l D cyI cyC cyS H.size i1.toInt64 (1 : Int64) (9 : Int64) q6) (va_cwS 3 hts gX7_slow_X7_in rfl rfl rfl (by decide +kernel) ⟨Nat.le_of_ble_eq_true rfl, Nat.le_of_ble_eq_true rfl⟩) (preS hK (hP.subm (ws' := []) [] rfl) (hD.sub (ws' := []) [] (by decide) rfl)) rfl rfl hl.1 rfl (lv_room (Nat.le_of_ble_eq_true rfl)) dX7_slow_6 ⟨Nat.le_of_ble_eq_true rfl, Nat.le_of_ble_eq_true rfl⟩) hP hD hS hA [] [0, 1, 2] [0, 1, 2] rfl rfl rfl (by decide) (by decide) (by decide) (fun H locs hP hD hS => ?_)
  refine lv_if_ne (tgt := 14) hx hb dX7_slow_9 (by decide) (fun c9 => ?_) (fun c9 => ?_)
  · replace hf := iq c9 hf
    refine lv_aload_n hx hb dX7_slow_14 rfl (lv_at hl 0 rfl) ?_
    obtain ⟨⟨x_undos_o15, x_undone_o15⟩, q15, hf⟩ := ob hf
    replace hf : _ = _ := hf
    refine k_v (wc := [(ax, .inr (7, [.ref ax_row, .ref ax_text, .int x_letters, .int x_at, .ref ax_read, .ref ax_undone, .int x_undos, .ref ax_order, .ref ax_dones, .int x_away, .int x_bestSet, .ref ax_aside, .ref ax_tapedWho, .ref ax_tapedTill, .int x_taped, .ref ax_kept, .int x_keeps])), (ax_undone, .inl (cyI, 224, .inl x_undone)), (ax_row, .inl (cyI, 28, .inl x_row))]) (wr := []) (w1 := [(ax, .inr (7, [.ref ax_row, .ref ax_text, .int x_letters, .int x_at, .ref ax_read, .ref ax_undone, .int x_undos_o15, .ref ax_order, .ref ax_dones, .int x_away, .int x_bestSet, .ref ax_aside, .ref ax_tapedWho, .ref ax_tapedTill, .int x_taped, .ref ax_kept, .int x_keeps])), (ax_undone, .inl (cyI, 224, .inl x_undone_o15)), (ax_row, .inl (cyI, 28, .inl x_row))]) (wn := [(ax, .inr (7, [.ref ax_row, .ref ax_text, .int x_letters, .int x_at, .ref ax_read, .ref ax_undone, .int x_undos_o15, .ref ax_order, .ref ax_dones, .int x_away, .int x_bestSet, .ref ax_aside, .ref ax_tapedWho, .ref ax_tapedTill, .int x_taped, .ref ax_kept, .int x_keeps])), (ax_undone, .inl (cyI, 224, .inl x_undone_o15)), (ax_row, .inl (cyI, 28, .inl x_row))]) (va_runV (As := []) (rest := []) ⟨hx, hb, hml, hown, hts⟩ (c_X7_notes l D cyI cyC cyS H.size ax ax_row ax_text ax_read ax_undone ax_order ax_dones ax_aside ax_tapedWho ax_tapedTill ax_kept x_letters x_at x_undos x_away x_bestSet x_taped x_keeps x_undone x_row q15) (cwV 0 hts gX7_slow_X7_notes rfl rfl rfl (by decide +kernel) ⟨Nat.le_of_ble_eq_true rfl, Nat.le_of_ble_eq_true rfl⟩) (preV (ci := 7) hK (hP.subm (ws' := [(ax, .inr (7, [.ref ax_row, .ref ax_text, .int x_letters, .int x_at, .ref ax_read, .ref ax_undone, .int x_undos, .ref ax_order, .ref ax_dones, .int x_away, .int x_bestSet, .ref ax_aside, .ref ax_tapedWho, .ref ax_tapedTill, .int x_taped, .ref ax_kept, .int x_keeps])), (ax_undone, .inl (cyI, 224, .inl x_undone)), (ax_row, .inl (cyI, 28, .inl x_row))]) [0, 1, 2] rfl) (hD.sub (ws' := [(ax, .inr (7, [.ref ax_row, .ref ax_text, .int x_letters, .int x_at, .ref ax_read, .ref ax_undone, .int x_undos, .ref ax_order, .ref ax_dones, .int x_away, .int x_bestSet, .ref ax_aside, .ref ax_tapedWho, .ref ax_tapedTill, .int x_taped, .ref ax_kept, .int x_keeps])), (ax_undone, .inl (cyI, 224, .inl x_undone)), (ax_row, .inl (cyI, 28, .inl x_row))]) [0, 1, 2] (by decide) rfl) rfl rfl) rfl rfl hl.1 rfl (lv_room (Nat.le_of_ble_eq_true rfl)) dX7_slow_15 ⟨Nat.le_of_ble_eq_true rfl, Nat.le_of_ble_eq_true rfl⟩) hP hD hS hA [0, 1, 2] [] [0, 1, 2] rfl rfl rfl (by decide) (by decide) (by decide) (fun H locs hP hD hS => ?_)
    refine lv_aload_n hx hb dX7_slow_18 rfl (lv_at hl 0 rfl) ?_
    refine va_get (C := RX7) (T := TX7) (N := 17) hx hb hts inX7 hown hK.1 hP 0 rfl rfl 0 (by decide) f7 (fun _ h9 => h9) rfl dX7_slow_19 ?_
    refine lv_iconst (v := 2) hx hb dX7_slow_22 (by decide) ?_
    refine a_ild hx hb hK hP 2 rfl (vin (by decide)) 2 (by decide) dX7_slow_23 ?_
    refine lv_istore_n (lv' := [(2, .int (x_row 2)), (0, .ref ax), (1, .int i1)]) hx hb dX7_slow_24 rfl hl (by decide) rfl (fun ls hl => ?_)
    refine lv_aload_n hx hb dX7_slow_25 rfl (lv_at hl 1 rfl) ?_
    refine va_get (C := RX7) (T := TX7) (N := 17) hx hb hts inX7 hown hK.1 hP 0 rfl rfl 0 (by decide) f7 (fun _ h9 => h9) rfl dX7_slow_26 ?_
    refine lv_iconst (v := 2) hx hb dX7_slow_29 (by decide) ?_
    refine lv_iload_n hx hb dX7_slow_30 rfl (lv_at hl 2 rfl) ?_
    refine a_ist (wn := [(ax, .inr (7, [.ref ax_row, .ref ax_text, .int x_letters, .int x_at, .ref ax_read, .ref ax_undone, .int x_undos_o15, .ref ax_order, .ref ax_dones, .int x_away, .int x_bestSet, .ref ax_aside, .ref ax_tapedWho, .ref ax_tapedTill, .int x_taped, .ref ax_kept, .int x_keeps])), (ax_undone, .inl (cyI, 224, .inl x_undone_o15)), (ax_row, .inl (cyI, 28, .inl (upd x_row 2 i1)))]) hx hb hK hP hD hS 2 rfl (vin (by decide)) 2 (by decide) rfl dX7_slow_31 (fun H locs hP hD hS => ?_)
    refine lv_iload_n hx hb dX7_slow_32 rfl (lv_at hl 0 rfl) ?_
    simp only [Option.some.injEq, Prod.mk.injEq] at hf
    obtain ⟨rfl, rfl, rfl, rfl⟩ := hf
    exact W.iret hx hb hr (fun t ht hW => ⟨⟨_, (), rfl, rfl, by rw [ht]; exact hP, hD⟩, hS.F ht⟩) hS.2.2 dX7_slow_33
  · replace hf := ip c9 hf
    refine lv_iconst (v := -1) hx hb dX7_slow_12 (by decide) ?_
    simp only [Option.some.injEq, Prod.mk.injEq] at hf
    obtain ⟨rfl, rfl, rfl, rfl⟩ := hf
    exact W.iret hx hb hr (fun t ht hW => ⟨⟨_, (), rfl, rfl, by rw [ht]; exact hP, hD⟩, hS.F ht⟩) hS.2.2 dX7_slow_13
abbrev rX7_undo : Room := { frames := 0, cells := 0, slots := 0, locals := 0 }
set_option maxHeartbeats 4000000 in
set_option maxRecDepth 100000 in
theorem c_X7_undo (l : Launch) (D : va_G) (cyI cyC cyS : ClassId) (sz : Nat) (ax : Nat) (ax_row : Nat) (ax_text : Nat) (ax_read : Nat) (ax_undone : Nat) (ax_order : Nat) (ax_dones : Nat) (ax_aside : Nat) (ax_tapedWho : Nat) (ax_tapedTill : Nat) (ax_kept : Nat) (x_letters : Int32) (x_at : Int32) (x_undos : Int32) (x_away : Int32) (x_bestSet : Int32) (x_taped : Int32) (x_keeps : Int32) (x_undone : Nat → Int32) (x_row : Nat → Int32) {r : Int32} {o_x_undos : Int32} {o_x_taped : Int32} {o_x_row : Nat → Int32} (hf : S_X7_undo x_undos x_taped x_undone x_row = some (r, o_x_undos, o_x_taped, o_x_row)) : Met l yX7_undo wsX7_undo rX7_undo (Cpre [.ref ax] D cyI cyC cyS sz [(ax, .inr (7, [.ref ax_row, .ref ax_text, .int x_letters, .int x_at, .ref ax_read, .ref ax_undone, .int x_undos, .ref ax_order, .ref ax_dones, .int x_away, .int x_bestSet, .ref ax_aside, .ref ax_tapedWho, .ref ax_tapedTill, .int x_taped, .ref ax_kept, .int x_keeps])), (ax_undone, .inl (cyI, 224, .inl x_undone)), (ax_row, .inl (cyI, 28, .inl x_row))]) (CQi r D [(ax, .inr (7, [.ref ax_row, .ref ax_text, .int x_letters, .int x_at, .ref ax_read, .ref ax_undone, .int o_x_undos, .ref ax_order, .ref ax_dones, .int x_away, .int x_bestSet, .ref ax_aside, .ref ax_tapedWho, .ref ax_tapedTill, .int o_x_taped, .ref ax_kept, .int x_keeps])), (ax_undone, .inl (cyI, 224, .inl x_undone)), (ax_row, .inl (cyI, 28, .inl o_x_row))] (va_A [(ax, .inr (7, [.ref ax_row, .ref ax_text, .int x_letters, .int x_at, .ref ax_read, .ref ax_undone, .int x_undos, .ref ax_order, .ref ax_dones, .int x_away, .int x_bestSet, .ref ax_aside, .ref ax_tapedWho, .ref ax_tapedTill, .int x_taped, .ref ax_kept, .int x_keeps])), (ax_undone, .inl (cyI, 224, .inl x_undone)), (ax_row, .inl (cyI, 28, .inl x_row))] sz)) 0 0 (va_A [(ax, .inr (7, [.ref ax_row, .ref ax_text, .int x_letters, .int x_at, .ref ax_read, .ref ax_undone, .int x_undos, .ref ax_order, .ref ax_dones, .int x_away, .int x_bestSet, .ref ax_aside, .ref ax_tapedWho, .ref ax_tapedTill, .int x_taped, .ref ax_kept, .int x_keeps])), (ax_undone, .inl (cyI, 224, .inl x_undone)), (ax_row, .inl (cyI, 28, .inl x_row))] sz) := by
  refine Met.ofW (cc := cX7_undo) (maxL := 2) (ret := (some .int)) (by decide) rfl ?_
  intro p e s m args below meth c s₁ B hml hv
  obtain ⟨rfl, hsz, hP, hK, hD0⟩ := hv
  have hx := B.exec
  have hb := B.bytes
  have hr := B.returns
  have hts := atoms_spec (ws := wsX7_undo) B.pre
  have hown : s.vm.findClass RX7 = some m.cls := findClass_of_methodNamed B.named
  have hlocks := B.notSynchronized
  subst hsz
  have hD := hD0.self (sz := s.heap.size)
  generalize hAe : va_A [(ax, .inr (7, [.ref ax_row, .ref ax_text, .int x_letters, .int x_at, .ref ax_read, .ref ax_undone, .int x_undos, .ref ax_order, .ref ax_dones, .int x_away, .int x_bestSet, .ref ax_aside, .ref ax_tapedWho, .ref ax_tapedTill, .int x_taped, .ref ax_kept, .int x_keeps])), (ax_undone, .inl (cyI, 224, .inl x_undone)), (ax_row, .inl (cyI, 28, .inl x_row))] s.heap.size = A at hD ⊢
  have hA : ∀ q : Nat, s.heap.size ≤ q → A q := fun q h => by rw [← hAe]; exact Or.inr h
  have hS : va_S A s.heap s.heap [] := va_S.rf
  have hl := lv_entry ([.ref ax]) (n := 2) (Nat.le_of_ble_eq_true rfl)
  rw [lg_entry_eq]
  generalize (lg_sl ([.ref ax]) ++ List.replicate (2 - (lg_sl ([.ref ax])).length) Slot.unset).toArray = ls at hl ⊢
  have hl : lv_has ls 2 [(0, .ref ax)] := hl
  have f91 := hts (.fieldLink RX7 91 "SecondTillModel" "undos" "I") (by decide +kernel)
  have inX7 : ∀ w ∈ u_ws RX7 TX7 17, w ∈ wsX7_undo := by decide +kernel
  have f88 := hts (.fieldLink RX7 88 "SecondTillModel" "taped" "I") (by decide +kernel)
  have f7 := hts (.fieldLink RX7 7 "SecondTillModel" "row" "[I") (by decide +kernel)
  have f19 := hts (.fieldLink RX7 19 "SecondTillModel" "undone" "[I") (by decide +kernel)
  unfold S_X7_undo at hf
  have hP : va_P D vwCl [(ax, .inr (7, [.ref ax_row, .ref ax_text, .int x_letters, .int x_at, .ref ax_read, .ref ax_undone, .int x_undos, .ref ax_order, .ref ax_dones, .int x_away, .int x_bestSet, .ref ax_aside, .ref ax_tapedWho, .ref ax_tapedTill, .int x_taped, .ref ax_kept, .int x_keeps])), (ax_undone, .inl (cyI, 224, .inl x_undone)), (ax_row, .inl (cyI, 28, .inl x_row))] s.heap := hP
  suffices hgo : ∀ (H : Heap) (locs : List Loc), va_P D vwCl [(ax, .inr (7, [.ref ax_row, .ref ax_text, .int x_letters, .int x_at, .ref ax_read, .ref ax_undone, .int x_undos, .ref ax_order, .ref ax_dones, .int x_away, .int x_bestSet, .ref ax_aside, .ref ax_tapedWho, .ref ax_tapedTill, .int x_taped, .ref ax_kept, .int x_keeps])), (ax_undone, .inl (cyI, 224, .inl x_undone)), (ax_row, .inl (cyI, 28, .inl x_row))] H → va_S A s.heap H locs → W p l e rX7_undo s m (([.ref ax] : List Value).toArray) below meth c H locs 0 0 (MQ below (CQi r D [(ax, .inr (7, [.ref ax_row, .ref ax_text, .int x_letters, .int x_at, .ref ax_read, .ref ax_undone, .int o_x_undos, .ref ax_order, .ref ax_dones, .int x_away, .int x_bestSet, .ref ax_aside, .ref ax_tapedWho, .ref ax_tapedTill, .int o_x_taped, .ref ax_kept, .int x_keeps])), (ax_undone, .inl (cyI, 224, .inl x_undone)), (ax_row, .inl (cyI, 28, .inl o_x_row))] A) (([.ref ax] : List Value).toArray) s 0 0 A) (F0 m 0 ls []) from hgo _ _ hP hS
  clear hP hS
  intro H locs hP hS
  refine lv_aload_n hx hb dX7_undo_0 rfl (lv_at hl 0 rfl) ?_
  refine va_get (C := RX7) (T := TX7) (N := 17) hx hb hts inX7 hown hK.1 hP 0 rfl rfl 6 (by decide) f91 (fun _ h9 => h9) rfl dX7_undo_1 ?_
  refine lv_if_ne (tgt := 10) hx hb dX7_undo_4 (by decide) (fun c4 => ?_) (fun c4 => ?_)
  · replace hf := iq c4 hf
    refine lv_aload_n hx hb dX7_undo_10 rfl (lv_at hl 0 rfl) ?_
    refine lv_dup hx hb dX7_undo_11 rfl ?_
    refine va_get (C := RX7) (T := TX7) (N := 17) hx hb hts inX7 hown hK.1 hP 0 rfl rfl 6 (by decide) f91 (fun _ h9 => h9) rfl dX7_undo_12 ?_
    refine lv_iconst (v := 1) hx hb dX7_undo_15 (by decide) ?_
    refine lv_isub hx hb dX7_undo_16 ?_
    refine a_put (C := RX7) (T := TX7) (N := 17) (wn := [(ax, .inr (7, [.ref ax_row, .ref ax_text, .int x_letters, .int x_at, .ref ax_read, .ref ax_undone, .int (x_undos - (1 : Int32)), .ref ax_order, .ref ax_dones, .int x_away, .int x_bestSet, .ref ax_aside, .ref ax_tapedWho, .ref ax_tapedTill, .int x_taped, .ref ax_kept, .int x_keeps])), (ax_undone, .inl (cyI, 224, .inl x_undone)), (ax_row, .inl (cyI, 28, .inl x_row))]) hx hb hts inX7 tyX7 tyX7_ok nmX7 hown hK hP hD hS 0 rfl rfl 6 (by decide) f91 (fun _ h9 => h9) rfl rfl (Nat.le_of_ble_eq_true rfl) rfl dX7_undo_17 (fun H locs hP hD hS => ?_)
    refine lv_iconst (v := 0) hx hb dX7_undo_20 (by decide) ?_
    refine lv_istore_n (lv' := [(1, .int (0 : Int32)), (0, .ref ax)]) hx hb dX7_undo_21 rfl hl (by decide) rfl (fun ls hl => ?_)
    have hL22 : ∀ (n22 : Nat) (x_undos : Int32) (x_taped : Int32) (i1 : Int32) (x_row : Nat → Int32) (H : Heap) (locs : List Loc) (ls : Array Slot), va_P D vwCl [(ax, .inr (7, [.ref ax_row, .ref ax_text, .int x_letters, .int x_at, .ref ax_read, .ref ax_undone, .int x_undos, .ref ax_order, .ref ax_dones, .int x_away, .int x_bestSet, .ref ax_aside, .ref ax_tapedWho, .ref ax_tapedTill, .int x_taped, .ref ax_kept, .int x_keeps])), (ax_undone, .inl (cyI, 224, .inl x_undone)), (ax_row, .inl (cyI, 28, .inl x_row))] H → va_D A [(ax, .inr (7, [.ref ax_row, .ref ax_text, .int x_letters, .int x_at, .ref ax_read, .ref ax_undone, .int x_undos, .ref ax_order, .ref ax_dones, .int x_away, .int x_bestSet, .ref ax_aside, .ref ax_tapedWho, .ref ax_tapedTill, .int x_taped, .ref ax_kept, .int x_keeps])), (ax_undone, .inl (cyI, 224, .inl x_undone)), (ax_row, .inl (cyI, 28, .inl x_row))] → va_S A s.heap H locs → lv_has ls 2 [(0, .ref ax), (1, .int i1)] → S_X7_undo_L22 x_undos x_undone n22 i1 x_row = some (r, o_x_undos, o_x_taped, o_x_row) → W p l e rX7_undo s m (([.ref ax] : List Value).toArray) below meth c H locs 0 0 (MQ below (CQi r D [(ax, .inr (7, [.ref ax_row, .ref ax_text, .int x_letters, .int x_at, .ref ax_read, .ref ax_undone, .int o_x_undos, .ref ax_order, .ref ax_dones, .int x_away, .int x_bestSet, .ref ax_aside, .ref ax_tapedWho, .ref ax_tapedTill, .int o_x_taped, .ref ax_kept, .int x_keeps])), (ax_undone, .inl (cyI, 224, .inl x_undone)), (ax_row, .inl (cyI, 28, .inl o_x_row))] A) (([.ref ax] : List Value).toArray) s 0 0 A) (F0 m 22 ls []) := by
      intro n22
      induction n22 with
      | zero => intro x_undos x_taped i1 x_row H locs ls hP hD hS hl hf; exact absurd hf (by simp [S_X7_undo_L22])
      | succ n22 ih22 =>
        intro x_undos x_taped i1 x_row H locs ls hP hD hS hl hf
        rw [S_X7_undo_L22] at hf
        refine lv_iload_n hx hb dX7_undo_22 rfl (lv_at hl 1 rfl) ?_
        refine lv_bipush (v := 28) hx hb dX7_undo_23 (by decide) ?_
        refine lv_icmp_ge (tgt := 54) hx hb dX7_undo_25 (by decide) (fun c25 => ?_) (fun c25 => ?_)
        · replace hf := ip c25 hf
          refine lv_aload_n hx hb dX7_undo_54 rfl (lv_at hl 0 rfl) ?_
          refine lv_iconst (v := 0) hx hb dX7_undo_55 (by decide) ?_
          refine a_put (C := RX7) (T := TX7) (N := 17) (wn := [(ax, .inr (7, [.ref ax_row, .ref ax_text, .int x_letters, .int x_at, .ref ax_read, .ref ax_undone, .int x_undos, .ref ax_order, .ref ax_dones, .int x_away, .int x_bestSet, .ref ax_aside, .ref ax_tapedWho, .ref ax_tapedTill, .int (0 : Int32), .ref ax_kept, .int x_keeps])), (ax_undone, .inl (cyI, 224, .inl x_undone)), (ax_row, .inl (cyI, 28, .inl x_row))]) hx hb hts inX7 tyX7 tyX7_ok nmX7 hown hK hP hD hS 0 rfl rfl 14 (by decide) f88 (fun _ h9 => h9) rfl rfl (Nat.le_of_ble_eq_true rfl) rfl dX7_undo_56 (fun H locs hP hD hS => ?_)
          refine lv_aload_n hx hb dX7_undo_59 rfl (lv_at hl 0 rfl) ?_
          refine va_get (C := RX7) (T := TX7) (N := 17) hx hb hts inX7 hown hK.1 hP 0 rfl rfl 6 (by decide) f91 (fun _ h9 => h9) rfl dX7_undo_60 ?_
          simp only [Option.some.injEq, Prod.mk.injEq] at hf
          obtain ⟨rfl, rfl, rfl, rfl⟩ := hf
          exact W.iret hx hb hr (fun t ht hW => ⟨⟨_, (), rfl, rfl, by rw [ht]; exact hP, hD⟩, hS.F ht⟩) hS.2.2 dX7_undo_63
        · replace hf := iq c25 hf
          refine lv_aload_n hx hb dX7_undo_28 rfl (lv_at hl 0 rfl) ?_
          refine va_get (C := RX7) (T := TX7) (N := 17) hx hb hts inX7 hown hK.1 hP 0 rfl rfl 0 (by decide) f7 (fun _ h9 => h9) rfl dX7_undo_29 ?_
          refine lv_iload_n hx hb dX7_undo_32 rfl (lv_at hl 1 rfl) ?_
          refine lv_aload_n hx hb dX7_undo_33 rfl (lv_at hl 0 rfl) ?_
          refine va_get (C := RX7) (T := TX7) (N := 17) hx hb hts inX7 hown hK.1 hP 0 rfl rfl 5 (by decide) f19 (fun _ h9 => h9) rfl dX7_undo_34 ?_
          refine lv_bipush (v := 28) hx hb dX7_undo_37 (by decide) ?_
          refine lv_aload_n hx hb dX7_undo_39 rfl (lv_at hl 0 rfl) ?_
          refine va_get (C := RX7) (T := TX7) (N := 17) hx hb hts inX7 hown hK.1 hP 0 rfl rfl 6 (by decide) f91 (fun _ h9 => h9) rfl dX7_undo_40 ?_
          refine lv_imul hx hb dX7_undo_43 ?_
          refine lv_iload_n hx hb dX7_undo_44 rfl (lv_at hl 1 rfl) ?_
          refine lv_iadd hx hb dX7_undo_45 ?_
          obtain ⟨z46, hf⟩ := oi hf
          refine a_ild hx hb hK hP 1 rfl z46 (((28 : Int32) * x_undos) + i1).toNatClampNeg rfl dX7_undo_46 ?_
          obtain ⟨z47, hf⟩ := oi hf
          refine a_ist (wn := [(ax, .inr (7, [.ref ax_row, .ref ax_text, .int x_letters, .int x_at, .ref ax_read, .ref ax_undone, .int x_undos, .ref ax_order, .ref ax_dones, .int x_away, .int x_bestSet, .ref ax_aside, .ref ax_tapedWho, .ref ax_tapedTill, .int x_taped, .ref ax_kept, .int x_keeps])), (ax_undone, .inl (cyI, 224, .inl x_undone)), (ax_row, .inl (cyI, 28, .inl (upd x_row i1.toNatClampNeg (x_undone (((28 : Int32) * x_undos) + i1).toNatClampNeg))))]) hx hb hK hP hD hS 2 rfl z47 i1.toNatClampNeg rfl rfl dX7_undo_47 (fun H locs hP hD hS => ?_)
          refine lv_iinc (v := i1 + (1 : Int32)) (lv' := [(1, .int (i1 + (1 : Int32))), (0, .ref ax)]) hx hb dX7_undo_48 hl (k := 1) rfl rfl (by decide) rfl (fun ls hl => ?_)
          refine lv_goto (tgt := 22) hx hb dX7_undo_51 (by decide) ?_
          exact ih22 x_undos x_taped (i1 + (1 : Int32)) (upd x_row i1.toNatClampNeg (x_undone (((28 : Int32) * x_undos) + i1).toNatClampNeg)) _ _ _ hP hD hS (lv_sub hl [1, 0] rfl) hf
    exact hL22 300 (x_undos - (1 : Int32)) x_taped (0 : Int32) x_row _ _ _ hP hD hS (lv_sub hl [1, 0] rfl) hf
  · replace hf := ip c4 hf
    refine lv_bipush (v := -2) hx hb dX7_undo_7 (by decide) ?_
    simp only [Option.some.injEq, Prod.mk.injEq] at hf
    obtain ⟨rfl, rfl, rfl, rfl⟩ := hf
    exact W.iret hx hb hr (fun t ht hW => ⟨⟨_, (), rfl, rfl, by rw [ht]; exact hP, hD⟩, hS.F ht⟩) hS.2.2 dX7_undo_9
