abbrev rX7_leastOf : Room := { frames := 4, cells := 0, slots := 0, locals := 90 }
set_option maxHeartbeats 4000000 in
set_option maxRecDepth 100000 in
theorem c_X7_leastOf (l : Launch) (D : va_G) (cyI cyC cyS : ClassId) (sz : Nat) (ax : Nat) (ax_row : Nat) (ax_text : Nat) (ax_read : Nat) (ax_undone : Nat) (ax_order : Nat) (ax_dones : Nat) (ax_aside : Nat) (ax_tapedWho : Nat) (ax_tapedTill : Nat) (ax_kept : Nat) (x_letters : Int32) (x_at : Int32) (x_undos : Int32) (x_away : Int32) (x_bestSet : Int32) (x_taped : Int32) (x_keeps : Int32) (x_row : Nat → Int32) (x_order : Nat → Int32) (x_dones : Nat → Int32) (i1 : Int32) (i2 : Int32) {r : Int32} {o_x_away : Int32} {o_x_bestSet : Int32} {o_x_order : Nat → Int32} {o_x_dones : Nat → Int32} (hf : S_X7_leastOf i1 i2 x_away x_bestSet x_row x_order x_dones = some (r, o_x_away, o_x_bestSet, o_x_order, o_x_dones)) : Met l yX7_leastOf wsX7_leastOf rX7_leastOf (Cpre [.ref ax, .int i1, .int i2] D cyI cyC cyS sz [(ax, .inr (7, [.ref ax_row, .ref ax_text, .int x_letters, .int x_at, .ref ax_read, .ref ax_undone, .int x_undos, .ref ax_order, .ref ax_dones, .int x_away, .int x_bestSet, .ref ax_aside, .ref ax_tapedWho, .ref ax_tapedTill, .int x_taped, .ref ax_kept, .int x_keeps])), (ax_row, .inl (cyI, 28, .inl x_row)), (ax_order, .inl (cyI, 8, .inl x_order)), (ax_dones, .inl (cyI, 8, .inl x_dones))]) (CQi r D [(ax, .inr (7, [.ref ax_row, .ref ax_text, .int x_letters, .int x_at, .ref ax_read, .ref ax_undone, .int x_undos, .ref ax_order, .ref ax_dones, .int o_x_away, .int o_x_bestSet, .ref ax_aside, .ref ax_tapedWho, .ref ax_tapedTill, .int x_taped, .ref ax_kept, .int x_keeps])), (ax_row, .inl (cyI, 28, .inl x_row)), (ax_order, .inl (cyI, 8, .inl o_x_order)), (ax_dones, .inl (cyI, 8, .inl o_x_dones))] (va_A [(ax, .inr (7, [.ref ax_row, .ref ax_text, .int x_letters, .int x_at, .ref ax_read, .ref ax_undone, .int x_undos, .ref ax_order, .ref ax_dones, .int x_away, .int x_bestSet, .ref ax_aside, .ref ax_tapedWho, .ref ax_tapedTill, .int x_taped, .ref ax_kept, .int x_keeps])), (ax_row, .inl (cyI, 28, .inl x_row)), (ax_order, .inl (cyI, 8, .inl x_order)), (ax_dones, .inl (cyI, 8, .inl x_dones))] sz)) 0 0 (va_A [(ax, .inr (7, [.ref ax_row, .ref ax_text, .int x_letters, .int x_at, .ref ax_read, .ref ax_undone, .int x_undos, .ref ax_order, .ref ax_dones, .int x_away, .int x_bestSet, .ref ax_aside, .ref ax_tapedWho, .ref ax_tapedTill, .int x_taped, .ref ax_kept, .int x_keeps])), (ax_row, .inl (cyI, 28, .inl x_row)), (ax_order, .inl (cyI, 8, .inl x_order)), (ax_dones, .inl (cyI, 8, .inl x_dones))] sz) := by
  refine Met.ofW (cc := cX7_leastOf) (maxL := 6) (ret := (some .int)) (by decide) rfl ?_
  intro p e s m args below meth c s₁ B hml hv
  obtain ⟨rfl, hsz, hP, hK, hD0⟩ := hv
  have hx := B.exec
  have hb := B.bytes
  have hr := B.returns
  have hts := atoms_spec (ws := wsX7_leastOf) B.pre
  have hown : s.vm.findClass RX7 = some m.cls := findClass_of_methodNamed B.named
  have hlocks := B.notSynchronized
  subst hsz
  have hD := hD0.self (sz := s.heap.size)
  generalize hAe : va_A [(ax, .inr (7, [.ref ax_row, .ref ax_text, .int x_letters, .int x_at, .ref ax_read, .ref ax_undone, .int x_undos, .ref ax_order, .ref ax_dones, .int x_away, .int x_bestSet, .ref ax_aside, .ref ax_tapedWho, .ref ax_tapedTill, .int x_taped, .ref ax_kept, .int x_keeps])), (ax_row, .inl (cyI, 28, .inl x_row)), (ax_order, .inl (cyI, 8, .inl x_order)), (ax_dones, .inl (cyI, 8, .inl x_dones))] s.heap.size = A at hD ⊢
  have hA : ∀ q : Nat, s.heap.size ≤ q → A q := fun q h => by rw [← hAe]; exact Or.inr h
  have hS : va_S A s.heap s.heap [] := va_S.rf
  have hl := lv_entry ([.ref ax, .int i1, .int i2]) (n := 6) (Nat.le_of_ble_eq_true rfl)
  rw [lg_entry_eq]
  generalize (lg_sl ([.ref ax, .int i1, .int i2]) ++ List.replicate (6 - (lg_sl ([.ref ax, .int i1, .int i2])).length) Slot.unset).toArray = ls at hl ⊢
  have hl : lv_has ls 6 [(0, .ref ax), (1, .int i1), (2, .int i2)] := hl
  have f7 := hts (.fieldLink RX7 7 "SecondTillModel" "row" "[I") (by decide +kernel)
  have inX7 : ∀ w ∈ u_ws RX7 TX7 17, w ∈ wsX7_leastOf := by decide +kernel
  have f166 := hts (.fieldLink RX7 166 "SecondTillModel" "bestSet" "I") (by decide +kernel)
  unfold S_X7_leastOf at hf
  have hP : va_P D vwCl [(ax, .inr (7, [.ref ax_row, .ref ax_text, .int x_letters, .int x_at, .ref ax_read, .ref ax_undone, .int x_undos, .ref ax_order, .ref ax_dones, .int x_away, .int x_bestSet, .ref ax_aside, .ref ax_tapedWho, .ref ax_tapedTill, .int x_taped, .ref ax_kept, .int x_keeps])), (ax_row, .inl (cyI, 28, .inl x_row)), (ax_order, .inl (cyI, 8, .inl x_order)), (ax_dones, .inl (cyI, 8, .inl x_dones))] s.heap := hP
  suffices hgo : ∀ (H : Heap) (locs : List Loc), va_P D vwCl [(ax, .inr (7, [.ref ax_row, .ref ax_text, .int x_letters, .int x_at, .ref ax_read, .ref ax_undone, .int x_undos, .ref ax_order, .ref ax_dones, .int x_away, .int x_bestSet, .ref ax_aside, .ref ax_tapedWho, .ref ax_tapedTill, .int x_taped, .ref ax_kept, .int x_keeps])), (ax_row, .inl (cyI, 28, .inl x_row)), (ax_order, .inl (cyI, 8, .inl x_order)), (ax_dones, .inl (cyI, 8, .inl x_dones))] H → va_S A s.heap H locs → W p l e rX7_leastOf s m (([.ref ax, .int i1, .int i2] : List Value).toArray) below meth c H locs 0 0 (MQ below (CQi r D [(ax, .inr (7, [.ref ax_row, .ref ax_text, .int x_letters, .int x_at, .ref ax_read, .ref ax_undone, .int x_undos, .ref ax_order, .ref ax_dones, .int o_x_away, .int o_x_bestSet, .ref ax_aside, .ref ax_tapedWho, .ref ax_tapedTill, .int x_taped, .ref ax_kept, .int x_keeps])), (ax_row, .inl (cyI, 28, .inl x_row)), (ax_order, .inl (cyI, 8, .inl o_x_order)), (ax_dones, .inl (cyI, 8, .inl o_x_dones))] A) (([.ref ax, .int i1, .int i2] : List Value).toArray) s 0 0 A) (F0 m 0 ls []) from hgo _ _ hP hS
  clear hP hS
  intro H locs hP hS
  refine lv_iconst (v := -1) hx hb dX7_leastOf_0 (by decide) ?_
  refine lv_istore_n (lv' := [(3, .int (-1 : Int32)), (0, .ref ax), (1, .int i1), (2, .int i2)]) hx hb dX7_leastOf_1 rfl hl (by decide) rfl (fun ls hl => ?_)
  refine lv_iconst (v := 0) hx hb dX7_leastOf_2 (by decide) ?_
  refine lv_istore (lv' := [(4, .int (0 : Int32)), (3, .int (-1 : Int32)), (0, .ref ax), (1, .int i1), (2, .int i2)]) hx hb dX7_leastOf_3 hl (by decide) rfl (fun ls hl => ?_)
  have hL5 : ∀ (n5 : Nat) (i3 : Int32) (i4 : Int32) (x_away : Int32) (x_bestSet : Int32) (x_order : Nat → Int32) (x_dones : Nat → Int32) (H : Heap) (locs : List Loc) (ls : Array Slot), va_P D vwCl [(ax, .inr (7, [.ref ax_row, .ref ax_text, .int x_letters, .int x_at, .ref ax_read, .ref ax_undone, .int x_undos, .ref ax_order, .ref ax_dones, .int x_away, .int x_bestSet, .ref ax_aside, .ref ax_tapedWho, .ref ax_tapedTill, .int x_taped, .ref ax_kept, .int x_keeps])), (ax_row, .inl (cyI, 28, .inl x_row)), (ax_order, .inl (cyI, 8, .inl x_order)), (ax_dones, .inl (cyI, 8, .inl x_dones))] H → va_D A [(ax, .inr (7, [.ref ax_row, .ref ax_text, .int x_letters, .int x_at, .ref ax_read, .ref ax_undone, .int x_undos, .ref ax_order, .ref ax_dones, .int x_away, .int x_bestSet, .ref ax_aside, .ref ax_tapedWho, .ref ax_tapedTill, .int x_taped, .ref ax_kept, .int x_keeps])), (ax_row, .inl (cyI, 28, .inl x_row)), (ax_order, .inl (cyI, 8, .inl x_order)), (ax_dones, .inl (cyI, 8, .inl x_dones))] → va_S A s.heap H locs → lv_has ls 6 [(0, .ref ax), (1, .int i1), (2, .int i2), (3, .int i3), (4, .int i4)] → S_X7_leastOf_L5 i1 i2 x_row n5 i3 i4 x_away x_bestSet x_order x_dones = some (r, o_x_away, o_x_bestSet, o_x_order, o_x_dones) → W p l e rX7_leastOf s m (([.ref ax, .int i1, .int i2] : List Value).toArray) below meth c H locs 0 0 (MQ below (CQi r D [(ax, .inr (7, [.ref ax_row, .ref ax_text, .int x_letters, .int x_at, .ref ax_read, .ref ax_undone, .int x_undos, .ref ax_order, .ref ax_dones, .int o_x_away, .int o_x_bestSet, .ref ax_aside, .ref ax_tapedWho, .ref ax_tapedTill, .int x_taped, .ref ax_kept, .int x_keeps])), (ax_row, .inl (cyI, 28, .inl x_row)), (ax_order, .inl (cyI, 8, .inl o_x_order)), (ax_dones, .inl (cyI, 8, .inl o_x_dones))] A) (([.ref ax, .int i1, .int i2] : List Value).toArray) s 0 0 A) (F0 m 5 ls []) := by
    intro n5
    induction n5 with
    | zero => intro i3 i4 x_away x_bestSet x_order x_dones H locs ls hP hD hS hl hf; exact absurd hf (by simp [S_X7_leastOf_L5])
    | succ n5 ih5 =>
      intro i3 i4 x_away x_bestSet x_order x_dones H locs ls hP hD hS hl hf
      rw [S_X7_leastOf_L5] at hf
      refine lv_iload hx hb dX7_leastOf_5 (lv_at hl 4 rfl) ?_
      refine lv_iconst (v := 1) hx hb dX7_leastOf_7 (by decide) ?_
      refine lv_aload_n hx hb dX7_leastOf_8 rfl (lv_at hl 0 rfl) ?_
      refine va_get (C := RX7) (T := TX7) (N := 17) hx hb hts inX7 hown hK.1 hP 0 rfl rfl 0 (by decide) f7 (fun _ h9 => h9) rfl dX7_leastOf_9 ?_
      refine lv_iconst (v := 0) hx hb dX7_leastOf_12 (by decide) ?_
      refine a_ild hx hb hK hP 1 rfl (vin (by decide)) 0 (by decide) dX7_leastOf_13 ?_
      refine lv_ishl hx hb dX7_leastOf_14 ?_
      refine lv_icmp_ge (tgt := 77) hx hb dX7_leastOf_15 (by decide) (fun c15 => ?_) (fun c15 => ?_)
      · replace hf := ip c15 hf
        refine lv_iload_n hx hb dX7_leastOf_77 rfl (lv_at hl 3 rfl) ?_
        simp only [Option.some.injEq, Prod.mk.injEq] at hf
        obtain ⟨rfl, rfl, rfl, rfl, rfl⟩ := hf
        exact W.iret hx hb hr (fun t ht hW => ⟨⟨_, (), rfl, rfl, by rw [ht]; exact hP, hD⟩, hS.F ht⟩) hS.2.2 dX7_leastOf_78
      · replace hf := iq c15 hf
        refine lv_aload_n hx hb dX7_leastOf_18 rfl (lv_at hl 0 rfl) ?_
        refine lv_iload hx hb dX7_leastOf_19 (lv_at hl 4 rfl) ?_
        obtain ⟨⟨x_away_o21, x_order_o21, x_dones_o21⟩, q21, hf⟩ := ob hf
        replace hf : _ = _ := hf
        refine k_v (wc := [(ax, .inr (7, [.ref ax_row, .ref ax_text, .int x_letters, .int x_at, .ref ax_read, .ref ax_undone, .int x_undos, .ref ax_order, .ref ax_dones, .int x_away, .int x_bestSet, .ref ax_aside, .ref ax_tapedWho, .ref ax_tapedTill, .int x_taped, .ref ax_kept, .int x_keeps])), (ax_row, .inl (cyI, 28, .inl x_row)), (ax_order, .inl (cyI, 8, .inl x_order)), (ax_dones, .inl (cyI, 8, .inl x_dones))]) (wr := []) (w1 := [(ax, .inr (7, [.ref ax_row, .ref ax_text, .int x_letters, .int x_at, .ref ax_read, .ref ax_undone, .int x_undos, .ref ax_order, .ref ax_dones, .int x_away_o21, .int x_bestSet, .ref ax_aside, .ref ax_tapedWho, .ref ax_tapedTill, .int x_taped, .ref ax_kept, .int x_keeps])), (ax_row, .inl (cyI, 28, .inl x_row)), (ax_order, .inl (cyI, 8, .inl x_order_o21)), (ax_dones, .inl (cyI, 8, .inl x_dones_o21))]) (wn := [(ax, .inr (7, [.ref ax_row, .ref ax_text, .int x_letters, .int x_at, .ref ax_read, .ref ax_undone, .int x_undos, .ref ax_order, .ref ax_dones, .int x_away_o21, .int x_bestSet, .ref ax_aside, .ref ax_tapedWho, .ref ax_tapedTill, .int x_taped, .ref ax_kept, .int x_keeps])), (ax_row, .inl (cyI, 28, .inl x_row)), (ax_order, .inl (cyI, 8, .inl x_order_o21)), (ax_dones, .inl (cyI, 8, .inl x_dones_o21))]) (va_runV (As := [.int i4]) (rest := []) ⟨hx, hb, hml, hown, hts⟩ (c_X7_sends l D cyI cyC cyS H.size ax ax_row ax_text ax_read ax_undone ax_order ax_dones ax_aside ax_tapedWho ax_tapedTill ax_kept x_letters x_at x_undos x_away x_bestSet x_taped x_keeps x_row x_order x_dones i4 q21) (cwV 1 hts gX7_leastOf_X7_sends rfl rfl rfl (by decide +kernel) ⟨Nat.le_of_ble_eq_true rfl, Nat.le_of_ble_eq_true rfl⟩) (preV (ci := 7) hK (hP.subm (ws' := [(ax, .inr (7, [.ref ax_row, .ref ax_text, .int x_letters, .int x_at, .ref ax_read, .ref ax_undone, .int x_undos, .ref ax_order, .ref ax_dones, .int x_away, .int x_bestSet, .ref ax_aside, .ref ax_tapedWho, .ref ax_tapedTill, .int x_taped, .ref ax_kept, .int x_keeps])), (ax_row, .inl (cyI, 28, .inl x_row)), (ax_order, .inl (cyI, 8, .inl x_order)), (ax_dones, .inl (cyI, 8, .inl x_dones))]) [0, 1, 2, 3] rfl) (hD.sub (ws' := [(ax, .inr (7, [.ref ax_row, .ref ax_text, .int x_letters, .int x_at, .ref ax_read, .ref ax_undone, .int x_undos, .ref ax_order, .ref ax_dones, .int x_away, .int x_bestSet, .ref ax_aside, .ref ax_tapedWho, .ref ax_tapedTill, .int x_taped, .ref ax_kept, .int x_keeps])), (ax_row, .inl (cyI, 28, .inl x_row)), (ax_order, .inl (cyI, 8, .inl x_order)), (ax_dones, .inl (cyI, 8, .inl x_dones))]) [0, 1, 2, 3] (by decide) rfl) rfl rfl) rfl rfl hl.1 rfl (lv_room (Nat.le_of_ble_eq_true rfl)) dX7_leastOf_21 ⟨Nat.le_of_ble_eq_true rfl, Nat.le_of_ble_eq_true rfl⟩) hP hD hS hA [0, 1, 2, 3] [] [0, 1, 2, 3] rfl rfl rfl (by decide) (by decide) (by decide) (fun H locs hP hD hS => ?_)
        refine lv_iload_n hx hb dX7_leastOf_24 rfl (lv_at hl 1 rfl) ?_
        have hJ39 : ∀ (s0_39 : Int32) (H : Heap) (locs : List Loc) (ls : Array Slot), va_P D vwCl [(ax, .inr (7, [.ref ax_row, .ref ax_text, .int x_letters, .int x_at, .ref ax_read, .ref ax_undone, .int x_undos, .ref ax_order, .ref ax_dones, .int x_away_o21, .int x_bestSet, .ref ax_aside, .ref ax_tapedWho, .ref ax_tapedTill, .int x_taped, .ref ax_kept, .int x_keeps])), (ax_row, .inl (cyI, 28, .inl x_row)), (ax_order, .inl (cyI, 8, .inl x_order_o21)), (ax_dones, .inl (cyI, 8, .inl x_dones_o21))] H → va_D A [(ax, .inr (7, [.ref ax_row, .ref ax_text, .int x_letters, .int x_at, .ref ax_read, .ref ax_undone, .int x_undos, .ref ax_order, .ref ax_dones, .int x_away_o21, .int x_bestSet, .ref ax_aside, .ref ax_tapedWho, .ref ax_tapedTill, .int x_taped, .ref ax_kept, .int x_keeps])), (ax_row, .inl (cyI, 28, .inl x_row)), (ax_order, .inl (cyI, 8, .inl x_order_o21)), (ax_dones, .inl (cyI, 8, .inl x_dones_o21))] → va_S A s.heap H locs → lv_has ls 6 [(0, .ref ax), (1, .int i1), (2, .int i2), (3, .int i3), (4, .int i4)] → (jn ((jn (((S_X7_leastOf_L5 i1 i2 x_row n5) s0_39 (i4 + (1 : Int32)) x_away_o21 i4 x_order_o21 x_dones_o21)) (fun J62 =>
(if i3 < 0 then
J62 else
(if i3 ≤ s0_39 then
((S_X7_leastOf_L5 i1 i2 x_row n5) i3 (i4 + (1 : Int32)) x_away_o21 x_bestSet x_order_o21 x_dones_o21) else
J62))))) (fun J52 =>
(if i2 = 0 then
J52 else
(Option.bind (S_X7_overtakings x_row x_dones_o21) (fun r46 =>
(if r46 = 0 then
J52 else
((S_X7_leastOf_L5 i1 i2 x_row n5) i3 (i4 + (1 : Int32)) x_away_o21 x_bestSet x_order_o21 x_dones_o21))))))) = some (r, o_x_away, o_x_bestSet, o_x_order, o_x_dones) → W p l e rX7_leastOf s m (([.ref ax, .int i1, .int i2] : List Value).toArray) below meth c H locs 0 0 (MQ below (CQi r D [(ax, .inr (7, [.ref ax_row, .ref ax_text, .int x_letters, .int x_at, .ref ax_read, .ref ax_undone, .int x_undos, .ref ax_order, .ref ax_dones, .int o_x_away, .int o_x_bestSet, .ref ax_aside, .ref ax_tapedWho, .ref ax_tapedTill, .int x_taped, .ref ax_kept, .int x_keeps])), (ax_row, .inl (cyI, 28, .inl x_row)), (ax_order, .inl (cyI, 8, .inl o_x_order)), (ax_dones, .inl (cyI, 8, .inl o_x_dones))] A) (([.ref ax, .int i1, .int i2] : List Value).toArray) s 0 0 A) (F0 m 39 ls [.int s0_39]) := by
          intro s0_39 H locs ls hP hD hS hl hf
          refine lv_istore (lv' := [(5, .int s0_39), (0, .ref ax), (1, .int i1), (2, .int i2), (3, .int i3), (4, .int i4)]) hx hb dX7_leastOf_39 hl (by decide) rfl (fun ls hl => ?_)
          refine lv_iload_n hx hb dX7_leastOf_41 rfl (lv_at hl 3 rfl) ?_
          have hJ52 : ∀ (H : Heap) (locs : List Loc) (ls : Array Slot), va_P D vwCl [(ax, .inr (7, [.ref ax_row, .ref ax_text, .int x_letters, .int x_at, .ref ax_read, .ref ax_undone, .int x_undos, .ref ax_order, .ref ax_dones, .int x_away_o21, .int x_bestSet, .ref ax_aside, .ref ax_tapedWho, .ref ax_tapedTill, .int x_taped, .ref ax_kept, .int x_keeps])), (ax_row, .inl (cyI, 28, .inl x_row)), (ax_order, .inl (cyI, 8, .inl x_order_o21)), (ax_dones, .inl (cyI, 8, .inl x_dones_o21))] H → va_D A [(ax, .inr (7, [.ref ax_row, .ref ax_text, .int x_letters, .int x_at, .ref ax_read, .ref ax_undone, .int x_undos, .ref ax_order, .ref ax_dones, .int x_away_o21, .int x_bestSet, .ref ax_aside, .ref ax_tapedWho, .ref ax_tapedTill, .int x_taped, .ref ax_kept, .int x_keeps])), (ax_row, .inl (cyI, 28, .inl x_row)), (ax_order, .inl (cyI, 8, .inl x_order_o21)), (ax_dones, .inl (cyI, 8, .inl x_dones_o21))] → va_S A s.heap H locs → lv_has ls 6 [(0, .ref ax), (1, .int i1), (2, .int i2), (3, .int i3), (4, .int i4), (5, .int s0_39)] → (jn (((S_X7_leastOf_L5 i1 i2 x_row n5) s0_39 (i4 + (1 : Int32)) x_away_o21 i4 x_order_o21 x_dones_o21)) (fun J62 =>
(if i3 < 0 then
J62 else
(if i3 ≤ s0_39 then
((S_X7_leastOf_L5 i1 i2 x_row n5) i3 (i4 + (1 : Int32)) x_away_o21 x_bestSet x_order_o21 x_dones_o21) else
J62)))) = some (r, o_x_away, o_x_bestSet, o_x_order, o_x_dones) → W p l e rX7_leastOf s m (([.ref ax, .int i1, .int i2] : List Value).toArray) below meth c H locs 0 0 (MQ below (CQi r D [(ax, .inr (7, [.ref ax_row, .ref ax_text, .int x_letters, .int x_at, .ref ax_read, .ref ax_undone, .int x_undos, .ref ax_order, .ref ax_dones, .int o_x_away, .int o_x_bestSet, .ref ax_aside, .ref ax_tapedWho, .ref ax_tapedTill, .int x_taped, .ref ax_kept, .int x_keeps])), (ax_row, .inl (cyI, 28, .inl x_row)), (ax_order, .inl (cyI, 8, .inl o_x_order)), (ax_dones, .inl (cyI, 8, .inl o_x_dones))] A) (([.ref ax, .int i1, .int i2] : List Value).toArray) s 0 0 A) (F0 m 52 ls []) := by
            intro  H locs ls hP hD hS hl hf
            refine lv_iload_n hx hb dX7_leastOf_52 rfl (lv_at hl 3 rfl) ?_
            have hJ62 : ∀ (H : Heap) (locs : List Loc) (ls : Array Slot), va_P D vwCl [(ax, .inr (7, [.ref ax_row, .ref ax_text, .int x_letters, .int x_at, .ref ax_read, .ref ax_undone, .int x_undos, .ref ax_order, .ref ax_dones, .int x_away_o21, .int x_bestSet, .ref ax_aside, .ref ax_tapedWho, .ref ax_tapedTill, .int x_taped, .ref ax_kept, .int x_keeps])), (ax_row, .inl (cyI, 28, .inl x_row)), (ax_order, .inl (cyI, 8, .inl x_order_o21)), (ax_dones, .inl (cyI, 8, .inl x_dones_o21))] H → va_D A [(ax, .inr (7, [.ref ax_row, .ref ax_text, .int x_letters, .int x_at, .ref ax_read, .ref ax_undone, .int x_undos, .ref ax_order, .ref ax_dones, .int x_away_o21, .int x_bestSet, .ref ax_aside, .ref ax_tapedWho, .ref ax_tapedTill, .int x_taped, .ref ax_kept, .int x_keeps])), (ax_row, .inl (cyI, 28, .inl x_row)), (ax_order, .inl (cyI, 8, .inl x_order_o21)), (ax_dones, .inl (cyI, 8, .inl x_dones_o21))] → va_S A s.heap H locs → lv_has ls 6 [(0, .ref ax), (1, .int i1), (2, .int i2), (4, .int i4), (5, .int s0_39)] → ((S_X7_leastOf_L5 i1 i2 x_row n5) s0_39 (i4 + (1 : Int32)) x_away_o21 i4 x_order_o21 x_dones_o21) = some (r, o_x_away, o_x_bestSet, o_x_order, o_x_dones) → W p l e rX7_leastOf s m (([.ref ax, .int i1, .int i2] : List Value).toArray) below meth c H locs 0 0 (MQ below (CQi r D [(ax, .inr (7, [.ref ax_row, .ref ax_text, .int x_letters, .int x_at, .ref ax_read, .ref ax_undone, .int x_undos, .ref ax_order, .ref ax_dones, .int o_x_away, .int o_x_bestSet, .ref ax_aside, .ref ax_tapedWho, .ref ax_tapedTill, .int x_taped, .ref ax_kept, .int x_keeps])), (ax_row, .inl (cyI, 28, .inl x_row)), (ax_order, .inl (cyI, 8, .inl o_x_order)), (ax_dones, .inl (cyI, 8, .inl o_x_dones))] A) (([.ref ax, .int i1, .int i2] : List Value).toArray) s 0 0 A) (F0 m 62 ls []) := by
              intro  H locs ls hP hD hS hl hf
              refine lv_iload hx hb dX7_leastOf_62 (lv_at hl 4 rfl) ?_
              refine lv_istore_n (lv' := [(3, .int s0_39), (0, .ref ax), (1, .int i1), (2, .int i2), (4, .int i4), (5, .int s0_39)]) hx hb dX7_leastOf_64 rfl hl (by decide) rfl (fun ls hl => ?_)
              refine lv_aload_n hx hb dX7_leastOf_65 rfl (lv_at hl 1 rfl) ?_
              refine lv_iload hx hb dX7_leastOf_66 (lv_at hl 4 rfl) ?_
              refine a_put (C := RX7) (T := TX7) (N := 17) (wn := [(ax, .inr (7, [.ref ax_row, .ref ax_text, .int x_letters, .int x_at, .ref ax_read, .ref ax_undone, .int x_undos, .ref ax_order, .ref ax_dones, .int x_away_o21, .int i4, .ref ax_aside, .ref ax_tapedWho, .ref ax_tapedTill, .int x_taped, .ref ax_kept, .int x_keeps])), (ax_row, .inl (cyI, 28, .inl x_row)), (ax_order, .inl (cyI, 8, .inl x_order_o21)), (ax_dones, .inl (cyI, 8, .inl x_dones_o21))]) hx hb hts inX7 tyX7 tyX7_ok nmX7 hown hK hP hD hS 0 rfl rfl 10 (by decide) f166 (fun _ h9 => h9) rfl rfl (Nat.le_of_ble_eq_true rfl) rfl dX7_leastOf_68 (fun H locs hP hD hS => ?_)
              refine lv_iinc (v := i4 + (1 : Int32)) (lv' := [(4, .int (i4 + (1 : Int32))), (3, .int s0_39), (0, .ref ax), (1, .int i1), (2, .int i2), (5, .int s0_39)]) hx hb dX7_leastOf_71 hl (k := 4) rfl rfl (by decide) rfl (fun ls hl => ?_)
              refine lv_goto (tgt := 5) hx hb dX7_leastOf_74 (by decide) ?_
              exact ih5 s0_39 (i4 + (1 : Int32)) x_away_o21 i4 x_order_o21 x_dones_o21 _ _ _ hP hD hS (lv_sub hl [2, 3, 4, 1, 0] rfl) hf
            replace hf := jn_h hf
            refine lv_if_lt (tgt := 62) hx hb dX7_leastOf_53 (by decide) (fun c53 => ?_) (fun c53 => ?_)
            · replace hf := ip c53 hf
              exact hJ62 _ _ _ hP hD hS (lv_sub hl [0, 1, 2, 4, 5] rfl) hf
            · replace hf := iq c53 hf
              refine lv_iload hx hb dX7_leastOf_56 (lv_at hl 5 rfl) ?_
              refine lv_iload_n hx hb dX7_leastOf_58 rfl (lv_at hl 3 rfl) ?_
              refine lv_icmp_ge (tgt := 71) hx hb dX7_leastOf_59 (by decide) (fun c59 => ?_) (fun c59 => ?_)
              · replace hf := ip c59 hf
                refine lv_iinc (v := i4 + (1 : Int32)) (lv' := [(4, .int (i4 + (1 : Int32))), (0, .ref ax), (1, .int i1), (2, .int i2), (3, .int i3), (5, .int s0_39)]) hx hb dX7_leastOf_71 hl (k := 4) rfl rfl (by decide) rfl (fun ls hl => ?_)
                refine lv_goto (tgt := 5) hx hb dX7_leastOf_74 (by decide) ?_
                exact ih5 i3 (i4 + (1 : Int32)) x_away_o21 x_bestSet x_order_o21 x_dones_o21 _ _ _ hP hD hS (lv_sub hl [1, 2, 3, 4, 0] rfl) hf
              · replace hf := iq c59 hf
                exact hJ62 _ _ _ hP hD hS (lv_sub hl [0, 1, 2, 4, 5] rfl) hf
          replace hf := jn_h hf
          refine lv_if_eq (tgt := 52) hx hb dX7_leastOf_42 (by decide) (fun c42 => ?_) (fun c42 => ?_)
          · replace hf := ip c42 hf
            exact hJ52 _ _ _ hP hD hS (lv_sub hl [1, 2, 3, 4, 5, 0] rfl) hf
          · replace hf := iq c42 hf
            refine lv_aload_n hx hb dX7_leastOf_45 rfl (lv_at hl 1 rfl) ?_
            obtain ⟨r46, q46, hf⟩ := ob hf
            refine k_i (wc := [(ax, .inr (7, [.ref ax_row, .ref ax_text, .int x_letters, .int x_at, .ref ax_read, .ref ax_undone, .int x_undos, .ref ax_order, .ref ax_dones, .int x_away_o21, .int x_bestSet, .ref ax_aside, .ref ax_tapedWho, .ref ax_tapedTill, .int x_taped, .ref ax_kept, .int x_keeps])), (ax_row, .inl (cyI, 28, .inl x_row)), (ax_dones, .inl (cyI, 8, .inl x_dones_o21))]) (wr := [(ax_order, .inl (cyI, 8, .inl x_order_o21))]) (w1 := [(ax, .inr (7, [.ref ax_row, .ref ax_text, .int x_letters, .int x_at, .ref ax_read, .ref ax_undone, .int x_undos, .ref ax_order, .ref ax_dones, .int x_away_o21, .int x_bestSet, .ref ax_aside, .ref ax_tapedWho, .ref ax_tapedTill, .int x_taped, .ref ax_kept, .int x_keeps])), (ax_row, .inl (cyI, 28, .inl x_row)), (ax_dones, .inl (cyI, 8, .inl x_dones_o21))]) (wn := [(ax, .inr (7, [.ref ax_row, .ref ax_text, .int x_letters, .int x_at, .ref ax_read, .ref ax_undone, .int x_undos, .ref ax_order, .ref ax_dones, .int x_away_o21, .int x_bestSet, .ref ax_aside, .ref ax_tapedWho, .ref ax_tapedTill, .int x_taped, .ref ax_kept, .int x_keeps])), (ax_row, .inl (cyI, 28, .inl x_row)), (ax_order, .inl (cyI, 8, .inl x_order_o21)), (ax_dones, .inl (cyI, 8, .inl x_dones_o21))]) (va_runV (As := []) (rest := []) ⟨hx, hb, hml, hown, hts⟩ (c_X7_overtakings l D cyI cyC cyS H.size ax ax_row ax_text ax_read ax_undone ax_order ax_dones ax_aside ax_tapedWho ax_tapedTill ax_kept x_letters x_at x_undos x_away_o21 x_bestSet x_taped x_keeps x_row x_dones_o21 q46) (cwV 0 hts gX7_leastOf_X7_overtakings rfl rfl rfl (by decide +kernel) ⟨Nat.le_of_ble_eq_true rfl, Nat.le_of_ble_eq_true rfl⟩) (preV (ci := 7) hK (hP.subm (ws' := [(ax, .inr (7, [.ref ax_row, .ref ax_text, .int x_letters, .int x_at, .ref ax_read, .ref ax_undone, .int x_undos, .ref ax_order, .ref ax_dones, .int x_away_o21, .int x_bestSet, .ref ax_aside, .ref ax_tapedWho, .ref ax_tapedTill, .int x_taped, .ref ax_kept, .int x_keeps])), (ax_row, .inl (cyI, 28, .inl x_row)), (ax_dones, .inl (cyI, 8, .inl x_dones_o21))]) [0, 1, 3] rfl) (hD.sub (ws' := [(ax, .inr (7, [.ref ax_row, .ref ax_text, .int x_letters, .int x_at, .ref ax_read, .ref ax_undone, .int x_undos, .ref ax_order, .ref ax_dones, .int x_away_o21, .int x_bestSet, .ref ax_aside, .ref ax_tapedWho, .ref ax_tapedTill, .int x_taped, .ref ax_kept, .int x_keeps])), (ax_row, .inl (cyI, 28, .inl x_row)), (ax_dones, .inl (cyI, 8, .inl x_dones_o21))]) [0, 1, 3] (by decide) rfl) rfl rfl) rfl rfl hl.1 rfl (lv_room (Nat.le_of_ble_eq_true rfl)) dX7_leastOf_46 ⟨Nat.le_of_ble_eq_true rfl, Nat.le_of_ble_eq_true rfl⟩) hP hD hS hA [0, 1, 3] [2] [1, 2, 0, 3] rfl rfl rfl (by decide) (by decide) (by decide) (fun H locs hP hD hS => ?_)
            refine lv_if_ne (tgt := 71) hx hb dX7_leastOf_49 (by decide) (fun c49 => ?_) (fun c49 => ?_)
            · replace hf := iq c49 hf
              refine lv_iinc (v := i4 + (1 : Int32)) (lv' := [(4, .int (i4 + (1 : Int32))), (5, .int s0_39), (0, .ref ax), (1, .int i1), (2, .int i2), (3, .int i3)]) hx hb dX7_leastOf_71 hl (k := 5) rfl rfl (by decide) rfl (fun ls hl => ?_)
              refine lv_goto (tgt := 5) hx hb dX7_leastOf_74 (by decide) ?_
              exact ih5 i3 (i4 + (1 : Int32)) x_away_o21 x_bestSet x_order_o21 x_dones_o21 _ _ _ hP hD hS (lv_sub hl [2, 3, 4, 5, 0] rfl) hf
            · replace hf := ip c49 hf
              exact hJ52 _ _ _ hP hD hS (lv_sub hl [1, 2, 3, 4, 5, 0] rfl) hf
        replace hf := jn_h hf
        refine lv_if_ne (tgt := 35) hx hb dX7_leastOf_25 (by decide) (fun c25 => ?_) (fun c25 => ?_)
        · replace hf := iq c25 hf
          refine lv_aload_n hx hb dX7_leastOf_35 rfl (lv_at hl 0 rfl) ?_
          obtain ⟨r36, q36, hf⟩ := ob hf
          refine k_i (wc := [(ax, .inr (7, [.ref ax_row, .ref ax_text, .int x_letters, .int x_at, .ref ax_read, .ref ax_undone, .int x_undos, .ref ax_order, .ref ax_dones, .int x_away_o21, .int x_bestSet, .ref ax_aside, .ref ax_tapedWho, .ref ax_tapedTill, .int x_taped, .ref ax_kept, .int x_keeps])), (ax_row, .inl (cyI, 28, .inl x_row)), (ax_dones, .inl (cyI, 8, .inl x_dones_o21))]) (wr := [(ax_order, .inl (cyI, 8, .inl x_order_o21))]) (w1 := [(ax, .inr (7, [.ref ax_row, .ref ax_text, .int x_letters, .int x_at, .ref ax_read, .ref ax_undone, .int x_undos, .ref ax_order, .ref ax_dones, .int x_away_o21, .int x_bestSet, .ref ax_aside, .ref ax_tapedWho, .ref ax_tapedTill, .int x_taped, .ref ax_kept, .int x_keeps])), (ax_row, .inl (cyI, 28, .inl x_row)), (ax_dones, .inl (cyI, 8, .inl x_dones_o21))]) (wn := [(ax, .inr (7, [.ref ax_row, .ref ax_text, .int x_letters, .int x_at, .ref ax_read, .ref ax_undone, .int x_undos, .ref ax_order, .ref ax_dones, .int x_away_o21, .int x_bestSet, .ref ax_aside, .ref ax_tapedWho, .ref ax_tapedTill, .int x_taped, .ref ax_kept, .int x_keeps])), (ax_row, .inl (cyI, 28, .inl x_row)), (ax_order, .inl (cyI, 8, .inl x_order_o21)), (ax_dones, .inl (cyI, 8, .inl x_dones_o21))]) (va_runV (As := []) (rest := []) ⟨hx, hb, hml, hown, hts⟩ (c_X7_sum l D cyI cyC cyS H.size ax ax_row ax_text ax_read ax_undone ax_order ax_dones ax_aside ax_tapedWho ax_tapedTill ax_kept x_letters x_at x_undos x_away_o21 x_bestSet x_taped x_keeps x_row x_dones_o21 q36) (cwV 0 hts gX7_leastOf_X7_sum rfl rfl rfl (by decide +kernel) ⟨Nat.le_of_ble_eq_true rfl, Nat.le_of_ble_eq_true rfl⟩) (preV (ci := 7) hK (hP.subm (ws' := [(ax, .inr (7, [.ref ax_row, .ref ax_text, .int x_letters, .int x_at, .ref ax_read, .ref ax_undone, .int x_undos, .ref ax_order, .ref ax_dones, .int x_away_o21, .int x_bestSet, .ref ax_aside, .ref ax_tapedWho, .ref ax_tapedTill, .int x_taped, .ref ax_kept, .int x_keeps])), (ax_row, .inl (cyI, 28, .inl x_row)), (ax_dones, .inl (cyI, 8, .inl x_dones_o21))]) [0, 1, 3] rfl) (hD.sub (ws' := [(ax, .inr (7, [.ref ax_row, .ref ax_text, .int x_letters, .int x_at, .ref ax_read, .ref ax_undone, .int x_undos, .ref ax_order, .ref ax_dones, .int x_away_o21, .int x_bestSet, .ref ax_aside, .ref ax_tapedWho, .ref ax_tapedTill, .int x_taped, .ref ax_kept, .int x_keeps])), (ax_row, .inl (cyI, 28, .inl x_row)), (ax_dones, .inl (cyI, 8, .inl x_dones_o21))]) [0, 1, 3] (by decide) rfl) rfl rfl) rfl rfl hl.1 rfl (lv_room (Nat.le_of_ble_eq_true rfl)) dX7_leastOf_36 ⟨Nat.le_of_ble_eq_true rfl, Nat.le_of_ble_eq_true rfl⟩) hP hD hS hA [0, 1, 3] [2] [1, 2, 0, 3] rfl rfl rfl (by decide) (by decide) (by decide) (fun H locs hP hD hS => ?_)
          exact hJ39 r36 _ _ _ hP hD hS (lv_sub hl [0, 1, 2, 3, 4] rfl) hf
        · replace hf := ip c25 hf
          refine lv_aload_n hx hb dX7_leastOf_28 rfl (lv_at hl 0 rfl) ?_
          obtain ⟨r29, q29, hf⟩ := ob hf
          refine k_i (wc := [(ax, .inr (7, [.ref ax_row, .ref ax_text, .int x_letters, .int x_at, .ref ax_read, .ref ax_undone, .int x_undos, .ref ax_order, .ref ax_dones, .int x_away_o21, .int x_bestSet, .ref ax_aside, .ref ax_tapedWho, .ref ax_tapedTill, .int x_taped, .ref ax_kept, .int x_keeps])), (ax_row, .inl (cyI, 28, .inl x_row)), (ax_dones, .inl (cyI, 8, .inl x_dones_o21))]) (wr := [(ax_order, .inl (cyI, 8, .inl x_order_o21))]) (w1 := [(ax, .inr (7, [.ref ax_row, .ref ax_text, .int x_letters, .int x_at, .ref ax_read, .ref ax_undone, .int x_undos, .ref ax_order, .ref ax_dones, .int x_away_o21, .int x_bestSet, .ref ax_aside, .ref ax_tapedWho, .ref ax_tapedTill, .int x_taped, .ref ax_kept, .int x_keeps])), (ax_row, .inl (cyI, 28, .inl x_row)), (ax_dones, .inl (cyI, 8, .inl x_dones_o21))]) (wn := [(ax, .inr (7, [.ref ax_row, .ref ax_text, .int x_letters, .int x_at, .ref ax_read, .ref ax_undone, .int x_undos, .ref ax_order, .ref ax_dones, .int x_away_o21, .int x_bestSet, .ref ax_aside, .ref ax_tapedWho, .ref ax_tapedTill, .int x_taped, .ref ax_kept, .int x_keeps])), (ax_row, .inl (cyI, 28, .inl x_row)), (ax_order, .inl (cyI, 8, .inl x_order_o21)), (ax_dones, .inl (cyI, 8, .inl x_dones_o21))]) (va_runV (As := []) (rest := []) ⟨hx, hb, hml, hown, hts⟩ (c_X7_latest l D cyI cyC cyS H.size ax ax_row ax_text ax_read ax_undone ax_order ax_dones ax_aside ax_tapedWho ax_tapedTill ax_kept x_letters x_at x_undos x_away_o21 x_bestSet x_taped x_keeps x_row x_dones_o21 q29) (cwV 0 hts gX7_leastOf_X7_latest rfl rfl rfl (by decide +kernel) ⟨Nat.le_of_ble_eq_true rfl, Nat.le_of_ble_eq_true rfl⟩) (preV (ci := 7) hK (hP.subm (ws' := [(ax, .inr (7, [.ref ax_row, .ref ax_text, .int x_letters, .int x_at, .ref ax_read, .ref ax_undone, .int x_undos, .ref ax_order, .ref ax_dones, .int x_away_o21, .int x_bestSet, .ref ax_aside, .ref ax_tapedWho, .ref ax_tapedTill, .int x_taped, .ref ax_kept, .int x_keeps])), (ax_row, .inl (cyI, 28, .inl x_row)), (ax_dones, .inl (cyI, 8, .inl x_dones_o21))]) [0, 1, 3] rfl) (hD.sub (ws' := [(ax, .inr (7, [.ref ax_row, .ref ax_text, .int x_letters, .int x_at, .ref ax_read, .ref ax_undone, .int x_undos, .ref ax_order, .ref ax_dones, .int x_away_o21, .int x_bestSet, .ref ax_aside, .ref ax_tapedWho, .ref ax_tapedTill, .int x_taped, .ref ax_kept, .int x_keeps])), (ax_row, .inl (cyI, 28, .inl x_row)), (ax_dones, .inl (cyI, 8, .inl x_dones_o21))]) [0, 1, 3] (by decide) rfl) rfl rfl) rfl rfl hl.1 rfl (lv_room (Nat.le_of_ble_eq_true rfl)) dX7_leastOf_29 ⟨Nat.le_of_ble_eq_true rfl, Nat.le_of_ble_eq_true rfl⟩) hP hD hS hA [0, 1, 3] [2] [1, 2, 0, 3] rfl rfl rfl (by decide) (by decide) (by decide) (fun H locs hP hD hS => ?_)
          refine lv_goto (tgt := 39) hx hb dX7_leastOf_32 (by decide) ?_
          exact hJ39 r29 _ _ _ hP hD hS (lv_sub hl [0, 1, 2, 3, 4] rfl) hf
  exact hL5 300 (-1 : Int32) (0 : Int32) x_away x_bestSet x_order x_dones _ _ _ hP hD hS (lv_sub hl [2, 3, 4, 1, 0] rfl) hf
abbrev rX7_best : Room := { frames := 5, cells := 0, slots := 0, locals := 115 }
set_option maxHeartbeats 4000000 in
set_option maxRecDepth 100000 in
theorem c_X7_best (l : Launch) (D : va_G) (cyI cyC cyS : ClassId) (sz : Nat) (ax : Nat) (ax_row : Nat) (ax_text : Nat) (ax_read : Nat) (ax_undone : Nat) (ax_order : Nat) (ax_dones : Nat) (ax_aside : Nat) (ax_tapedWho : Nat) (ax_tapedTill : Nat) (ax_kept : Nat) (x_letters : Int32) (x_at : Int32) (x_undos : Int32) (x_away : Int32) (x_bestSet : Int32) (x_taped : Int32) (x_keeps : Int32) (x_row : Nat → Int32) (x_order : Nat → Int32) (x_dones : Nat → Int32) (i1 : Int32) (i2 : Int32) {r : Int32} {o_x_away : Int32} {o_x_bestSet : Int32} {o_x_order : Nat → Int32} {o_x_dones : Nat → Int32} (hf : S_X7_best i1 i2 x_away x_bestSet x_row x_order x_dones = some (r, o_x_away, o_x_bestSet, o_x_order, o_x_dones)) : Met l yX7_best wsX7_best rX7_best (Cpre [.ref ax, .int i1, .int i2] D cyI cyC cyS sz [(ax, .inr (7, [.ref ax_row, .ref ax_text, .int x_letters, .int x_at, .ref ax_read, .ref ax_undone, .int x_undos, .ref ax_order, .ref ax_dones, .int x_away, .int x_bestSet, .ref ax_aside, .ref ax_tapedWho, .ref ax_tapedTill, .int x_taped, .ref ax_kept, .int x_keeps])), (ax_row, .inl (cyI, 28, .inl x_row)), (ax_order, .inl (cyI, 8, .inl x_order)), (ax_dones, .inl (cyI, 8, .inl x_dones))]) (CQi r D [(ax, .inr (7, [.ref ax_row, .ref ax_text, .int x_letters, .int x_at, .ref ax_read, .ref ax_undone, .int x_undos, .ref ax_order, .ref ax_dones, .int o_x_away, .int o_x_bestSet, .ref ax_aside, .ref ax_tapedWho, .ref ax_tapedTill, .int x_taped, .ref ax_kept, .int x_keeps])), (ax_row, .inl (cyI, 28, .inl x_row)), (ax_order, .inl (cyI, 8, .inl o_x_order)), (ax_dones, .inl (cyI, 8, .inl o_x_dones))] (va_A [(ax, .inr (7, [.ref ax_row, .ref ax_text, .int x_letters, .int x_at, .ref ax_read, .ref ax_undone, .int x_undos, .ref ax_order, .ref ax_dones, .int x_away, .int x_bestSet, .ref ax_aside, .ref ax_tapedWho, .ref ax_tapedTill, .int x_taped, .ref ax_kept, .int x_keeps])), (ax_row, .inl (cyI, 28, .inl x_row)), (ax_order, .inl (cyI, 8, .inl x_order)), (ax_dones, .inl (cyI, 8, .inl x_dones))] sz)) 0 0 (va_A [(ax, .inr (7, [.ref ax_row, .ref ax_text, .int x_letters, .int x_at, .ref ax_read, .ref ax_undone, .int x_undos, .ref ax_order, .ref ax_dones, .int x_away, .int x_bestSet, .ref ax_aside, .ref ax_tapedWho, .ref ax_tapedTill, .int x_taped, .ref ax_kept, .int x_keeps])), (ax_row, .inl (cyI, 28, .inl x_row)), (ax_order, .inl (cyI, 8, .inl x_order)), (ax_dones, .inl (cyI, 8, .inl x_dones))] sz) := by
  refine Met.ofW (cc := cX7_best) (maxL := 4) (ret := (some .int)) (by decide) rfl ?_
  intro p e s m args below meth c s₁ B hml hv
  obtain ⟨rfl, hsz, hP, hK, hD0⟩ := hv
  have hx := B.exec
  have hb := B.bytes
  have hr := B.returns
  have hts := atoms_spec (ws := wsX7_best) B.pre
  have hown : s.vm.findClass RX7 = some m.cls := findClass_of_methodNamed B.named
  have hlocks := B.notSynchronized
  subst hsz
  have hD := hD0.self (sz := s.heap.size)
  generalize hAe : va_A [(ax, .inr (7, [.ref ax_row, .ref ax_text, .int x_letters, .int x_at, .ref ax_read, .ref ax_undone, .int x_undos, .ref ax_order, .ref ax_dones, .int x_away, .int x_bestSet, .ref ax_aside, .ref ax_tapedWho, .ref ax_tapedTill, .int x_taped, .ref ax_kept, .int x_keeps])), (ax_row, .inl (cyI, 28, .inl x_row)), (ax_order, .inl (cyI, 8, .inl x_order)), (ax_dones, .inl (cyI, 8, .inl x_dones))] s.heap.size = A at hD ⊢
  have hA : ∀ q : Nat, s.heap.size ≤ q → A q := fun q h => by rw [← hAe]; exact Or.inr h
  have hS : va_S A s.heap s.heap [] := va_S.rf
  have hl := lv_entry ([.ref ax, .int i1, .int i2]) (n := 4) (Nat.le_of_ble_eq_true rfl)
  rw [lg_entry_eq]
  generalize (lg_sl ([.ref ax, .int i1, .int i2]) ++ List.replicate (4 - (lg_sl ([.ref ax, .int i1, .int i2])).length) Slot.unset).toArray = ls at hl ⊢
  have hl : lv_has ls 4 [(0, .ref ax), (1, .int i1), (2, .int i2)] := hl
  have f166 := hts (.fieldLink RX7 166 "SecondTillModel" "bestSet" "I") (by decide +kernel)
  have inX7 : ∀ w ∈ u_ws RX7 TX7 17, w ∈ wsX7_best := by decide +kernel
  unfold S_X7_best at hf
  have hP : va_P D vwCl [(ax, .inr (7, [.ref ax_row, .ref ax_text, .int x_letters, .int x_at, .ref ax_read, .ref ax_undone, .int x_undos, .ref ax_order, .ref ax_dones, .int x_away, .int x_bestSet, .ref ax_aside, .ref ax_tapedWho, .ref ax_tapedTill, .int x_taped, .ref ax_kept, .int x_keeps])), (ax_row, .inl (cyI, 28, .inl x_row)), (ax_order, .inl (cyI, 8, .inl x_order)), (ax_dones, .inl (cyI, 8, .inl x_dones))] s.heap := hP
  suffices hgo : ∀ (H : Heap) (locs : List Loc), va_P D vwCl [(ax, .inr (7, [.ref ax_row, .ref ax_text, .int x_letters, .int x_at, .ref ax_read, .ref ax_undone, .int x_undos, .ref ax_order, .ref ax_dones, .int x_away, .int x_bestSet, .ref ax_aside, .ref ax_tapedWho, .ref ax_tapedTill, .int x_taped, .ref ax_kept, .int x_keeps])), (ax_row, .inl (cyI, 28, .inl x_row)), (ax_order, .inl (cyI, 8, .inl x_order)), (ax_dones, .inl (cyI, 8, .inl x_dones))] H → va_S A s.heap H locs → W p l e rX7_best s m (([.ref ax, .int i1, .int i2] : List Value).toArray) below meth c H locs 0 0 (MQ below (CQi r D [(ax, .inr (7, [.ref ax_row, .ref ax_text, .int x_letters, .int x_at, .ref ax_read, .ref ax_undone, .int x_undos, .ref ax_order, .ref ax_dones, .int o_x_away, .int o_x_bestSet, .ref ax_aside, .ref ax_tapedWho, .ref ax_tapedTill, .int x_taped, .ref ax_kept, .int x_keeps])), (ax_row, .inl (cyI, 28, .inl x_row)), (ax_order, .inl (cyI, 8, .inl o_x_order)), (ax_dones, .inl (cyI, 8, .inl o_x_dones))] A) (([.ref ax, .int i1, .int i2] : List Value).toArray) s 0 0 A) (F0 m 0 ls []) from hgo _ _ hP hS
  clear hP hS
  intro H locs hP hS
  refine lv_iload_n hx hb dX7_best_0 rfl (lv_at hl 1 rfl) ?_
  refine lv_i2l (v := i1.toInt64) hx hb dX7_best_1 rfl ?_
  refine lv_lconst (v := 0) hx hb dX7_best_2 (by decide) ?_
  refine lv_lconst (v := 1) hx hb dX7_best_3 (by decide) ?_
  obtain ⟨r4, q4, hf⟩ := ob hf
  refine k_i (wc := []) (wr := [(ax, .inr (7, [.ref ax_row, .ref ax_text, .int x_letters, .int x_at, .ref ax_read, .ref ax_undone, .int x_undos, .ref ax_order, .ref ax_dones, .int x_away, .int x_bestSet, .ref ax_aside, .ref ax_tapedWho, .ref ax_tapedTill, .int x_taped, .ref ax_kept, .int x_keeps])), (ax_row, .inl (cyI, 28, .inl x_row)), (ax_order, .inl (cyI, 8, .inl x_order)), (ax_dones, .inl (cyI, 8, .inl x_dones))]) (w1 := []) (wn := [(ax, .inr (7, [.ref ax_row, .ref ax_text, .int x_letters, .int x_at, .ref ax_read, .ref ax_undone, .int x_undos, .ref ax_order, .ref ax_dones, .int x_away, .int x_bestSet, .ref ax_aside, .ref ax_tapedWho, .ref ax_tapedTill, .int x_taped, .ref ax_kept, .int x_keeps])), (ax_row, .inl (cyI, 28, .inl x_row)), (ax_order, .inl (cyI, 8, .inl x_order)), (ax_dones, .inl (cyI, 8, .inl x_dones))]) (va_runS (As := [.long i1.toInt64, .long (0 : Int64), .long (1 : Int64)]) (rest := []) ⟨hx, hb, hml, hown, hts⟩ (c_X7_in l D cyI cyC cyS H.size i1.toInt64 (0 : Int64) (1 : Int64) q4) (va_cwS 3 hts gX7_best_X7_in rfl rfl rfl (by decide +kernel) ⟨Nat.le_of_ble_eq_true rfl, Nat.le_of_ble_eq_true rfl⟩) (preS hK (hP.subm (ws' := []) [] rfl) (hD.sub (ws' := []) [] (by decide) rfl)) rfl rfl hl.1 rfl (lv_room (Nat.le_of_ble_eq_true rfl)) dX7_best_4 ⟨Nat.le_of_ble_eq_true rfl, Nat.le_of_ble_eq_true rfl⟩) hP hD hS hA [] [0, 1, 2, 3] [0, 1, 2, 3] rfl rfl rfl (by decide) (by decide) (by decide) (fun H locs hP hD hS => ?_)
  refine lv_if_eq (tgt := 20) hx hb dX7_best_7 (by decide) (fun c7 => ?_) (fun c7 => ?_)
  · replace hf := ip c7 hf
    refine lv_iconst (v := -1) hx hb dX7_best_20 (by decide) ?_
    simp only [Option.some.injEq, Prod.mk.injEq] at hf
    obtain ⟨rfl, rfl, rfl, rfl, rfl⟩ := hf
    exact W.iret hx hb hr (fun t ht hW => ⟨⟨_, (), rfl, rfl, by rw [ht]; exact hP, hD⟩, hS.F ht⟩) hS.2.2 dX7_best_21
  · replace hf := iq c7 hf
    refine lv_iload_n hx hb dX7_best_10 rfl (lv_at hl 2 rfl) ?_
    refine lv_i2l (v := i2.toInt64) hx hb dX7_best_11 rfl ?_
    refine lv_lconst (v := 0) hx hb dX7_best_12 (by decide) ?_
    refine lv_lconst (v := 1) hx hb dX7_best_13 (by decide) ?_
    obtain ⟨r14, q14, hf⟩ := ob hf
    refine k_i (wc := []) (wr := [(ax, .inr (7, [.ref ax_row, .ref ax_text, .int x_letters, .int x_at, .ref ax_read, .ref ax_undone, .int x_undos, .ref ax_order, .ref ax_dones, .int x_away, .int x_bestSet, .ref ax_aside, .ref ax_tapedWho, .ref ax_tapedTill, .int x_taped, .ref ax_kept, .int x_keeps])), (ax_row, .inl (cyI, 28, .inl x_row)), (ax_order, .inl (cyI, 8, .inl x_order)), (ax_dones, .inl (cyI, 8, .inl x_dones))]) (w1 := []) (wn := [(ax, .inr (7, [.ref ax_row, .ref ax_text, .int x_letters, .int x_at, .ref ax_read, .ref ax_undone, .int x_undos, .ref ax_order, .ref ax_dones, .int x_away, .int x_bestSet, .ref ax_aside, .ref ax_tapedWho, .ref ax_tapedTill, .int x_taped, .ref ax_kept, .int x_keeps])), (ax_row, .inl (cyI, 28, .inl x_row)), (ax_order, .inl (cyI, 8, .inl x_order)), (ax_dones, .inl (cyI, 8, .inl x_dones))]) (va_runS (As := [.long i2.toInt64, .long (0 : Int64), .long (1 : Int64)]) (rest := []) ⟨hx, hb, hml, hown, hts⟩ (c_X7_in l D cyI cyC cyS H.size i2.toInt64 (0 : Int64) (1 : Int64) q14) (va_cwS 3 hts gX7_best_X7_in rfl rfl rfl (by decide +kernel) ⟨Nat.le_of_ble_eq_true rfl, Nat.le_of_ble_eq_true rfl⟩) (preS hK (hP.subm (ws' := []) [] rfl) (hD.sub (ws' := []) [] (by decide) rfl)) rfl rfl hl.1 rfl (lv_room (Nat.le_of_ble_eq_true rfl)) dX7_best_14 ⟨Nat.le_of_ble_eq_true rfl, Nat.le_of_ble_eq_true rfl⟩) hP hD hS hA [] [0, 1, 2, 3] [0, 1, 2, 3] rfl rfl rfl (by decide) (by decide) (by decide) (fun H locs hP hD hS => ?_)
    refine lv_if_ne (tgt := 22) hx hb dX7_best_17 (by decide) (fun c17 => ?_) (fun c17 => ?_)
    · replace hf := iq c17 hf
      refine lv_aload_n hx hb dX7_best_22 rfl (lv_at hl 0 rfl) ?_
      refine lv_iload_n hx hb dX7_best_23 rfl (lv_at hl 1 rfl) ?_
      refine lv_iconst (v := 0) hx hb dX7_best_24 (by decide) ?_
      obtain ⟨⟨r25, x_away_o25, x_bestSet_o25, x_order_o25, x_dones_o25⟩, q25, hf⟩ := ob hf
      replace hf : _ = _ := hf
      refine k_i (wc := [(ax, .inr (7, [.ref ax_row, .ref ax_text, .int x_letters, .int x_at, .ref ax_read, .ref ax_undone, .int x_undos, .ref ax_order, .ref ax_dones, .int x_away, .int x_bestSet, .ref ax_aside, .ref ax_tapedWho, .ref ax_tapedTill, .int x_taped, .ref ax_kept, .int x_keeps])), (ax_row, .inl (cyI, 28, .inl x_row)), (ax_order, .inl (cyI, 8, .inl x_order)), (ax_dones, .inl (cyI, 8, .inl x_dones))]) (wr := []) (w1 := [(ax, .inr (7, [.ref ax_row, .ref ax_text, .int x_letters, .int x_at, .ref ax_read, .ref ax_undone, .int x_undos, .ref ax_order, .ref ax_dones, .int x_away_o25, .int x_bestSet_o25, .ref ax_aside, .ref ax_tapedWho, .ref ax_tapedTill, .int x_taped, .ref ax_kept, .int x_keeps])), (ax_row, .inl (cyI, 28, .inl x_row)), (ax_order, .inl (cyI, 8, .inl x_order_o25)), (ax_dones, .inl (cyI, 8, .inl x_dones_o25))]) (wn := [(ax, .inr (7, [.ref ax_row, .ref ax_text, .int x_letters, .int x_at, .ref ax_read, .ref ax_undone, .int x_undos, .ref ax_order, .ref ax_dones, .int x_away_o25, .int x_bestSet_o25, .ref ax_aside, .ref ax_tapedWho, .ref ax_tapedTill, .int x_taped, .ref ax_kept, .int x_keeps])), (ax_row, .inl (cyI, 28, .inl x_row)), (ax_order, .inl (cyI, 8, .inl x_order_o25)), (ax_dones, .inl (cyI, 8, .inl x_dones_o25))]) (va_runV (As := [.int i1, .int (0 : Int32)]) (rest := []) ⟨hx, hb, hml, hown, hts⟩ (c_X7_leastOf l D cyI cyC cyS H.size ax ax_row ax_text ax_read ax_undone ax_order ax_dones ax_aside ax_tapedWho ax_tapedTill ax_kept x_letters x_at x_undos x_away x_bestSet x_taped x_keeps x_row x_order x_dones i1 (0 : Int32) q25) (cwV 2 hts gX7_best_X7_leastOf rfl rfl rfl (by decide +kernel) ⟨Nat.le_of_ble_eq_true rfl, Nat.le_of_ble_eq_true rfl⟩) (preV (ci := 7) hK (hP.subm (ws' := [(ax, .inr (7, [.ref ax_row, .ref ax_text, .int x_letters, .int x_at, .ref ax_read, .ref ax_undone, .int x_undos, .ref ax_order, .ref ax_dones, .int x_away, .int x_bestSet, .ref ax_aside, .ref ax_tapedWho, .ref ax_tapedTill, .int x_taped, .ref ax_kept, .int x_keeps])), (ax_row, .inl (cyI, 28, .inl x_row)), (ax_order, .inl (cyI, 8, .inl x_order)), (ax_dones, .inl (cyI, 8, .inl x_dones))]) [0, 1, 2, 3] rfl) (hD.sub (ws' := [(ax, .inr (7, [.ref ax_row, .ref ax_text, .int x_letters, .int x_at, .ref ax_read, .ref ax_undone, .int x_undos, .ref ax_order, .ref ax_dones, .int x_away, .int x_bestSet, .ref ax_aside, .ref ax_tapedWho, .ref ax_tapedTill, .int x_taped, .ref ax_kept, .int x_keeps])), (ax_row, .inl (cyI, 28, .inl x_row)), (ax_order, .inl (cyI, 8, .inl x_order)), (ax_dones, .inl (cyI, 8, .inl x_dones))]) [0, 1, 2, 3] (by decide) rfl) rfl rfl) rfl rfl hl.1 rfl (lv_room (Nat.le_of_ble_eq_true rfl)) dX7_best_25 ⟨Nat.le_of_ble_eq_true rfl, Nat.le_of_ble_eq_true rfl⟩) hP hD hS hA [0, 1, 2, 3] [] [0, 1, 2, 3] rfl rfl rfl (by decide) (by decide) (by decide) (fun H locs hP hD hS => ?_)
      refine lv_istore_n (lv' := [(3, .int r25), (0, .ref ax), (1, .int i1), (2, .int i2)]) hx hb dX7_best_28 rfl hl (by decide) rfl (fun ls hl => ?_)
      refine lv_iload_n hx hb dX7_best_29 rfl (lv_at hl 3 rfl) ?_
      refine lv_if_ne (tgt := 40) hx hb dX7_best_30 (by decide) (fun c30 => ?_) (fun c30 => ?_)
      · replace hf := iq c30 hf
        refine lv_iload_n hx hb dX7_best_40 rfl (lv_at hl 0 rfl) ?_
        simp only [Option.some.injEq, Prod.mk.injEq] at hf
        obtain ⟨rfl, rfl, rfl, rfl, rfl⟩ := hf
        exact W.iret hx hb hr (fun t ht hW => ⟨⟨_, (), rfl, rfl, by rw [ht]; exact hP, hD⟩, hS.F ht⟩) hS.2.2 dX7_best_41
      · replace hf := ip c30 hf
        refine lv_aload_n hx hb dX7_best_33 rfl (lv_at hl 1 rfl) ?_
        refine va_get (C := RX7) (T := TX7) (N := 17) hx hb hts inX7 hown hK.1 hP 0 rfl rfl 10 (by decide) f166 (fun _ h9 => h9) rfl dX7_best_34 ?_
        refine lv_goto (tgt := 41) hx hb dX7_best_37 (by decide) ?_
        simp only [Option.some.injEq, Prod.mk.injEq] at hf
        obtain ⟨rfl, rfl, rfl, rfl, rfl⟩ := hf
        exact W.iret hx hb hr (fun t ht hW => ⟨⟨_, (), rfl, rfl, by rw [ht]; exact hP, hD⟩, hS.F ht⟩) hS.2.2 dX7_best_41
    · replace hf := ip c17 hf
      refine lv_iconst (v := -1) hx hb dX7_best_20 (by decide) ?_
      simp only [Option.some.injEq, Prod.mk.injEq] at hf
      obtain ⟨rfl, rfl, rfl, rfl, rfl⟩ := hf
      exact W.iret hx hb hr (fun t ht hW => ⟨⟨_, (), rfl, rfl, by rw [ht]; exact hP, hD⟩, hS.F ht⟩) hS.2.2 dX7_best_21
abbrev rX7_fair : Room := { frames := 5, cells := 0, slots := 0, locals := 115 }
set_option maxHeartbeats 4000000 in
set_option maxRecDepth 100000 in
theorem c_X7_fair (l : Launch) (D : va_G) (cyI cyC cyS : ClassId) (sz : Nat) (ax : Nat) (ax_row : Nat) (ax_text : Nat) (ax_read : Nat) (ax_undone : Nat) (ax_order : Nat) (ax_dones : Nat) (ax_aside : Nat) (ax_tapedWho : Nat) (ax_tapedTill : Nat) (ax_kept : Nat) (x_letters : Int32) (x_at : Int32) (x_undos : Int32) (x_away : Int32) (x_bestSet : Int32) (x_taped : Int32) (x_keeps : Int32) (x_row : Nat → Int32) (x_order : Nat → Int32) (x_dones : Nat → Int32) (i1 : Int32) {r : Int32} {o_x_away : Int32} {o_x_bestSet : Int32} {o_x_order : Nat → Int32} {o_x_dones : Nat → Int32} (hf : S_X7_fair i1 x_away x_bestSet x_row x_order x_dones = some (r, o_x_away, o_x_bestSet, o_x_order, o_x_dones)) : Met l yX7_fair wsX7_fair rX7_fair (Cpre [.ref ax, .int i1] D cyI cyC cyS sz [(ax, .inr (7, [.ref ax_row, .ref ax_text, .int x_letters, .int x_at, .ref ax_read, .ref ax_undone, .int x_undos, .ref ax_order, .ref ax_dones, .int x_away, .int x_bestSet, .ref ax_aside, .ref ax_tapedWho, .ref ax_tapedTill, .int x_taped, .ref ax_kept, .int x_keeps])), (ax_row, .inl (cyI, 28, .inl x_row)), (ax_order, .inl (cyI, 8, .inl x_order)), (ax_dones, .inl (cyI, 8, .inl x_dones))]) (CQi r D [(ax, .inr (7, [.ref ax_row, .ref ax_text, .int x_letters, .int x_at, .ref ax_read, .ref ax_undone, .int x_undos, .ref ax_order, .ref ax_dones, .int o_x_away, .int o_x_bestSet, .ref ax_aside, .ref ax_tapedWho, .ref ax_tapedTill, .int x_taped, .ref ax_kept, .int x_keeps])), (ax_row, .inl (cyI, 28, .inl x_row)), (ax_order, .inl (cyI, 8, .inl o_x_order)), (ax_dones, .inl (cyI, 8, .inl o_x_dones))] (va_A [(ax, .inr (7, [.ref ax_row, .ref ax_text, .int x_letters, .int x_at, .ref ax_read, .ref ax_undone, .int x_undos, .ref ax_order, .ref ax_dones, .int x_away, .int x_bestSet, .ref ax_aside, .ref ax_tapedWho, .ref ax_tapedTill, .int x_taped, .ref ax_kept, .int x_keeps])), (ax_row, .inl (cyI, 28, .inl x_row)), (ax_order, .inl (cyI, 8, .inl x_order)), (ax_dones, .inl (cyI, 8, .inl x_dones))] sz)) 0 0 (va_A [(ax, .inr (7, [.ref ax_row, .ref ax_text, .int x_letters, .int x_at, .ref ax_read, .ref ax_undone, .int x_undos, .ref ax_order, .ref ax_dones, .int x_away, .int x_bestSet, .ref ax_aside, .ref ax_tapedWho, .ref ax_tapedTill, .int x_taped, .ref ax_kept, .int x_keeps])), (ax_row, .inl (cyI, 28, .inl x_row)), (ax_order, .inl (cyI, 8, .inl x_order)), (ax_dones, .inl (cyI, 8, .inl x_dones))] sz) := by
  refine Met.ofW (cc := cX7_fair) (maxL := 3) (ret := (some .int)) (by decide) rfl ?_
  intro p e s m args below meth c s₁ B hml hv
  obtain ⟨rfl, hsz, hP, hK, hD0⟩ := hv
  have hx := B.exec
  have hb := B.bytes
  have hr := B.returns
  have hts := atoms_spec (ws := wsX7_fair) B.pre
  have hown : s.vm.findClass RX7 = some m.cls := findClass_of_methodNamed B.named
  have hlocks := B.notSynchronized
  subst hsz
  have hD := hD0.self (sz := s.heap.size)
  generalize hAe : va_A [(ax, .inr (7, [.ref ax_row, .ref ax_text, .int x_letters, .int x_at, .ref ax_read, .ref ax_undone, .int x_undos, .ref ax_order, .ref ax_dones, .int x_away, .int x_bestSet, .ref ax_aside, .ref ax_tapedWho, .ref ax_tapedTill, .int x_taped, .ref ax_kept, .int x_keeps])), (ax_row, .inl (cyI, 28, .inl x_row)), (ax_order, .inl (cyI, 8, .inl x_order)), (ax_dones, .inl (cyI, 8, .inl x_dones))] s.heap.size = A at hD ⊢
  have hA : ∀ q : Nat, s.heap.size ≤ q → A q := fun q h => by rw [← hAe]; exact Or.inr h
  have hS : va_S A s.heap s.heap [] := va_S.rf
  have hl := lv_entry ([.ref ax, .int i1]) (n := 3) (Nat.le_of_ble_eq_true rfl)
  rw [lg_entry_eq]
  generalize (lg_sl ([.ref ax, .int i1]) ++ List.replicate (3 - (lg_sl ([.ref ax, .int i1])).length) Slot.unset).toArray = ls at hl ⊢
  have hl : lv_has ls 3 [(0, .ref ax), (1, .int i1)] := hl
  have f166 := hts (.fieldLink RX7 166 "SecondTillModel" "bestSet" "I") (by decide +kernel)
  have inX7 : ∀ w ∈ u_ws RX7 TX7 17, w ∈ wsX7_fair := by decide +kernel
  unfold S_X7_fair at hf
  have hP : va_P D vwCl [(ax, .inr (7, [.ref ax_row, .ref ax_text, .int x_letters, .int x_at, .ref ax_read, .ref ax_undone, .int x_undos, .ref ax_order, .ref ax_dones, .int x_away, .int x_bestSet, .ref ax_aside, .ref ax_tapedWho, .ref ax_tapedTill, .int x_taped, .ref ax_kept, .int x_keeps])), (ax_row, .inl (cyI, 28, .inl x_row)), (ax_order, .inl (cyI, 8, .inl x_order)), (ax_dones, .inl (cyI, 8, .inl x_dones))] s.heap := hP
  suffices hgo : ∀ (H : Heap) (locs : List Loc), va_P D vwCl [(ax, .inr (7, [.ref ax_row, .ref ax_text, .int x_letters, .int x_at, .ref ax_read, .ref ax_undone, .int x_undos, .ref ax_order, .ref ax_dones, .int x_away, .int x_bestSet, .ref ax_aside, .ref ax_tapedWho, .ref ax_tapedTill, .int x_taped, .ref ax_kept, .int x_keeps])), (ax_row, .inl (cyI, 28, .inl x_row)), (ax_order, .inl (cyI, 8, .inl x_order)), (ax_dones, .inl (cyI, 8, .inl x_dones))] H → va_S A s.heap H locs → W p l e rX7_fair s m (([.ref ax, .int i1] : List Value).toArray) below meth c H locs 0 0 (MQ below (CQi r D [(ax, .inr (7, [.ref ax_row, .ref ax_text, .int x_letters, .int x_at, .ref ax_read, .ref ax_undone, .int x_undos, .ref ax_order, .ref ax_dones, .int o_x_away, .int o_x_bestSet, .ref ax_aside, .ref ax_tapedWho, .ref ax_tapedTill, .int x_taped, .ref ax_kept, .int x_keeps])), (ax_row, .inl (cyI, 28, .inl x_row)), (ax_order, .inl (cyI, 8, .inl o_x_order)), (ax_dones, .inl (cyI, 8, .inl o_x_dones))] A) (([.ref ax, .int i1] : List Value).toArray) s 0 0 A) (F0 m 0 ls []) from hgo _ _ hP hS
  clear hP hS
  intro H locs hP hS
  refine lv_iload_n hx hb dX7_fair_0 rfl (lv_at hl 1 rfl) ?_
  refine lv_i2l (v := i1.toInt64) hx hb dX7_fair_1 rfl ?_
  refine lv_lconst (v := 0) hx hb dX7_fair_2 (by decide) ?_
  refine lv_lconst (v := 1) hx hb dX7_fair_3 (by decide) ?_
  obtain ⟨r4, q4, hf⟩ := ob hf
  refine k_i (wc := []) (wr := [(ax, .inr (7, [.ref ax_row, .ref ax_text, .int x_letters, .int x_at, .ref ax_read, .ref ax_undone, .int x_undos, .ref ax_order, .ref ax_dones, .int x_away, .int x_bestSet, .ref ax_aside, .ref ax_tapedWho, .ref ax_tapedTill, .int x_taped, .ref ax_kept, .int x_keeps])), (ax_row, .inl (cyI, 28, .inl x_row)), (ax_order, .inl (cyI, 8, .inl x_order)), (ax_dones, .inl (cyI, 8, .inl x_dones))]) (w1 := []) (wn := [(ax, .inr (7, [.ref ax_row, .ref ax_text, .int x_letters, .int x_at, .ref ax_read, .ref ax_undone, .int x_undos, .ref ax_order, .ref ax_dones, .int x_away, .int x_bestSet, .ref ax_aside, .ref ax_tapedWho, .ref ax_tapedTill, .int x_taped, .ref ax_kept, .int x_keeps])), (ax_row, .inl (cyI, 28, .inl x_row)), (ax_order, .inl (cyI, 8, .inl x_order)), (ax_dones, .inl (cyI, 8, .inl x_dones))]) (va_runS (As := [.long i1.toInt64, .long (0 : Int64), .long (1 : Int64)]) (rest := []) ⟨hx, hb, hml, hown, hts⟩ (c_X7_in l D cyI cyC cyS H.size i1.toInt64 (0 : Int64) (1 : Int64) q4) (va_cwS 3 hts gX7_fair_X7_in rfl rfl rfl (by decide +kernel) ⟨Nat.le_of_ble_eq_true rfl, Nat.le_of_ble_eq_true rfl⟩) (preS hK (hP.subm (ws' := []) [] rfl) (hD.sub (ws' := []) [] (by decide) rfl)) rfl rfl hl.1 rfl (lv_room (Nat.le_of_ble_eq_true rfl)) dX7_fair_4 ⟨Nat.le_of_ble_eq_true rfl, Nat.le_of_ble_eq_true rfl⟩) hP hD hS hA [] [0, 1, 2, 3] [0, 1, 2, 3] rfl rfl rfl (by decide) (by decide) (by decide) (fun H locs hP hD hS => ?_)
  refine lv_if_ne (tgt := 12) hx hb dX7_fair_7 (by decide) (fun c7 => ?_) (fun c7 => ?_)
  · replace hf := iq c7 hf
    refine lv_aload_n hx hb dX7_fair_12 rfl (lv_at hl 0 rfl) ?_
    refine lv_iconst (v := 1) hx hb dX7_fair_13 (by decide) ?_
    refine lv_iconst (v := 1) hx hb dX7_fair_14 (by decide) ?_
    obtain ⟨⟨r15, x_away_o15, x_bestSet_o15, x_order_o15, x_dones_o15⟩, q15, hf⟩ := ob hf
    replace hf : _ = _ := hf
    refine k_i (wc := [(ax, .inr (7, [.ref ax_row, .ref ax_text, .int x_letters, .int x_at, .ref ax_read, .ref ax_undone, .int x_undos, .ref ax_order, .ref ax_dones, .int x_away, .int x_bestSet, .ref ax_aside, .ref ax_tapedWho, .ref ax_tapedTill, .int x_taped, .ref ax_kept, .int x_keeps])), (ax_row, .inl (cyI, 28, .inl x_row)), (ax_order, .inl (cyI, 8, .inl x_order)), (ax_dones, .inl (cyI, 8, .inl x_dones))]) (wr := []) (w1 := [(ax, .inr (7, [.ref ax_row, .ref ax_text, .int x_letters, .int x_at, .ref ax_read, .ref ax_undone, .int x_undos, .ref ax_order, .ref ax_dones, .int x_away_o15, .int x_bestSet_o15, .ref ax_aside, .ref ax_tapedWho, .ref ax_tapedTill, .int x_taped, .ref ax_kept, .int x_keeps])), (ax_row, .inl (cyI, 28, .inl x_row)), (ax_order, .inl (cyI, 8, .inl x_order_o15)), (ax_dones, .inl (cyI, 8, .inl x_dones_o15))]) (wn := [(ax, .inr (7, [.ref ax_row, .ref ax_text, .int x_letters, .int x_at, .ref ax_read, .ref ax_undone, .int x_undos, .ref ax_order, .ref ax_dones, .int x_away_o15, .int x_bestSet_o15, .ref ax_aside, .ref ax_tapedWho, .ref ax_tapedTill, .int x_taped, .ref ax_kept, .int x_keeps])), (ax_row, .inl (cyI, 28, .inl x_row)), (ax_order, .inl (cyI, 8, .inl x_order_o15)), (ax_dones, .inl (cyI, 8, .inl x_dones_o15))]) (va_runV (As := [.int (1 : Int32), .int (1 : Int32)]) (rest := []) ⟨hx, hb, hml, hown, hts⟩ (c_X7_leastOf l D cyI cyC cyS H.size ax ax_row ax_text ax_read ax_undone ax_order ax_dones ax_aside ax_tapedWho ax_tapedTill ax_kept x_letters x_at x_undos x_away x_bestSet x_taped x_keeps x_row x_order x_dones (1 : Int32) (1 : Int32) q15) (cwV 2 hts gX7_fair_X7_leastOf rfl rfl rfl (by decide +kernel) ⟨Nat.le_of_ble_eq_true rfl, Nat.le_of_ble_eq_true rfl⟩) (preV (ci := 7) hK (hP.subm (ws' := [(ax, .inr (7, [.ref ax_row, .ref ax_text, .int x_letters, .int x_at, .ref ax_read, .ref ax_undone, .int x_undos, .ref ax_order, .ref ax_dones, .int x_away, .int x_bestSet, .ref ax_aside, .ref ax_tapedWho, .ref ax_tapedTill, .int x_taped, .ref ax_kept, .int x_keeps])), (ax_row, .inl (cyI, 28, .inl x_row)), (ax_order, .inl (cyI, 8, .inl x_order)), (ax_dones, .inl (cyI, 8, .inl x_dones))]) [0, 1, 2, 3] rfl) (hD.sub (ws' := [(ax, .inr (7, [.ref ax_row, .ref ax_text, .int x_letters, .int x_at, .ref ax_read, .ref ax_undone, .int x_undos, .ref ax_order, .ref ax_dones, .int x_away, .int x_bestSet, .ref ax_aside, .ref ax_tapedWho, .ref ax_tapedTill, .int x_taped, .ref ax_kept, .int x_keeps])), (ax_row, .inl (cyI, 28, .inl x_row)), (ax_order, .inl (cyI, 8, .inl x_order)), (ax_dones, .inl (cyI, 8, .inl x_dones))]) [0, 1, 2, 3] (by decide) rfl) rfl rfl) rfl rfl hl.1 rfl (lv_room (Nat.le_of_ble_eq_true rfl)) dX7_fair_15 ⟨Nat.le_of_ble_eq_true rfl, Nat.le_of_ble_eq_true rfl⟩) hP hD hS hA [0, 1, 2, 3] [] [0, 1, 2, 3] rfl rfl rfl (by decide) (by decide) (by decide) (fun H locs hP hD hS => ?_)
    refine lv_istore_n (lv' := [(2, .int r15), (0, .ref ax), (1, .int i1)]) hx hb dX7_fair_18 rfl hl (by decide) rfl (fun ls hl => ?_)
    refine lv_iload_n hx hb dX7_fair_19 rfl (lv_at hl 2 rfl) ?_
    refine lv_if_ne (tgt := 30) hx hb dX7_fair_20 (by decide) (fun c20 => ?_) (fun c20 => ?_)
    · replace hf := iq c20 hf
      refine lv_iload_n hx hb dX7_fair_30 rfl (lv_at hl 0 rfl) ?_
      simp only [Option.some.injEq, Prod.mk.injEq] at hf
      obtain ⟨rfl, rfl, rfl, rfl, rfl⟩ := hf
      exact W.iret hx hb hr (fun t ht hW => ⟨⟨_, (), rfl, rfl, by rw [ht]; exact hP, hD⟩, hS.F ht⟩) hS.2.2 dX7_fair_31
    · replace hf := ip c20 hf
      refine lv_aload_n hx hb dX7_fair_23 rfl (lv_at hl 1 rfl) ?_
      refine va_get (C := RX7) (T := TX7) (N := 17) hx hb hts inX7 hown hK.1 hP 0 rfl rfl 10 (by decide) f166 (fun _ h9 => h9) rfl dX7_fair_24 ?_
      refine lv_goto (tgt := 31) hx hb dX7_fair_27 (by decide) ?_
      simp only [Option.some.injEq, Prod.mk.injEq] at hf
      obtain ⟨rfl, rfl, rfl, rfl, rfl⟩ := hf
      exact W.iret hx hb hr (fun t ht hW => ⟨⟨_, (), rfl, rfl, by rw [ht]; exact hP, hD⟩, hS.F ht⟩) hS.2.2 dX7_fair_31
  · replace hf := ip c7 hf
    refine lv_iconst (v := -1) hx hb dX7_fair_10 (by decide) ?_
    simp only [Option.some.injEq, Prod.mk.injEq] at hf
    obtain ⟨rfl, rfl, rfl, rfl, rfl⟩ := hf
    exact W.iret hx hb hr (fun t ht hW => ⟨⟨_, (), rfl, rfl, by rw [ht]; exact hP, hD⟩, hS.F ht⟩) hS.2.2 dX7_fair_11
abbrev rX7_oneRow : Room := { frames := 3, cells := 0, slots := 0, locals := 67 }
set_option maxHeartbeats 4000000 in
set_option maxRecDepth 100000 in
theorem c_X7_oneRow (l : Launch) (D : va_G) (cyI cyC cyS : ClassId) (sz : Nat) (ax : Nat) (ax_row : Nat) (ax_text : Nat) (ax_read : Nat) (ax_undone : Nat) (ax_order : Nat) (ax_dones : Nat) (ax_aside : Nat) (ax_tapedWho : Nat) (ax_tapedTill : Nat) (ax_kept : Nat) (x_letters : Int32) (x_at : Int32) (x_undos : Int32) (x_away : Int32) (x_bestSet : Int32) (x_taped : Int32) (x_keeps : Int32) (x_row : Nat → Int32) (x_dones : Nat → Int32) (i1 : Int32) {r : Int32} {o_x_dones : Nat → Int32} (hf : S_X7_oneRow i1 x_row x_dones = some (r, o_x_dones)) : Met l yX7_oneRow wsX7_oneRow rX7_oneRow (Cpre [.ref ax, .int i1] D cyI cyC cyS sz [(ax, .inr (7, [.ref ax_row, .ref ax_text, .int x_letters, .int x_at, .ref ax_read, .ref ax_undone, .int x_undos, .ref ax_order, .ref ax_dones, .int x_away, .int x_bestSet, .ref ax_aside, .ref ax_tapedWho, .ref ax_tapedTill, .int x_taped, .ref ax_kept, .int x_keeps])), (ax_row, .inl (cyI, 28, .inl x_row)), (ax_dones, .inl (cyI, 8, .inl x_dones))]) (CQi r D [(ax, .inr (7, [.ref ax_row, .ref ax_text, .int x_letters, .int x_at, .ref ax_read, .ref ax_undone, .int x_undos, .ref ax_order, .ref ax_dones, .int x_away, .int x_bestSet, .ref ax_aside, .ref ax_tapedWho, .ref ax_tapedTill, .int x_taped, .ref ax_kept, .int x_keeps])), (ax_row, .inl (cyI, 28, .inl x_row)), (ax_dones, .inl (cyI, 8, .inl o_x_dones))] (va_A [(ax, .inr (7, [.ref ax_row, .ref ax_text, .int x_letters, .int x_at, .ref ax_read, .ref ax_undone, .int x_undos, .ref ax_order, .ref ax_dones, .int x_away, .int x_bestSet, .ref ax_aside, .ref ax_tapedWho, .ref ax_tapedTill, .int x_taped, .ref ax_kept, .int x_keeps])), (ax_row, .inl (cyI, 28, .inl x_row)), (ax_dones, .inl (cyI, 8, .inl x_dones))] sz)) 0 0 (va_A [(ax, .inr (7, [.ref ax_row, .ref ax_text, .int x_letters, .int x_at, .ref ax_read, .ref ax_undone, .int x_undos, .ref ax_order, .ref ax_dones, .int x_away, .int x_bestSet, .ref ax_aside, .ref ax_tapedWho, .ref ax_tapedTill, .int x_taped, .ref ax_kept, .int x_keeps])), (ax_row, .inl (cyI, 28, .inl x_row)), (ax_dones, .inl (cyI, 8, .inl x_dones))] sz) := by
  refine Met.ofW (cc := cX7_oneRow) (maxL := 6) (ret := (some .int)) (by decide) rfl ?_
  intro p e s m args below meth c s₁ B hml hv
  obtain ⟨rfl, hsz, hP, hK, hD0⟩ := hv
  have hx := B.exec
  have hb := B.bytes
  have hr := B.returns
  have hts := atoms_spec (ws := wsX7_oneRow) B.pre
  have hown : s.vm.findClass RX7 = some m.cls := findClass_of_methodNamed B.named
  have hlocks := B.notSynchronized
  subst hsz
  have hD := hD0.self (sz := s.heap.size)
  generalize hAe : va_A [(ax, .inr (7, [.ref ax_row, .ref ax_text, .int x_letters, .int x_at, .ref ax_read, .ref ax_undone, .int x_undos, .ref ax_order, .ref ax_dones, .int x_away, .int x_bestSet, .ref ax_aside, .ref ax_tapedWho, .ref ax_tapedTill, .int x_taped, .ref ax_kept, .int x_keeps])), (ax_row, .inl (cyI, 28, .inl x_row)), (ax_dones, .inl (cyI, 8, .inl x_dones))] s.heap.size = A at hD ⊢
  have hA : ∀ q : Nat, s.heap.size ≤ q → A q := fun q h => by rw [← hAe]; exact Or.inr h
  have hS : va_S A s.heap s.heap [] := va_S.rf
  have hl := lv_entry ([.ref ax, .int i1]) (n := 6) (Nat.le_of_ble_eq_true rfl)
  rw [lg_entry_eq]
  generalize (lg_sl ([.ref ax, .int i1]) ++ List.replicate (6 - (lg_sl ([.ref ax, .int i1])).length) Slot.unset).toArray = ls at hl ⊢
  have hl : lv_has ls 6 [(0, .ref ax), (1, .int i1)] := hl
  have f7 := hts (.fieldLink RX7 7 "SecondTillModel" "row" "[I") (by decide +kernel)
  have inX7 : ∀ w ∈ u_ws RX7 TX7 17, w ∈ wsX7_oneRow := by decide +kernel
  have f25 := hts (.fieldLink RX7 25 "SecondTillModel" "dones" "[I") (by decide +kernel)
  unfold S_X7_oneRow at hf
  have hP : va_P D vwCl [(ax, .inr (7, [.ref ax_row, .ref ax_text, .int x_letters, .int x_at, .ref ax_read, .ref ax_undone, .int x_undos, .ref ax_order, .ref ax_dones, .int x_away, .int x_bestSet, .ref ax_aside, .ref ax_tapedWho, .ref ax_tapedTill, .int x_taped, .ref ax_kept, .int x_keeps])), (ax_row, .inl (cyI, 28, .inl x_row)), (ax_dones, .inl (cyI, 8, .inl x_dones))] s.heap := hP
  suffices hgo : ∀ (H : Heap) (locs : List Loc), va_P D vwCl [(ax, .inr (7, [.ref ax_row, .ref ax_text, .int x_letters, .int x_at, .ref ax_read, .ref ax_undone, .int x_undos, .ref ax_order, .ref ax_dones, .int x_away, .int x_bestSet, .ref ax_aside, .ref ax_tapedWho, .ref ax_tapedTill, .int x_taped, .ref ax_kept, .int x_keeps])), (ax_row, .inl (cyI, 28, .inl x_row)), (ax_dones, .inl (cyI, 8, .inl x_dones))] H → va_S A s.heap H locs → W p l e rX7_oneRow s m (([.ref ax, .int i1] : List Value).toArray) below meth c H locs 0 0 (MQ below (CQi r D [(ax, .inr (7, [.ref ax_row, .ref ax_text, .int x_letters, .int x_at, .ref ax_read, .ref ax_undone, .int x_undos, .ref ax_order, .ref ax_dones, .int x_away, .int x_bestSet, .ref ax_aside, .ref ax_tapedWho, .ref ax_tapedTill, .int x_taped, .ref ax_kept, .int x_keeps])), (ax_row, .inl (cyI, 28, .inl x_row)), (ax_dones, .inl (cyI, 8, .inl o_x_dones))] A) (([.ref ax, .int i1] : List Value).toArray) s 0 0 A) (F0 m 0 ls []) from hgo _ _ hP hS
  clear hP hS
  intro H locs hP hS
  refine lv_aload_n hx hb dX7_oneRow_0 rfl (lv_at hl 0 rfl) ?_
  refine lv_iload_n hx hb dX7_oneRow_1 rfl (lv_at hl 1 rfl) ?_
  obtain ⟨r2, q2, hf⟩ := ob hf
  refine k_i (wc := [(ax, .inr (7, [.ref ax_row, .ref ax_text, .int x_letters, .int x_at, .ref ax_read, .ref ax_undone, .int x_undos, .ref ax_order, .ref ax_dones, .int x_away, .int x_bestSet, .ref ax_aside, .ref ax_tapedWho, .ref ax_tapedTill, .int x_taped, .ref ax_kept, .int x_keeps])), (ax_row, .inl (cyI, 28, .inl x_row))]) (wr := [(ax_dones, .inl (cyI, 8, .inl x_dones))]) (w1 := [(ax, .inr (7, [.ref ax_row, .ref ax_text, .int x_letters, .int x_at, .ref ax_read, .ref ax_undone, .int x_undos, .ref ax_order, .ref ax_dones, .int x_away, .int x_bestSet, .ref ax_aside, .ref ax_tapedWho, .ref ax_tapedTill, .int x_taped, .ref ax_kept, .int x_keeps])), (ax_row, .inl (cyI, 28, .inl x_row))]) (wn := [(ax, .inr (7, [.ref ax_row, .ref ax_text, .int x_letters, .int x_at, .ref ax_read, .ref ax_undone, .int x_undos, .ref ax_order, .ref ax_dones, .int x_away, .int x_bestSet, .ref ax_aside, .ref ax_tapedWho, .ref ax_tapedTill, .int x_taped, .ref ax_kept, .int x_keeps])), (ax_row, .inl (cyI, 28, .inl x_row)), (ax_dones, .inl (cyI, 8, .inl x_dones))]) (va_runV (As := [.int i1]) (rest := []) ⟨hx, hb, hml, hown, hts⟩ (c_X7_isAsked l D cyI cyC cyS H.size ax ax_row ax_text ax_read ax_undone ax_order ax_dones ax_aside ax_tapedWho ax_tapedTill ax_kept x_letters x_at x_undos x_away x_bestSet x_taped x_keeps x_row i1 q2) (cwV 1 hts gX7_oneRow_X7_isAsked rfl rfl rfl (by decide +kernel) ⟨Nat.le_of_ble_eq_true rfl, Nat.le_of_ble_eq_true rfl⟩) (preV (ci := 7) hK (hP.subm (ws' := [(ax, .inr (7, [.ref ax_row, .ref ax_text, .int x_letters, .int x_at, .ref ax_read, .ref ax_undone, .int x_undos, .ref ax_order, .ref ax_dones, .int x_away, .int x_bestSet, .ref ax_aside, .ref ax_tapedWho, .ref ax_tapedTill, .int x_taped, .ref ax_kept, .int x_keeps])), (ax_row, .inl (cyI, 28, .inl x_row))]) [0, 1] rfl) (hD.sub (ws' := [(ax, .inr (7, [.ref ax_row, .ref ax_text, .int x_letters, .int x_at, .ref ax_read, .ref ax_undone, .int x_undos, .ref ax_order, .ref ax_dones, .int x_away, .int x_bestSet, .ref ax_aside, .ref ax_tapedWho, .ref ax_tapedTill, .int x_taped, .ref ax_kept, .int x_keeps])), (ax_row, .inl (cyI, 28, .inl x_row))]) [0, 1] (by decide) rfl) rfl rfl) rfl rfl hl.1 rfl (lv_room (Nat.le_of_ble_eq_true rfl)) dX7_oneRow_2 ⟨Nat.le_of_ble_eq_true rfl, Nat.le_of_ble_eq_true rfl⟩) hP hD hS hA [0, 1] [2] [1, 2, 0] rfl rfl rfl (by decide) (by decide) (by decide) (fun H locs hP hD hS => ?_)
  refine lv_if_ne (tgt := 10) hx hb dX7_oneRow_5 (by decide) (fun c5 => ?_) (fun c5 => ?_)
  · replace hf := iq c5 hf
    refine lv_iconst (v := 0) hx hb dX7_oneRow_10 (by decide) ?_
    refine lv_istore_n (lv' := [(2, .int (0 : Int32)), (0, .ref ax), (1, .int i1)]) hx hb dX7_oneRow_11 rfl hl (by decide) rfl (fun ls hl => ?_)
    refine lv_iconst (v := 0) hx hb dX7_oneRow_12 (by decide) ?_
    refine lv_istore_n (lv' := [(3, .int (0 : Int32)), (2, .int (0 : Int32)), (0, .ref ax), (1, .int i1)]) hx hb dX7_oneRow_13 rfl hl (by decide) rfl (fun ls hl => ?_)
    refine lv_iconst (v := 0) hx hb dX7_oneRow_14 (by decide) ?_
    refine lv_istore (lv' := [(4, .int (0 : Int32)), (3, .int (0 : Int32)), (2, .int (0 : Int32)), (0, .ref ax), (1, .int i1)]) hx hb dX7_oneRow_15 hl (by decide) rfl (fun ls hl => ?_)
    have hL17 : ∀ (n17 : Nat) (i2 : Int32) (i3 : Int32) (i4 : Int32) (x_dones : Nat → Int32) (H : Heap) (locs : List Loc) (ls : Array Slot), va_P D vwCl [(ax, .inr (7, [.ref ax_row, .ref ax_text, .int x_letters, .int x_at, .ref ax_read, .ref ax_undone, .int x_undos, .ref ax_order, .ref ax_dones, .int x_away, .int x_bestSet, .ref ax_aside, .ref ax_tapedWho, .ref ax_tapedTill, .int x_taped, .ref ax_kept, .int x_keeps])), (ax_row, .inl (cyI, 28, .inl x_row)), (ax_dones, .inl (cyI, 8, .inl x_dones))] H → va_D A [(ax, .inr (7, [.ref ax_row, .ref ax_text, .int x_letters, .int x_at, .ref ax_read, .ref ax_undone, .int x_undos, .ref ax_order, .ref ax_dones, .int x_away, .int x_bestSet, .ref ax_aside, .ref ax_tapedWho, .ref ax_tapedTill, .int x_taped, .ref ax_kept, .int x_keeps])), (ax_row, .inl (cyI, 28, .inl x_row)), (ax_dones, .inl (cyI, 8, .inl x_dones))] → va_S A s.heap H locs → lv_has ls 6 [(0, .ref ax), (1, .int i1), (2, .int i2), (3, .int i3), (4, .int i4)] → S_X7_oneRow_L17 i1 x_row n17 i2 i3 i4 x_dones = some (r, o_x_dones) → W p l e rX7_oneRow s m (([.ref ax, .int i1] : List Value).toArray) below meth c H locs 0 0 (MQ below (CQi r D [(ax, .inr (7, [.ref ax_row, .ref ax_text, .int x_letters, .int x_at, .ref ax_read, .ref ax_undone, .int x_undos, .ref ax_order, .ref ax_dones, .int x_away, .int x_bestSet, .ref ax_aside, .ref ax_tapedWho, .ref ax_tapedTill, .int x_taped, .ref ax_kept, .int x_keeps])), (ax_row, .inl (cyI, 28, .inl x_row)), (ax_dones, .inl (cyI, 8, .inl o_x_dones))] A) (([.ref ax, .int i1] : List Value).toArray) s 0 0 A) (F0 m 17 ls []) := by
      intro n17
      induction n17 with
      | zero => intro i2 i3 i4 x_dones H locs ls hP hD hS hl hf; exact absurd hf (by simp [S_X7_oneRow_L17])
      | succ n17 ih17 =>
        intro i2 i3 i4 x_dones H locs ls hP hD hS hl hf
        rw [S_X7_oneRow_L17] at hf
        refine lv_iload hx hb dX7_oneRow_17 (lv_at hl 4 rfl) ?_
        refine lv_aload_n hx hb dX7_oneRow_19 rfl (lv_at hl 0 rfl) ?_
        refine va_get (C := RX7) (T := TX7) (N := 17) hx hb hts inX7 hown hK.1 hP 0 rfl rfl 0 (by decide) f7 (fun _ h9 => h9) rfl dX7_oneRow_20 ?_
        refine lv_iconst (v := 0) hx hb dX7_oneRow_23 (by decide) ?_
        refine a_ild hx hb hK hP 1 rfl (vin (by decide)) 0 (by decide) dX7_oneRow_24 ?_
        refine lv_icmp_ge (tgt := 113) hx hb dX7_oneRow_25 (by decide) (fun c25 => ?_) (fun c25 => ?_)
        · replace hf := ip c25 hf
          refine lv_aload_n hx hb dX7_oneRow_113 rfl (lv_at hl 0 rfl) ?_
          refine lv_iload_n hx hb dX7_oneRow_114 rfl (lv_at hl 1 rfl) ?_
          obtain ⟨r115, q115, hf⟩ := ob hf
          refine k_i (wc := [(ax, .inr (7, [.ref ax_row, .ref ax_text, .int x_letters, .int x_at, .ref ax_read, .ref ax_undone, .int x_undos, .ref ax_order, .ref ax_dones, .int x_away, .int x_bestSet, .ref ax_aside, .ref ax_tapedWho, .ref ax_tapedTill, .int x_taped, .ref ax_kept, .int x_keeps])), (ax_row, .inl (cyI, 28, .inl x_row)), (ax_dones, .inl (cyI, 8, .inl x_dones))]) (wr := []) (w1 := [(ax, .inr (7, [.ref ax_row, .ref ax_text, .int x_letters, .int x_at, .ref ax_read, .ref ax_undone, .int x_undos, .ref ax_order, .ref ax_dones, .int x_away, .int x_bestSet, .ref ax_aside, .ref ax_tapedWho, .ref ax_tapedTill, .int x_taped, .ref ax_kept, .int x_keeps])), (ax_row, .inl (cyI, 28, .inl x_row)), (ax_dones, .inl (cyI, 8, .inl x_dones))]) (wn := [(ax, .inr (7, [.ref ax_row, .ref ax_text, .int x_letters, .int x_at, .ref ax_read, .ref ax_undone, .int x_undos, .ref ax_order, .ref ax_dones, .int x_away, .int x_bestSet, .ref ax_aside, .ref ax_tapedWho, .ref ax_tapedTill, .int x_taped, .ref ax_kept, .int x_keeps])), (ax_row, .inl (cyI, 28, .inl x_row)), (ax_dones, .inl (cyI, 8, .inl x_dones))]) (va_runV (As := [.int i1]) (rest := []) ⟨hx, hb, hml, hown, hts⟩ (c_X7_asked l D cyI cyC cyS H.size ax ax_row ax_text ax_read ax_undone ax_order ax_dones ax_aside ax_tapedWho ax_tapedTill ax_kept x_letters x_at x_undos x_away x_bestSet x_taped x_keeps x_row x_dones i1 q115) (cwV 1 hts gX7_oneRow_X7_asked rfl rfl rfl (by decide +kernel) ⟨Nat.le_of_ble_eq_true rfl, Nat.le_of_ble_eq_true rfl⟩) (preV (ci := 7) hK (hP.subm (ws' := [(ax, .inr (7, [.ref ax_row, .ref ax_text, .int x_letters, .int x_at, .ref ax_read, .ref ax_undone, .int x_undos, .ref ax_order, .ref ax_dones, .int x_away, .int x_bestSet, .ref ax_aside, .ref ax_tapedWho, .ref ax_tapedTill, .int x_taped, .ref ax_kept, .int x_keeps])), (ax_row, .inl (cyI, 28, .inl x_row)), (ax_dones, .inl (cyI, 8, .inl x_dones))]) [0, 1, 2] rfl) (hD.sub (ws' := [(ax, .inr (7, [.ref ax_row, .ref ax_text, .int x_letters, .int x_at, .ref ax_read, .ref ax_undone, .int x_undos, .ref ax_order, .ref ax_dones, .int x_away, .int x_bestSet, .ref ax_aside, .ref ax_tapedWho, .ref ax_tapedTill, .int x_taped, .ref ax_kept, .int x_keeps])), (ax_row, .inl (cyI, 28, .inl x_row)), (ax_dones, .inl (cyI, 8, .inl x_dones))]) [0, 1, 2] (by decide) rfl) rfl rfl) rfl rfl hl.1 rfl (lv_room (Nat.le_of_ble_eq_true rfl)) dX7_oneRow_115 ⟨Nat.le_of_ble_eq_true rfl, Nat.le_of_ble_eq_true rfl⟩) hP hD hS hA [0, 1, 2] [] [0, 1, 2] rfl rfl rfl (by decide) (by decide) (by decide) (fun H locs hP hD hS => ?_)
          simp only [Option.some.injEq, Prod.mk.injEq] at hf
          obtain ⟨rfl, rfl⟩ := hf
          exact W.iret hx hb hr (fun t ht hW => ⟨⟨_, (), rfl, rfl, by rw [ht]; exact hP, hD⟩, hS.F ht⟩) hS.2.2 dX7_oneRow_118
        · replace hf := iq c25 hf
          refine lv_iload_n hx hb dX7_oneRow_28 rfl (lv_at hl 2 rfl) ?_
          refine lv_iload_n hx hb dX7_oneRow_29 rfl (lv_at hl 3 rfl) ?_
          have hJ38 : ∀ (s0_38 : Int32) (H : Heap) (locs : List Loc) (ls : Array Slot), va_P D vwCl [(ax, .inr (7, [.ref ax_row, .ref ax_text, .int x_letters, .int x_at, .ref ax_read, .ref ax_undone, .int x_undos, .ref ax_order, .ref ax_dones, .int x_away, .int x_bestSet, .ref ax_aside, .ref ax_tapedWho, .ref ax_tapedTill, .int x_taped, .ref ax_kept, .int x_keeps])), (ax_row, .inl (cyI, 28, .inl x_row)), (ax_dones, .inl (cyI, 8, .inl x_dones))] H → va_D A [(ax, .inr (7, [.ref ax_row, .ref ax_text, .int x_letters, .int x_at, .ref ax_read, .ref ax_undone, .int x_undos, .ref ax_order, .ref ax_dones, .int x_away, .int x_bestSet, .ref ax_aside, .ref ax_tapedWho, .ref ax_tapedTill, .int x_taped, .ref ax_kept, .int x_keeps])), (ax_row, .inl (cyI, 28, .inl x_row)), (ax_dones, .inl (cyI, 8, .inl x_dones))] → va_S A s.heap H locs → lv_has ls 6 [(0, .ref ax), (1, .int i1), (2, .int i2), (3, .int i3), (4, .int i4)] → (jn (fun (s0_63 : Int32) => (jn (fun (s0_88 : Int32) => (jn (fun (s0_106 : Int32) => (if i4 < 0 ∨ 8 ≤ i4.toNatClampNeg then none else
((S_X7_oneRow_L17 i1 x_row n17) (i2 + s0_63) (i3 + s0_88) (i4 + (1 : Int32)) (upd x_dones i4.toNatClampNeg s0_106)))) (fun J106 =>
(if s0_38 = 0 then
(J106 (i3 + s0_88)) else
(J106 (i2 + s0_63)))))) (fun J88 =>
(if s0_38 = 0 then
(Option.bind (S_X7_things i4 x_row) (fun r84 =>
(J88 ((x_row 2) * r84)))) else
(J88 (0 : Int32)))))) (fun J63 =>
(if s0_38 = 0 then
(J63 (0 : Int32)) else
(Option.bind (S_X7_things i4 x_row) (fun r55 =>
(J63 ((x_row 1) * r55))))))) = some (r, o_x_dones) → W p l e rX7_oneRow s m (([.ref ax, .int i1] : List Value).toArray) below meth c H locs 0 0 (MQ below (CQi r D [(ax, .inr (7, [.ref ax_row, .ref ax_text, .int x_letters, .int x_at, .ref ax_read, .ref ax_undone, .int x_undos, .ref ax_order, .ref ax_dones, .int x_away, .int x_bestSet, .ref ax_aside, .ref ax_tapedWho, .ref ax_tapedTill, .int x_taped, .ref ax_kept, .int x_keeps])), (ax_row, .inl (cyI, 28, .inl x_row)), (ax_dones, .inl (cyI, 8, .inl o_x_dones))] A) (([.ref ax, .int i1] : List Value).toArray) s 0 0 A) (F0 m 38 ls [.int s0_38]) := by
            intro s0_38 H locs ls hP hD hS hl hf
            refine lv_istore (lv' := [(5, .int s0_38), (0, .ref ax), (1, .int i1), (2, .int i2), (3, .int i3), (4, .int i4)]) hx hb dX7_oneRow_38 hl (by decide) rfl (fun ls hl => ?_)
            refine lv_iload_n hx hb dX7_oneRow_40 rfl (lv_at hl 3 rfl) ?_
            refine lv_iload hx hb dX7_oneRow_41 (lv_at hl 0 rfl) ?_
            have hJ63 : ∀ (s0_63 : Int32) (H : Heap) (locs : List Loc) (ls : Array Slot), va_P D vwCl [(ax, .inr (7, [.ref ax_row, .ref ax_text, .int x_letters, .int x_at, .ref ax_read, .ref ax_undone, .int x_undos, .ref ax_order, .ref ax_dones, .int x_away, .int x_bestSet, .ref ax_aside, .ref ax_tapedWho, .ref ax_tapedTill, .int x_taped, .ref ax_kept, .int x_keeps])), (ax_row, .inl (cyI, 28, .inl x_row)), (ax_dones, .inl (cyI, 8, .inl x_dones))] H → va_D A [(ax, .inr (7, [.ref ax_row, .ref ax_text, .int x_letters, .int x_at, .ref ax_read, .ref ax_undone, .int x_undos, .ref ax_order, .ref ax_dones, .int x_away, .int x_bestSet, .ref ax_aside, .ref ax_tapedWho, .ref ax_tapedTill, .int x_taped, .ref ax_kept, .int x_keeps])), (ax_row, .inl (cyI, 28, .inl x_row)), (ax_dones, .inl (cyI, 8, .inl x_dones))] → va_S A s.heap H locs → lv_has ls 6 [(0, .ref ax), (1, .int i1), (3, .int i3), (4, .int i4), (5, .int s0_38)] → (jn (fun (s0_88 : Int32) => (jn (fun (s0_106 : Int32) => (if i4 < 0 ∨ 8 ≤ i4.toNatClampNeg then none else
((S_X7_oneRow_L17 i1 x_row n17) (i2 + s0_63) (i3 + s0_88) (i4 + (1 : Int32)) (upd x_dones i4.toNatClampNeg s0_106)))) (fun J106 =>
(if s0_38 = 0 then
(J106 (i3 + s0_88)) else
(J106 (i2 + s0_63)))))) (fun J88 =>
(if s0_38 = 0 then
(Option.bind (S_X7_things i4 x_row) (fun r84 =>
(J88 ((x_row 2) * r84)))) else
(J88 (0 : Int32))))) = some (r, o_x_dones) → W p l e rX7_oneRow s m (([.ref ax, .int i1] : List Value).toArray) below meth c H locs 0 0 (MQ below (CQi r D [(ax, .inr (7, [.ref ax_row, .ref ax_text, .int x_letters, .int x_at, .ref ax_read, .ref ax_undone, .int x_undos, .ref ax_order, .ref ax_dones, .int x_away, .int x_bestSet, .ref ax_aside, .ref ax_tapedWho, .ref ax_tapedTill, .int x_taped, .ref ax_kept, .int x_keeps])), (ax_row, .inl (cyI, 28, .inl x_row)), (ax_dones, .inl (cyI, 8, .inl o_x_dones))] A) (([.ref ax, .int i1] : List Value).toArray) s 0 0 A) (F0 m 63 ls [.int s0_63, .int i2]) := by
              intro s0_63 H locs ls hP hD hS hl hf
              refine lv_iadd hx hb dX7_oneRow_63 ?_
              refine lv_istore_n (lv' := [(2, .int (i2 + s0_63)), (0, .ref ax), (1, .int i1), (3, .int i3), (4, .int i4), (5, .int s0_38)]) hx hb dX7_oneRow_64 rfl hl (by decide) rfl (fun ls hl => ?_)
              refine lv_iload_n hx hb dX7_oneRow_65 rfl (lv_at hl 3 rfl) ?_
              refine lv_iload hx hb dX7_oneRow_66 (lv_at hl 5 rfl) ?_
              have hJ88 : ∀ (s0_88 : Int32) (H : Heap) (locs : List Loc) (ls : Array Slot), va_P D vwCl [(ax, .inr (7, [.ref ax_row, .ref ax_text, .int x_letters, .int x_at, .ref ax_read, .ref ax_undone, .int x_undos, .ref ax_order, .ref ax_dones, .int x_away, .int x_bestSet, .ref ax_aside, .ref ax_tapedWho, .ref ax_tapedTill, .int x_taped, .ref ax_kept, .int x_keeps])), (ax_row, .inl (cyI, 28, .inl x_row)), (ax_dones, .inl (cyI, 8, .inl x_dones))] H → va_D A [(ax, .inr (7, [.ref ax_row, .ref ax_text, .int x_letters, .int x_at, .ref ax_read, .ref ax_undone, .int x_undos, .ref ax_order, .ref ax_dones, .int x_away, .int x_bestSet, .ref ax_aside, .ref ax_tapedWho, .ref ax_tapedTill, .int x_taped, .ref ax_kept, .int x_keeps])), (ax_row, .inl (cyI, 28, .inl x_row)), (ax_dones, .inl (cyI, 8, .inl x_dones))] → va_S A s.heap H locs → lv_has ls 6 [(0, .ref ax), (1, .int i1), (2, .int (i2 + s0_63)), (4, .int i4), (5, .int s0_38)] → (jn (fun (s0_106 : Int32) => (if i4 < 0 ∨ 8 ≤ i4.toNatClampNeg then none else
((S_X7_oneRow_L17 i1 x_row n17) (i2 + s0_63) (i3 + s0_88) (i4 + (1 : Int32)) (upd x_dones i4.toNatClampNeg s0_106)))) (fun J106 =>
(if s0_38 = 0 then
(J106 (i3 + s0_88)) else
(J106 (i2 + s0_63))))) = some (r, o_x_dones) → W p l e rX7_oneRow s m (([.ref ax, .int i1] : List Value).toArray) below meth c H locs 0 0 (MQ below (CQi r D [(ax, .inr (7, [.ref ax_row, .ref ax_text, .int x_letters, .int x_at, .ref ax_read, .ref ax_undone, .int x_undos, .ref ax_order, .ref ax_dones, .int x_away, .int x_bestSet, .ref ax_aside, .ref ax_tapedWho, .ref ax_tapedTill, .int x_taped, .ref ax_kept, .int x_keeps])), (ax_row, .inl (cyI, 28, .inl x_row)), (ax_dones, .inl (cyI, 8, .inl o_x_dones))] A) (([.ref ax, .int i1] : List Value).toArray) s 0 0 A) (F0 m 88 ls [.int s0_88, .int i3]) := by
                intro s0_88 H locs ls hP hD hS hl hf
                refine lv_iadd hx hb dX7_oneRow_88 ?_
                refine lv_istore_n (lv' := [(3, .int (i3 + s0_88)), (0, .ref ax), (1, .int i1), (2, .int (i2 + s0_63)), (4, .int i4), (5, .int s0_38)]) hx hb dX7_oneRow_89 rfl hl (by decide) rfl (fun ls hl => ?_)
                refine lv_aload_n hx hb dX7_oneRow_90 rfl (lv_at hl 1 rfl) ?_
                refine va_get (C := RX7) (T := TX7) (N := 17) hx hb hts inX7 hown hK.1 hP 0 rfl rfl 8 (by decide) f25 (fun _ h9 => h9) rfl dX7_oneRow_91 ?_
                refine lv_iload hx hb dX7_oneRow_94 (lv_at hl 4 rfl) ?_
                refine lv_iload hx hb dX7_oneRow_96 (lv_at hl 5 rfl) ?_
                have hJ106 : ∀ (s0_106 : Int32) (H : Heap) (locs : List Loc) (ls : Array Slot), va_P D vwCl [(ax, .inr (7, [.ref ax_row, .ref ax_text, .int x_letters, .int x_at, .ref ax_read, .ref ax_undone, .int x_undos, .ref ax_order, .ref ax_dones, .int x_away, .int x_bestSet, .ref ax_aside, .ref ax_tapedWho, .ref ax_tapedTill, .int x_taped, .ref ax_kept, .int x_keeps])), (ax_row, .inl (cyI, 28, .inl x_row)), (ax_dones, .inl (cyI, 8, .inl x_dones))] H → va_D A [(ax, .inr (7, [.ref ax_row, .ref ax_text, .int x_letters, .int x_at, .ref ax_read, .ref ax_undone, .int x_undos, .ref ax_order, .ref ax_dones, .int x_away, .int x_bestSet, .ref ax_aside, .ref ax_tapedWho, .ref ax_tapedTill, .int x_taped, .ref ax_kept, .int x_keeps])), (ax_row, .inl (cyI, 28, .inl x_row)), (ax_dones, .inl (cyI, 8, .inl x_dones))] → va_S A s.heap H locs → lv_has ls 6 [(0, .ref ax), (1, .int i1), (2, .int (i2 + s0_63)), (3, .int (i3 + s0_88)), (4, .int i4)] → (if i4 < 0 ∨ 8 ≤ i4.toNatClampNeg then none else
((S_X7_oneRow_L17 i1 x_row n17) (i2 + s0_63) (i3 + s0_88) (i4 + (1 : Int32)) (upd x_dones i4.toNatClampNeg s0_106))) = some (r, o_x_dones) → W p l e rX7_oneRow s m (([.ref ax, .int i1] : List Value).toArray) below meth c H locs 0 0 (MQ below (CQi r D [(ax, .inr (7, [.ref ax_row, .ref ax_text, .int x_letters, .int x_at, .ref ax_read, .ref ax_undone, .int x_undos, .ref ax_order, .ref ax_dones, .int x_away, .int x_bestSet, .ref ax_aside, .ref ax_tapedWho, .ref ax_tapedTill, .int x_taped, .ref ax_kept, .int x_keeps])), (ax_row, .inl (cyI, 28, .inl x_row)), (ax_dones, .inl (cyI, 8, .inl o_x_dones))] A) (([.ref ax, .int i1] : List Value).toArray) s 0 0 A) (F0 m 106 ls [.int s0_106, .int i4, .ref ax_dones]) := by
                  intro s0_106 H locs ls hP hD hS hl hf
                  obtain ⟨z106, hf⟩ := oi hf
                  refine a_ist (wn := [(ax, .inr (7, [.ref ax_row, .ref ax_text, .int x_letters, .int x_at, .ref ax_read, .ref ax_undone, .int x_undos, .ref ax_order, .ref ax_dones, .int x_away, .int x_bestSet, .ref ax_aside, .ref ax_tapedWho, .ref ax_tapedTill, .int x_taped, .ref ax_kept, .int x_keeps])), (ax_row, .inl (cyI, 28, .inl x_row)), (ax_dones, .inl (cyI, 8, .inl (upd x_dones i4.toNatClampNeg s0_106)))]) hx hb hK hP hD hS 2 rfl z106 i4.toNatClampNeg rfl rfl dX7_oneRow_106 (fun H locs hP hD hS => ?_)
                  refine lv_iinc (v := i4 + (1 : Int32)) (lv' := [(4, .int (i4 + (1 : Int32))), (0, .ref ax), (1, .int i1), (2, .int (i2 + s0_63)), (3, .int (i3 + s0_88))]) hx hb dX7_oneRow_107 hl (k := 4) rfl rfl (by decide) rfl (fun ls hl => ?_)
                  refine lv_goto (tgt := 17) hx hb dX7_oneRow_110 (by decide) ?_
                  exact ih17 (i2 + s0_63) (i3 + s0_88) (i4 + (1 : Int32)) (upd x_dones i4.toNatClampNeg s0_106) _ _ _ hP hD hS (lv_sub hl [1, 2, 3, 4, 0] rfl) hf
                replace hf := jn_h hf
                refine lv_if_eq (tgt := 105) hx hb dX7_oneRow_98 (by decide) (fun c98 => ?_) (fun c98 => ?_)
                · replace hf := ip c98 hf
                  refine lv_iload_n hx hb dX7_oneRow_105 rfl (lv_at hl 0 rfl) ?_
                  exact hJ106 (i3 + s0_88) _ _ _ hP hD hS (lv_sub hl [1, 2, 3, 0, 4] rfl) hf
                · replace hf := iq c98 hf
                  refine lv_iload_n hx hb dX7_oneRow_101 rfl (lv_at hl 3 rfl) ?_
                  refine lv_goto (tgt := 106) hx hb dX7_oneRow_102 (by decide) ?_
                  exact hJ106 (i2 + s0_63) _ _ _ hP hD hS (lv_sub hl [1, 2, 3, 0, 4] rfl) hf
              replace hf := jn_h hf
              refine lv_if_eq (tgt := 75) hx hb dX7_oneRow_68 (by decide) (fun c68 => ?_) (fun c68 => ?_)
              · replace hf := ip c68 hf
                refine lv_aload_n hx hb dX7_oneRow_75 rfl (lv_at hl 1 rfl) ?_
                refine va_get (C := RX7) (T := TX7) (N := 17) hx hb hts inX7 hown hK.1 hP 0 rfl rfl 0 (by decide) f7 (fun _ h9 => h9) rfl dX7_oneRow_76 ?_
                refine lv_iconst (v := 2) hx hb dX7_oneRow_79 (by decide) ?_
                refine a_ild hx hb hK hP 1 rfl (vin (by decide)) 2 (by decide) dX7_oneRow_80 ?_
                refine lv_aload_n hx hb dX7_oneRow_81 rfl (lv_at hl 1 rfl) ?_
                refine lv_iload hx hb dX7_oneRow_82 (lv_at hl 4 rfl) ?_
                obtain ⟨r84, q84, hf⟩ := ob hf
                refine k_i (wc := [(ax, .inr (7, [.ref ax_row, .ref ax_text, .int x_letters, .int x_at, .ref ax_read, .ref ax_undone, .int x_undos, .ref ax_order, .ref ax_dones, .int x_away, .int x_bestSet, .ref ax_aside, .ref ax_tapedWho, .ref ax_tapedTill, .int x_taped, .ref ax_kept, .int x_keeps])), (ax_row, .inl (cyI, 28, .inl x_row))]) (wr := [(ax_dones, .inl (cyI, 8, .inl x_dones))]) (w1 := [(ax, .inr (7, [.ref ax_row, .ref ax_text, .int x_letters, .int x_at, .ref ax_read, .ref ax_undone, .int x_undos, .ref ax_order, .ref ax_dones, .int x_away, .int x_bestSet, .ref ax_aside, .ref ax_tapedWho, .ref ax_tapedTill, .int x_taped, .ref ax_kept, .int x_keeps])), (ax_row, .inl (cyI, 28, .inl x_row))]) (wn := [(ax, .inr (7, [.ref ax_row, .ref ax_text, .int x_letters, .int x_at, .ref ax_read, .ref ax_undone, .int x_undos, .ref ax_order, .ref ax_dones, .int x_away, .int x_bestSet, .ref ax_aside, .ref ax_tapedWho, .ref ax_tapedTill, .int x_taped, .ref ax_kept, .int x_keeps])), (ax_row, .inl (cyI, 28, .inl x_row)), (ax_dones, .inl (cyI, 8, .inl x_dones))]) (va_runV (As := [.int i4]) (rest := [.int (x_row 2), .int i3]) ⟨hx, hb, hml, hown, hts⟩ (c_X7_things l D cyI cyC cyS H.size ax ax_row ax_text ax_read ax_undone ax_order ax_dones ax_aside ax_tapedWho ax_tapedTill ax_kept x_letters x_at x_undos x_away x_bestSet x_taped x_keeps x_row i4 q84) (cwV 1 hts gX7_oneRow_X7_things rfl rfl rfl (by decide +kernel) ⟨Nat.le_of_ble_eq_true rfl, Nat.le_of_ble_eq_true rfl⟩) (preV (ci := 7) hK (hP.subm (ws' := [(ax, .inr (7, [.ref ax_row, .ref ax_text, .int x_letters, .int x_at, .ref ax_read, .ref ax_undone, .int x_undos, .ref ax_order, .ref ax_dones, .int x_away, .int x_bestSet, .ref ax_aside, .ref ax_tapedWho, .ref ax_tapedTill, .int x_taped, .ref ax_kept, .int x_keeps])), (ax_row, .inl (cyI, 28, .inl x_row))]) [0, 1] rfl) (hD.sub (ws' := [(ax, .inr (7, [.ref ax_row, .ref ax_text, .int x_letters, .int x_at, .ref ax_read, .ref ax_undone, .int x_undos, .ref ax_order, .ref ax_dones, .int x_away, .int x_bestSet, .ref ax_aside, .ref ax_tapedWho, .ref ax_tapedTill, .int x_taped, .ref ax_kept, .int x_keeps])), (ax_row, .inl (cyI, 28, .inl x_row))]) [0, 1] (by decide) rfl) rfl rfl) rfl rfl hl.1 rfl (lv_room (Nat.le_of_ble_eq_true rfl)) dX7_oneRow_84 ⟨Nat.le_of_ble_eq_true rfl, Nat.le_of_ble_eq_true rfl⟩) hP hD hS hA [0, 1] [2] [1, 2, 0] rfl rfl rfl (by decide) (by decide) (by decide) (fun H locs hP hD hS => ?_)
                refine lv_imul hx hb dX7_oneRow_87 ?_
                exact hJ88 ((x_row 2) * r84) _ _ _ hP hD hS (lv_sub hl [1, 2, 0, 4, 5] rfl) hf
              · replace hf := iq c68 hf
                refine lv_iconst (v := 0) hx hb dX7_oneRow_71 (by decide) ?_
                refine lv_goto (tgt := 88) hx hb dX7_oneRow_72 (by decide) ?_
                exact hJ88 (0 : Int32) _ _ _ hP hD hS (lv_sub hl [1, 2, 0, 4, 5] rfl) hf
            replace hf := jn_h hf
            refine lv_if_eq (tgt := 62) hx hb dX7_oneRow_43 (by decide) (fun c43 => ?_) (fun c43 => ?_)
            · replace hf := ip c43 hf
              refine lv_iconst (v := 0) hx hb dX7_oneRow_62 (by decide) ?_
              exact hJ63 (0 : Int32) _ _ _ hP hD hS (lv_sub hl [1, 2, 4, 5, 0] rfl) hf
            · replace hf := iq c43 hf
              refine lv_aload_n hx hb dX7_oneRow_46 rfl (lv_at hl 1 rfl) ?_
              refine va_get (C := RX7) (T := TX7) (N := 17) hx hb hts inX7 hown hK.1 hP 0 rfl rfl 0 (by decide) f7 (fun _ h9 => h9) rfl dX7_oneRow_47 ?_
              refine lv_iconst (v := 1) hx hb dX7_oneRow_50 (by decide) ?_
              refine a_ild hx hb hK hP 1 rfl (vin (by decide)) 1 (by decide) dX7_oneRow_51 ?_
              refine lv_aload_n hx hb dX7_oneRow_52 rfl (lv_at hl 1 rfl) ?_
              refine lv_iload hx hb dX7_oneRow_53 (lv_at hl 5 rfl) ?_
              obtain ⟨r55, q55, hf⟩ := ob hf
              refine k_i (wc := [(ax, .inr (7, [.ref ax_row, .ref ax_text, .int x_letters, .int x_at, .ref ax_read, .ref ax_undone, .int x_undos, .ref ax_order, .ref ax_dones, .int x_away, .int x_bestSet, .ref ax_aside, .ref ax_tapedWho, .ref ax_tapedTill, .int x_taped, .ref ax_kept, .int x_keeps])), (ax_row, .inl (cyI, 28, .inl x_row))]) (wr := [(ax_dones, .inl (cyI, 8, .inl x_dones))]) (w1 := [(ax, .inr (7, [.ref ax_row, .ref ax_text, .int x_letters, .int x_at, .ref ax_read, .ref ax_undone, .int x_undos, .ref ax_order, .ref ax_dones, .int x_away, .int x_bestSet, .ref ax_aside, .ref ax_tapedWho, .ref ax_tapedTill, .int x_taped, .ref ax_kept, .int x_keeps])), (ax_row, .inl (cyI, 28, .inl x_row))]) (wn := [(ax, .inr (7, [.ref ax_row, .ref ax_text, .int x_letters, .int x_at, .ref ax_read, .ref ax_undone, .int x_undos, .ref ax_order, .ref ax_dones, .int x_away, .int x_bestSet, .ref ax_aside, .ref ax_tapedWho, .ref ax_tapedTill, .int x_taped, .ref ax_kept, .int x_keeps])), (ax_row, .inl (cyI, 28, .inl x_row)), (ax_dones, .inl (cyI, 8, .inl x_dones))]) (va_runV (As := [.int i4]) (rest := [.int (x_row 1), .int i2]) ⟨hx, hb, hml, hown, hts⟩ (c_X7_things l D cyI cyC cyS H.size ax ax_row ax_text ax_read ax_undone ax_order ax_dones ax_aside ax_tapedWho ax_tapedTill ax_kept x_letters x_at x_undos x_away x_bestSet x_taped x_keeps x_row i4 q55) (cwV 1 hts gX7_oneRow_X7_things rfl rfl rfl (by decide +kernel) ⟨Nat.le_of_ble_eq_true rfl, Nat.le_of_ble_eq_true rfl⟩) (preV (ci := 7) hK (hP.subm (ws' := [(ax, .inr (7, [.ref ax_row, .ref ax_text, .int x_letters, .int x_at, .ref ax_read, .ref ax_undone, .int x_undos, .ref ax_order, .ref ax_dones, .int x_away, .int x_bestSet, .ref ax_aside, .ref ax_tapedWho, .ref ax_tapedTill, .int x_taped, .ref ax_kept, .int x_keeps])), (ax_row, .inl (cyI, 28, .inl x_row))]) [0, 1] rfl) (hD.sub (ws' := [(ax, .inr (7, [.ref ax_row, .ref ax_text, .int x_letters, .int x_at, .ref ax_read, .ref ax_undone, .int x_undos, .ref ax_order, .ref ax_dones, .int x_away, .int x_bestSet, .ref ax_aside, .ref ax_tapedWho, .ref ax_tapedTill, .int x_taped, .ref ax_kept, .int x_keeps])), (ax_row, .inl (cyI, 28, .inl x_row))]) [0, 1] (by decide) rfl) rfl rfl) rfl rfl hl.1 rfl (lv_room (Nat.le_of_ble_eq_true rfl)) dX7_oneRow_55 ⟨Nat.le_of_ble_eq_true rfl, Nat.le_of_ble_eq_true rfl⟩) hP hD hS hA [0, 1] [2] [1, 2, 0] rfl rfl rfl (by decide) (by decide) (by decide) (fun H locs hP hD hS => ?_)
              refine lv_imul hx hb dX7_oneRow_58 ?_
              refine lv_goto (tgt := 63) hx hb dX7_oneRow_59 (by decide) ?_
              exact hJ63 ((x_row 1) * r55) _ _ _ hP hD hS (lv_sub hl [1, 2, 4, 5, 0] rfl) hf
          replace hf := jn_h hf
          refine lv_icmp_gt (tgt := 37) hx hb dX7_oneRow_30 (by decide) (fun c30 => ?_) (fun c30 => ?_)
          · replace hf := ip c30 hf
            refine lv_iconst (v := 0) hx hb dX7_oneRow_37 (by decide) ?_
            exact hJ38 (0 : Int32) _ _ _ hP hD hS (lv_sub hl [0, 1, 2, 3, 4] rfl) hf
          · replace hf := iq c30 hf
            refine lv_iconst (v := 1) hx hb dX7_oneRow_33 (by decide) ?_
            refine lv_goto (tgt := 38) hx hb dX7_oneRow_34 (by decide) ?_
            exact hJ38 (1 : Int32) _ _ _ hP hD hS (lv_sub hl [0, 1, 2, 3, 4] rfl) hf
    exact hL17 300 (0 : Int32) (0 : Int32) (0 : Int32) x_dones _ _ _ hP hD hS (lv_sub hl [3, 4, 2, 1, 0] rfl) hf
  · replace hf := ip c5 hf
    refine lv_iconst (v := -1) hx hb dX7_oneRow_8 (by decide) ?_
    simp only [Option.some.injEq, Prod.mk.injEq] at hf
    obtain ⟨rfl, rfl⟩ := hf
    exact W.iret hx hb hr (fun t ht hW => ⟨⟨_, (), rfl, rfl, by rw [ht]; exact hP, hD⟩, hS.F ht⟩) hS.2.2 dX7_oneRow_9
abbrev rX7_called : Room := { frames := 4, cells := 0, slots := 0, locals := 90 }
set_option maxHeartbeats 4000000 in
set_option maxRecDepth 100000 in
theorem c_X7_called (l : Launch) (D : va_G) (cyI cyC cyS : ClassId) (sz : Nat) (ax : Nat) (ax_row : Nat) (ax_text : Nat) (ax_read : Nat) (ax_undone : Nat) (ax_order : Nat) (ax_dones : Nat) (ax_aside : Nat) (ax_tapedWho : Nat) (ax_tapedTill : Nat) (ax_kept : Nat) (x_letters : Int32) (x_at : Int32) (x_undos : Int32) (x_away : Int32) (x_bestSet : Int32) (x_taped : Int32) (x_keeps : Int32) (x_row : Nat → Int32) (x_order : Nat → Int32) (x_dones : Nat → Int32) (i1 : Int32) (i2 : Int32) {r : Int32} {o_x_away : Int32} {o_x_order : Nat → Int32} {o_x_dones : Nat → Int32} (hf : S_X7_called i1 i2 x_away x_row x_order x_dones = some (r, o_x_away, o_x_order, o_x_dones)) : Met l yX7_called wsX7_called rX7_called (Cpre [.ref ax, .int i1, .int i2] D cyI cyC cyS sz [(ax, .inr (7, [.ref ax_row, .ref ax_text, .int x_letters, .int x_at, .ref ax_read, .ref ax_undone, .int x_undos, .ref ax_order, .ref ax_dones, .int x_away, .int x_bestSet, .ref ax_aside, .ref ax_tapedWho, .ref ax_tapedTill, .int x_taped, .ref ax_kept, .int x_keeps])), (ax_row, .inl (cyI, 28, .inl x_row)), (ax_order, .inl (cyI, 8, .inl x_order)), (ax_dones, .inl (cyI, 8, .inl x_dones))]) (CQi r D [(ax, .inr (7, [.ref ax_row, .ref ax_text, .int x_letters, .int x_at, .ref ax_read, .ref ax_undone, .int x_undos, .ref ax_order, .ref ax_dones, .int o_x_away, .int x_bestSet, .ref ax_aside, .ref ax_tapedWho, .ref ax_tapedTill, .int x_taped, .ref ax_kept, .int x_keeps])), (ax_row, .inl (cyI, 28, .inl x_row)), (ax_order, .inl (cyI, 8, .inl o_x_order)), (ax_dones, .inl (cyI, 8, .inl o_x_dones))] (va_A [(ax, .inr (7, [.ref ax_row, .ref ax_text, .int x_letters, .int x_at, .ref ax_read, .ref ax_undone, .int x_undos, .ref ax_order, .ref ax_dones, .int x_away, .int x_bestSet, .ref ax_aside, .ref ax_tapedWho, .ref ax_tapedTill, .int x_taped, .ref ax_kept, .int x_keeps])), (ax_row, .inl (cyI, 28, .inl x_row)), (ax_order, .inl (cyI, 8, .inl x_order)), (ax_dones, .inl (cyI, 8, .inl x_dones))] sz)) 0 0 (va_A [(ax, .inr (7, [.ref ax_row, .ref ax_text, .int x_letters, .int x_at, .ref ax_read, .ref ax_undone, .int x_undos, .ref ax_order, .ref ax_dones, .int x_away, .int x_bestSet, .ref ax_aside, .ref ax_tapedWho, .ref ax_tapedTill, .int x_taped, .ref ax_kept, .int x_keeps])), (ax_row, .inl (cyI, 28, .inl x_row)), (ax_order, .inl (cyI, 8, .inl x_order)), (ax_dones, .inl (cyI, 8, .inl x_dones))] sz) := by
  refine Met.ofW (cc := cX7_called) (maxL := 7) (ret := (some .int)) (by decide) rfl ?_
  intro p e s m args below meth c s₁ B hml hv
  obtain ⟨rfl, hsz, hP, hK, hD0⟩ := hv
  have hx := B.exec
  have hb := B.bytes
  have hr := B.returns
  have hts := atoms_spec (ws := wsX7_called) B.pre
  have hown : s.vm.findClass RX7 = some m.cls := findClass_of_methodNamed B.named
  have hlocks := B.notSynchronized
  subst hsz
  have hD := hD0.self (sz := s.heap.size)
  generalize hAe : va_A [(ax, .inr (7, [.ref ax_row, .ref ax_text, .int x_letters, .int x_at, .ref ax_read, .ref ax_undone, .int x_undos, .ref ax_order, .ref ax_dones, .int x_away, .int x_bestSet, .ref ax_aside, .ref ax_tapedWho, .ref ax_tapedTill, .int x_taped, .ref ax_kept, .int x_keeps])), (ax_row, .inl (cyI, 28, .inl x_row)), (ax_order, .inl (cyI, 8, .inl x_order)), (ax_dones, .inl (cyI, 8, .inl x_dones))] s.heap.size = A at hD ⊢
  have hA : ∀ q : Nat, s.heap.size ≤ q → A q := fun q h => by rw [← hAe]; exact Or.inr h
  have hS : va_S A s.heap s.heap [] := va_S.rf
  have hl := lv_entry ([.ref ax, .int i1, .int i2]) (n := 7) (Nat.le_of_ble_eq_true rfl)
  rw [lg_entry_eq]
  generalize (lg_sl ([.ref ax, .int i1, .int i2]) ++ List.replicate (7 - (lg_sl ([.ref ax, .int i1, .int i2])).length) Slot.unset).toArray = ls at hl ⊢
  have hl : lv_has ls 7 [(0, .ref ax), (1, .int i1), (2, .int i2)] := hl
  have k173 := hts (.constantLong RX7 173 (2)) (by decide +kernel)
  have f7 := hts (.fieldLink RX7 7 "SecondTillModel" "row" "[I") (by decide +kernel)
  have inX7 : ∀ w ∈ u_ws RX7 TX7 17, w ∈ wsX7_called := by decide +kernel
  unfold S_X7_called at hf
  have hP : va_P D vwCl [(ax, .inr (7, [.ref ax_row, .ref ax_text, .int x_letters, .int x_at, .ref ax_read, .ref ax_undone, .int x_undos, .ref ax_order, .ref ax_dones, .int x_away, .int x_bestSet, .ref ax_aside, .ref ax_tapedWho, .ref ax_tapedTill, .int x_taped, .ref ax_kept, .int x_keeps])), (ax_row, .inl (cyI, 28, .inl x_row)), (ax_order, .inl (cyI, 8, .inl x_order)), (ax_dones, .inl (cyI, 8, .inl x_dones))] s.heap := hP
  suffices hgo : ∀ (H : Heap) (locs : List Loc), va_P D vwCl [(ax, .inr (7, [.ref ax_row, .ref ax_text, .int x_letters, .int x_at, .ref ax_read, .ref ax_undone, .int x_undos, .ref ax_order, .ref ax_dones, .int x_away, .int x_bestSet, .ref ax_aside, .ref ax_tapedWho, .ref ax_tapedTill, .int x_taped, .ref ax_kept, .int x_keeps])), (ax_row, .inl (cyI, 28, .inl x_row)), (ax_order, .inl (cyI, 8, .inl x_order)), (ax_dones, .inl (cyI, 8, .inl x_dones))] H → va_S A s.heap H locs → W p l e rX7_called s m (([.ref ax, .int i1, .int i2] : List Value).toArray) below meth c H locs 0 0 (MQ below (CQi r D [(ax, .inr (7, [.ref ax_row, .ref ax_text, .int x_letters, .int x_at, .ref ax_read, .ref ax_undone, .int x_undos, .ref ax_order, .ref ax_dones, .int o_x_away, .int x_bestSet, .ref ax_aside, .ref ax_tapedWho, .ref ax_tapedTill, .int x_taped, .ref ax_kept, .int x_keeps])), (ax_row, .inl (cyI, 28, .inl x_row)), (ax_order, .inl (cyI, 8, .inl o_x_order)), (ax_dones, .inl (cyI, 8, .inl o_x_dones))] A) (([.ref ax, .int i1, .int i2] : List Value).toArray) s 0 0 A) (F0 m 0 ls []) from hgo _ _ hP hS
  clear hP hS
  intro H locs hP hS
  refine lv_iload_n hx hb dX7_called_0 rfl (lv_at hl 1 rfl) ?_
  refine lv_i2l (v := i1.toInt64) hx hb dX7_called_1 rfl ?_
  refine lv_lconst (v := 0) hx hb dX7_called_2 (by decide) ?_
  refine lv_ldc2 hx hb hown k173 dX7_called_3 ?_
  obtain ⟨r6, q6, hf⟩ := ob hf
  refine k_i (wc := []) (wr := [(ax, .inr (7, [.ref ax_row, .ref ax_text, .int x_letters, .int x_at, .ref ax_read, .ref ax_undone, .int x_undos, .ref ax_order, .ref ax_dones, .int x_away, .int x_bestSet, .ref ax_aside, .ref ax_tapedWho, .ref ax_tapedTill, .int x_taped, .ref ax_kept, .int x_keeps])), (ax_row, .inl (cyI, 28, .inl x_row)), (ax_order, .inl (cyI, 8, .inl x_order)), (ax_dones, .inl (cyI, 8, .inl x_dones))]) (w1 := []) (wn := [(ax, .inr (7, [.ref ax_row, .ref ax_text, .int x_letters, .int x_at, .ref ax_read, .ref ax_undone, .int x_undos, .ref ax_order, .ref ax_dones, .int x_away, .int x_bestSet, .ref ax_aside, .ref ax_tapedWho, .ref ax_tapedTill, .int x_taped, .ref ax_kept, .int x_keeps])), (ax_row, .inl (cyI, 28, .inl x_row)), (ax_order, .inl (cyI, 8, .inl x_order)), (ax_dones, .inl (cyI, 8, .inl x_dones))]) (va_runS (As := [.long i1.toInt64, .long (0 : Int64), .long (2 : Int64)]) (rest := []) ⟨hx, hb, hml, hown, hts⟩ (c_X7_in l D cyI cyC cyS H.size i1.toInt64 (0 : Int64) (2 : Int64) q6) (va_cwS 3 hts gX7_called_X7_in rfl rfl rfl (by decide +kernel) ⟨Nat.le_of_ble_eq_true rfl, Nat.le_of_ble_eq_true rfl⟩) (preS hK (hP.subm (ws' := []) [] rfl) (hD.sub (ws' := []) [] (by decide) rfl)) rfl rfl hl.1 rfl (lv_room (Nat.le_of_ble_eq_true rfl)) dX7_called_6 ⟨Nat.le_of_ble_eq_true rfl, Nat.le_of_ble_eq_true rfl⟩) hP hD hS hA [] [0, 1, 2, 3] [0, 1, 2, 3] rfl rfl rfl (by decide) (by decide) (by decide) (fun H locs hP hD hS => ?_)
  refine lv_if_eq (tgt := 22) hx hb dX7_called_9 (by decide) (fun c9 => ?_) (fun c9 => ?_)
  · replace hf := ip c9 hf
    refine lv_iconst (v := -1) hx hb dX7_called_22 (by decide) ?_
    simp only [Option.some.injEq, Prod.mk.injEq] at hf
    obtain ⟨rfl, rfl, rfl, rfl⟩ := hf
    exact W.iret hx hb hr (fun t ht hW => ⟨⟨_, (), rfl, rfl, by rw [ht]; exact hP, hD⟩, hS.F ht⟩) hS.2.2 dX7_called_23
  · replace hf := iq c9 hf
    refine lv_iload_n hx hb dX7_called_12 rfl (lv_at hl 2 rfl) ?_
    refine lv_i2l (v := i2.toInt64) hx hb dX7_called_13 rfl ?_
    refine lv_lconst (v := 0) hx hb dX7_called_14 (by decide) ?_
    refine lv_lconst (v := 1) hx hb dX7_called_15 (by decide) ?_
    obtain ⟨r16, q16, hf⟩ := ob hf
    refine k_i (wc := []) (wr := [(ax, .inr (7, [.ref ax_row, .ref ax_text, .int x_letters, .int x_at, .ref ax_read, .ref ax_undone, .int x_undos, .ref ax_order, .ref ax_dones, .int x_away, .int x_bestSet, .ref ax_aside, .ref ax_tapedWho, .ref ax_tapedTill, .int x_taped, .ref ax_kept, .int x_keeps])), (ax_row, .inl (cyI, 28, .inl x_row)), (ax_order, .inl (cyI, 8, .inl x_order)), (ax_dones, .inl (cyI, 8, .inl x_dones))]) (w1 := []) (wn := [(ax, .inr (7, [.ref ax_row, .ref ax_text, .int x_letters, .int x_at, .ref ax_read, .ref ax_undone, .int x_undos, .ref ax_order, .ref ax_dones, .int x_away, .int x_bestSet, .ref ax_aside, .ref ax_tapedWho, .ref ax_tapedTill, .int x_taped, .ref ax_kept, .int x_keeps])), (ax_row, .inl (cyI, 28, .inl x_row)), (ax_order, .inl (cyI, 8, .inl x_order)), (ax_dones, .inl (cyI, 8, .inl x_dones))]) (va_runS (As := [.long i2.toInt64, .long (0 : Int64), .long (1 : Int64)]) (rest := []) ⟨hx, hb, hml, hown, hts⟩ (c_X7_in l D cyI cyC cyS H.size i2.toInt64 (0 : Int64) (1 : Int64) q16) (va_cwS 3 hts gX7_called_X7_in rfl rfl rfl (by decide +kernel) ⟨Nat.le_of_ble_eq_true rfl, Nat.le_of_ble_eq_true rfl⟩) (preS hK (hP.subm (ws' := []) [] rfl) (hD.sub (ws' := []) [] (by decide) rfl)) rfl rfl hl.1 rfl (lv_room (Nat.le_of_ble_eq_true rfl)) dX7_called_16 ⟨Nat.le_of_ble_eq_true rfl, Nat.le_of_ble_eq_true rfl⟩) hP hD hS hA [] [0, 1, 2, 3] [0, 1, 2, 3] rfl rfl rfl (by decide) (by decide) (by decide) (fun H locs hP hD hS => ?_)
    refine lv_if_ne (tgt := 24) hx hb dX7_called_19 (by decide) (fun c19 => ?_) (fun c19 => ?_)
    · replace hf := iq c19 hf
      refine lv_aload_n hx hb dX7_called_24 rfl (lv_at hl 0 rfl) ?_
      refine va_get (C := RX7) (T := TX7) (N := 17) hx hb hts inX7 hown hK.1 hP 0 rfl rfl 0 (by decide) f7 (fun _ h9 => h9) rfl dX7_called_25 ?_
      refine lv_iconst (v := 0) hx hb dX7_called_28 (by decide) ?_
      refine a_ild hx hb hK hP 1 rfl (vin (by decide)) 0 (by decide) dX7_called_29 ?_
      refine lv_istore_n (lv' := [(3, .int (x_row 0)), (0, .ref ax), (1, .int i1), (2, .int i2)]) hx hb dX7_called_30 rfl hl (by decide) rfl (fun ls hl => ?_)
      refine lv_iconst (v := 0) hx hb dX7_called_31 (by decide) ?_
      refine lv_istore (lv' := [(4, .int (0 : Int32)), (3, .int (x_row 0)), (0, .ref ax), (1, .int i1), (2, .int i2)]) hx hb dX7_called_32 hl (by decide) rfl (fun ls hl => ?_)
      refine lv_iconst (v := 0) hx hb dX7_called_34 (by decide) ?_
      refine lv_istore (lv' := [(5, .int (0 : Int32)), (4, .int (0 : Int32)), (3, .int (x_row 0)), (0, .ref ax), (1, .int i1), (2, .int i2)]) hx hb dX7_called_35 hl (by decide) rfl (fun ls hl => ?_)
      have hL37 : ∀ (n37 : Nat) (i3 : Int32) (x_away : Int32) (x_order : Nat → Int32) (x_dones : Nat → Int32) (i4 : Int32) (i5 : Int32) (H : Heap) (locs : List Loc) (ls : Array Slot), va_P D vwCl [(ax, .inr (7, [.ref ax_row, .ref ax_text, .int x_letters, .int x_at, .ref ax_read, .ref ax_undone, .int x_undos, .ref ax_order, .ref ax_dones, .int x_away, .int x_bestSet, .ref ax_aside, .ref ax_tapedWho, .ref ax_tapedTill, .int x_taped, .ref ax_kept, .int x_keeps])), (ax_row, .inl (cyI, 28, .inl x_row)), (ax_order, .inl (cyI, 8, .inl x_order)), (ax_dones, .inl (cyI, 8, .inl x_dones))] H → va_D A [(ax, .inr (7, [.ref ax_row, .ref ax_text, .int x_letters, .int x_at, .ref ax_read, .ref ax_undone, .int x_undos, .ref ax_order, .ref ax_dones, .int x_away, .int x_bestSet, .ref ax_aside, .ref ax_tapedWho, .ref ax_tapedTill, .int x_taped, .ref ax_kept, .int x_keeps])), (ax_row, .inl (cyI, 28, .inl x_row)), (ax_order, .inl (cyI, 8, .inl x_order)), (ax_dones, .inl (cyI, 8, .inl x_dones))] → va_S A s.heap H locs → lv_has ls 7 [(0, .ref ax), (1, .int i1), (2, .int i2), (3, .int i3), (4, .int i4), (5, .int i5)] → S_X7_called_L37 i1 i2 i3 x_order x_dones x_row n37 i4 i5 = some (r, o_x_away, o_x_order, o_x_dones) → W p l e rX7_called s m (([.ref ax, .int i1, .int i2] : List Value).toArray) below meth c H locs 0 0 (MQ below (CQi r D [(ax, .inr (7, [.ref ax_row, .ref ax_text, .int x_letters, .int x_at, .ref ax_read, .ref ax_undone, .int x_undos, .ref ax_order, .ref ax_dones, .int o_x_away, .int x_bestSet, .ref ax_aside, .ref ax_tapedWho, .ref ax_tapedTill, .int x_taped, .ref ax_kept, .int x_keeps])), (ax_row, .inl (cyI, 28, .inl x_row)), (ax_order, .inl (cyI, 8, .inl o_x_order)), (ax_dones, .inl (cyI, 8, .inl o_x_dones))] A) (([.ref ax, .int i1, .int i2] : List Value).toArray) s 0 0 A) (F0 m 37 ls []) := by
        intro n37
        induction n37 with
        | zero => intro i3 x_away x_order x_dones i4 i5 H locs ls hP hD hS hl hf; exact absurd hf (by simp [S_X7_called_L37])
        | succ n37 ih37 =>
          intro i3 x_away x_order x_dones i4 i5 H locs ls hP hD hS hl hf
          rw [S_X7_called_L37] at hf
          refine lv_iload hx hb dX7_called_37 (lv_at hl 5 rfl) ?_
          refine lv_iload_n hx hb dX7_called_39 rfl (lv_at hl 3 rfl) ?_
          refine lv_icmp_ge (tgt := 130) hx hb dX7_called_40 (by decide) (fun c40 => ?_) (fun c40 => ?_)
          · replace hf := ip c40 hf
            refine lv_aload_n hx hb dX7_called_130 rfl (lv_at hl 0 rfl) ?_
            refine lv_iload hx hb dX7_called_131 (lv_at hl 4 rfl) ?_
            obtain ⟨⟨x_away_o133, x_order_o133, x_dones_o133⟩, q133, hf⟩ := ob hf
            replace hf : _ = _ := hf
            refine k_v (wc := [(ax, .inr (7, [.ref ax_row, .ref ax_text, .int x_letters, .int x_at, .ref ax_read, .ref ax_undone, .int x_undos, .ref ax_order, .ref ax_dones, .int x_away, .int x_bestSet, .ref ax_aside, .ref ax_tapedWho, .ref ax_tapedTill, .int x_taped, .ref ax_kept, .int x_keeps])), (ax_row, .inl (cyI, 28, .inl x_row)), (ax_order, .inl (cyI, 8, .inl x_order)), (ax_dones, .inl (cyI, 8, .inl x_dones))]) (wr := []) (w1 := [(ax, .inr (7, [.ref ax_row, .ref ax_text, .int x_letters, .int x_at, .ref ax_read, .ref ax_undone, .int x_undos, .ref ax_order, .ref ax_dones, .int x_away_o133, .int x_bestSet, .ref ax_aside, .ref ax_tapedWho, .ref ax_tapedTill, .int x_taped, .ref ax_kept, .int x_keeps])), (ax_row, .inl (cyI, 28, .inl x_row)), (ax_order, .inl (cyI, 8, .inl x_order_o133)), (ax_dones, .inl (cyI, 8, .inl x_dones_o133))]) (wn := [(ax, .inr (7, [.ref ax_row, .ref ax_text, .int x_letters, .int x_at, .ref ax_read, .ref ax_undone, .int x_undos, .ref ax_order, .ref ax_dones, .int x_away_o133, .int x_bestSet, .ref ax_aside, .ref ax_tapedWho, .ref ax_tapedTill, .int x_taped, .ref ax_kept, .int x_keeps])), (ax_row, .inl (cyI, 28, .inl x_row)), (ax_order, .inl (cyI, 8, .inl x_order_o133)), (ax_dones, .inl (cyI, 8, .inl x_dones_o133))]) (va_runV (As := [.int i4]) (rest := []) ⟨hx, hb, hml, hown, hts⟩ (c_X7_sends l D cyI cyC cyS H.size ax ax_row ax_text ax_read ax_undone ax_order ax_dones ax_aside ax_tapedWho ax_tapedTill ax_kept x_letters x_at x_undos x_away x_bestSet x_taped x_keeps x_row x_order x_dones i4 q133) (cwV 1 hts gX7_called_X7_sends rfl rfl rfl (by decide +kernel) ⟨Nat.le_of_ble_eq_true rfl, Nat.le_of_ble_eq_true rfl⟩) (preV (ci := 7) hK (hP.subm (ws' := [(ax, .inr (7, [.ref ax_row, .ref ax_text, .int x_letters, .int x_at, .ref ax_read, .ref ax_undone, .int x_undos, .ref ax_order, .ref ax_dones, .int x_away, .int x_bestSet, .ref ax_aside, .ref ax_tapedWho, .ref ax_tapedTill, .int x_taped, .ref ax_kept, .int x_keeps])), (ax_row, .inl (cyI, 28, .inl x_row)), (ax_order, .inl (cyI, 8, .inl x_order)), (ax_dones, .inl (cyI, 8, .inl x_dones))]) [0, 1, 2, 3] rfl) (hD.sub (ws' := [(ax, .inr (7, [.ref ax_row, .ref ax_text, .int x_letters, .int x_at, .ref ax_read, .ref ax_undone, .int x_undos, .ref ax_order, .ref ax_dones, .int x_away, .int x_bestSet, .ref ax_aside, .ref ax_tapedWho, .ref ax_tapedTill, .int x_taped, .ref ax_kept, .int x_keeps])), (ax_row, .inl (cyI, 28, .inl x_row)), (ax_order, .inl (cyI, 8, .inl x_order)), (ax_dones, .inl (cyI, 8, .inl x_dones))]) [0, 1, 2, 3] (by decide) rfl) rfl rfl) rfl rfl hl.1 rfl (lv_room (Nat.le_of_ble_eq_true rfl)) dX7_called_133 ⟨Nat.le_of_ble_eq_true rfl, Nat.le_of_ble_eq_true rfl⟩) hP hD hS hA [0, 1, 2, 3] [] [0, 1, 2, 3] rfl rfl rfl (by decide) (by decide) (by decide) (fun H locs hP hD hS => ?_)
            refine lv_iload_n hx hb dX7_called_136 rfl (lv_at hl 2 rfl) ?_
            refine lv_if_ne (tgt := 147) hx hb dX7_called_137 (by decide) (fun c137 => ?_) (fun c137 => ?_)
            · replace hf := iq c137 hf
              refine lv_aload_n hx hb dX7_called_147 rfl (lv_at hl 0 rfl) ?_
              obtain ⟨r148, q148, hf⟩ := ob hf
              refine k_i (wc := [(ax, .inr (7, [.ref ax_row, .ref ax_text, .int x_letters, .int x_at, .ref ax_read, .ref ax_undone, .int x_undos, .ref ax_order, .ref ax_dones, .int x_away_o133, .int x_bestSet, .ref ax_aside, .ref ax_tapedWho, .ref ax_tapedTill, .int x_taped, .ref ax_kept, .int x_keeps])), (ax_row, .inl (cyI, 28, .inl x_row)), (ax_dones, .inl (cyI, 8, .inl x_dones_o133))]) (wr := [(ax_order, .inl (cyI, 8, .inl x_order_o133))]) (w1 := [(ax, .inr (7, [.ref ax_row, .ref ax_text, .int x_letters, .int x_at, .ref ax_read, .ref ax_undone, .int x_undos, .ref ax_order, .ref ax_dones, .int x_away_o133, .int x_bestSet, .ref ax_aside, .ref ax_tapedWho, .ref ax_tapedTill, .int x_taped, .ref ax_kept, .int x_keeps])), (ax_row, .inl (cyI, 28, .inl x_row)), (ax_dones, .inl (cyI, 8, .inl x_dones_o133))]) (wn := [(ax, .inr (7, [.ref ax_row, .ref ax_text, .int x_letters, .int x_at, .ref ax_read, .ref ax_undone, .int x_undos, .ref ax_order, .ref ax_dones, .int x_away_o133, .int x_bestSet, .ref ax_aside, .ref ax_tapedWho, .ref ax_tapedTill, .int x_taped, .ref ax_kept, .int x_keeps])), (ax_row, .inl (cyI, 28, .inl x_row)), (ax_order, .inl (cyI, 8, .inl x_order_o133)), (ax_dones, .inl (cyI, 8, .inl x_dones_o133))]) (va_runV (As := []) (rest := []) ⟨hx, hb, hml, hown, hts⟩ (c_X7_sum l D cyI cyC cyS H.size ax ax_row ax_text ax_read ax_undone ax_order ax_dones ax_aside ax_tapedWho ax_tapedTill ax_kept x_letters x_at x_undos x_away_o133 x_bestSet x_taped x_keeps x_row x_dones_o133 q148) (cwV 0 hts gX7_called_X7_sum rfl rfl rfl (by decide +kernel) ⟨Nat.le_of_ble_eq_true rfl, Nat.le_of_ble_eq_true rfl⟩) (preV (ci := 7) hK (hP.subm (ws' := [(ax, .inr (7, [.ref ax_row, .ref ax_text, .int x_letters, .int x_at, .ref ax_read, .ref ax_undone, .int x_undos, .ref ax_order, .ref ax_dones, .int x_away_o133, .int x_bestSet, .ref ax_aside, .ref ax_tapedWho, .ref ax_tapedTill, .int x_taped, .ref ax_kept, .int x_keeps])), (ax_row, .inl (cyI, 28, .inl x_row)), (ax_dones, .inl (cyI, 8, .inl x_dones_o133))]) [0, 1, 3] rfl) (hD.sub (ws' := [(ax, .inr (7, [.ref ax_row, .ref ax_text, .int x_letters, .int x_at, .ref ax_read, .ref ax_undone, .int x_undos, .ref ax_order, .ref ax_dones, .int x_away_o133, .int x_bestSet, .ref ax_aside, .ref ax_tapedWho, .ref ax_tapedTill, .int x_taped, .ref ax_kept, .int x_keeps])), (ax_row, .inl (cyI, 28, .inl x_row)), (ax_dones, .inl (cyI, 8, .inl x_dones_o133))]) [0, 1, 3] (by decide) rfl) rfl rfl) rfl rfl hl.1 rfl (lv_room (Nat.le_of_ble_eq_true rfl)) dX7_called_148 ⟨Nat.le_of_ble_eq_true rfl, Nat.le_of_ble_eq_true rfl⟩) hP hD hS hA [0, 1, 3] [2] [1, 2, 0, 3] rfl rfl rfl (by decide) (by decide) (by decide) (fun H locs hP hD hS => ?_)
              simp only [Option.some.injEq, Prod.mk.injEq] at hf
              obtain ⟨rfl, rfl, rfl, rfl⟩ := hf
              exact W.iret hx hb hr (fun t ht hW => ⟨⟨_, (), rfl, rfl, by rw [ht]; exact hP, hD⟩, hS.F ht⟩) hS.2.2 dX7_called_151
            · replace hf := ip c137 hf
              refine lv_aload_n hx hb dX7_called_140 rfl (lv_at hl 0 rfl) ?_
              obtain ⟨r141, q141, hf⟩ := ob hf
              refine k_i (wc := [(ax, .inr (7, [.ref ax_row, .ref ax_text, .int x_letters, .int x_at, .ref ax_read, .ref ax_undone, .int x_undos, .ref ax_order, .ref ax_dones, .int x_away_o133, .int x_bestSet, .ref ax_aside, .ref ax_tapedWho, .ref ax_tapedTill, .int x_taped, .ref ax_kept, .int x_keeps])), (ax_row, .inl (cyI, 28, .inl x_row)), (ax_dones, .inl (cyI, 8, .inl x_dones_o133))]) (wr := [(ax_order, .inl (cyI, 8, .inl x_order_o133))]) (w1 := [(ax, .inr (7, [.ref ax_row, .ref ax_text, .int x_letters, .int x_at, .ref ax_read, .ref ax_undone, .int x_undos, .ref ax_order, .ref ax_dones, .int x_away_o133, .int x_bestSet, .ref ax_aside, .ref ax_tapedWho, .ref ax_tapedTill, .int x_taped, .ref ax_kept, .int x_keeps])), (ax_row, .inl (cyI, 28, .inl x_row)), (ax_dones, .inl (cyI, 8, .inl x_dones_o133))]) (wn := [(ax, .inr (7, [.ref ax_row, .ref ax_text, .int x_letters, .int x_at, .ref ax_read, .ref ax_undone, .int x_undos, .ref ax_order, .ref ax_dones, .int x_away_o133, .int x_bestSet, .ref ax_aside, .ref ax_tapedWho, .ref ax_tapedTill, .int x_taped, .ref ax_kept, .int x_keeps])), (ax_row, .inl (cyI, 28, .inl x_row)), (ax_order, .inl (cyI, 8, .inl x_order_o133)), (ax_dones, .inl (cyI, 8, .inl x_dones_o133))]) (va_runV (As := []) (rest := []) ⟨hx, hb, hml, hown, hts⟩ (c_X7_latest l D cyI cyC cyS H.size ax ax_row ax_text ax_read ax_undone ax_order ax_dones ax_aside ax_tapedWho ax_tapedTill ax_kept x_letters x_at x_undos x_away_o133 x_bestSet x_taped x_keeps x_row x_dones_o133 q141) (cwV 0 hts gX7_called_X7_latest rfl rfl rfl (by decide +kernel) ⟨Nat.le_of_ble_eq_true rfl, Nat.le_of_ble_eq_true rfl⟩) (preV (ci := 7) hK (hP.subm (ws' := [(ax, .inr (7, [.ref ax_row, .ref ax_text, .int x_letters, .int x_at, .ref ax_read, .ref ax_undone, .int x_undos, .ref ax_order, .ref ax_dones, .int x_away_o133, .int x_bestSet, .ref ax_aside, .ref ax_tapedWho, .ref ax_tapedTill, .int x_taped, .ref ax_kept, .int x_keeps])), (ax_row, .inl (cyI, 28, .inl x_row)), (ax_dones, .inl (cyI, 8, .inl x_dones_o133))]) [0, 1, 3] rfl) (hD.sub (ws' := [(ax, .inr (7, [.ref ax_row, .ref ax_text, .int x_letters, .int x_at, .ref ax_read, .ref ax_undone, .int x_undos, .ref ax_order, .ref ax_dones, .int x_away_o133, .int x_bestSet, .ref ax_aside, .ref ax_tapedWho, .ref ax_tapedTill, .int x_taped, .ref ax_kept, .int x_keeps])), (ax_row, .inl (cyI, 28, .inl x_row)), (ax_dones, .inl (cyI, 8, .inl x_dones_o133))]) [0, 1, 3] (by decide) rfl) rfl rfl) rfl rfl hl.1 rfl (lv_room (Nat.le_of_ble_eq_true rfl)) dX7_called_141 ⟨Nat.le_of_ble_eq_true rfl, Nat.le_of_ble_eq_true rfl⟩) hP hD hS hA [0, 1, 3] [2] [1, 2, 0, 3] rfl rfl rfl (by decide) (by decide) (by decide) (fun H locs hP hD hS => ?_)
              refine lv_goto (tgt := 151) hx hb dX7_called_144 (by decide) ?_
              simp only [Option.some.injEq, Prod.mk.injEq] at hf
              obtain ⟨rfl, rfl, rfl, rfl⟩ := hf
              exact W.iret hx hb hr (fun t ht hW => ⟨⟨_, (), rfl, rfl, by rw [ht]; exact hP, hD⟩, hS.F ht⟩) hS.2.2 dX7_called_151
          · replace hf := iq c40 hf
            refine lv_iload_n hx hb dX7_called_43 rfl (lv_at hl 1 rfl) ?_
            have hJ104 : ∀ (s0_104 : Int32) (H : Heap) (locs : List Loc) (ls : Array Slot), va_P D vwCl [(ax, .inr (7, [.ref ax_row, .ref ax_text, .int x_letters, .int x_at, .ref ax_read, .ref ax_undone, .int x_undos, .ref ax_order, .ref ax_dones, .int x_away, .int x_bestSet, .ref ax_aside, .ref ax_tapedWho, .ref ax_tapedTill, .int x_taped, .ref ax_kept, .int x_keeps])), (ax_row, .inl (cyI, 28, .inl x_row)), (ax_order, .inl (cyI, 8, .inl x_order)), (ax_dones, .inl (cyI, 8, .inl x_dones))] H → va_D A [(ax, .inr (7, [.ref ax_row, .ref ax_text, .int x_letters, .int x_at, .ref ax_read, .ref ax_undone, .int x_undos, .ref ax_order, .ref ax_dones, .int x_away, .int x_bestSet, .ref ax_aside, .ref ax_tapedWho, .ref ax_tapedTill, .int x_taped, .ref ax_kept, .int x_keeps])), (ax_row, .inl (cyI, 28, .inl x_row)), (ax_order, .inl (cyI, 8, .inl x_order)), (ax_dones, .inl (cyI, 8, .inl x_dones))] → va_S A s.heap H locs → lv_has ls 7 [(0, .ref ax), (1, .int i1), (2, .int i2), (3, .int i3), (4, .int i4), (5, .int i5)] → (if s0_104 = 0 then
((S_X7_called_L37 i1 i2 i3 x_order x_dones x_row n37) (i4 ||| (0 : Int32)) (i5 + (1 : Int32))) else
((S_X7_called_L37 i1 i2 i3 x_order x_dones x_row n37) (i4 ||| ((1 : Int32) <<< (i5 &&& 31))) (i5 + (1 : Int32)))) = some (r, o_x_away, o_x_order, o_x_dones) → W p l e rX7_called s m (([.ref ax, .int i1, .int i2] : List Value).toArray) below meth c H locs 0 0 (MQ below (CQi r D [(ax, .inr (7, [.ref ax_row, .ref ax_text, .int x_letters, .int x_at, .ref ax_read, .ref ax_undone, .int x_undos, .ref ax_order, .ref ax_dones, .int o_x_away, .int x_bestSet, .ref ax_aside, .ref ax_tapedWho, .ref ax_tapedTill, .int x_taped, .ref ax_kept, .int x_keeps])), (ax_row, .inl (cyI, 28, .inl x_row)), (ax_order, .inl (cyI, 8, .inl o_x_order)), (ax_dones, .inl (cyI, 8, .inl o_x_dones))] A) (([.ref ax, .int i1, .int i2] : List Value).toArray) s 0 0 A) (F0 m 104 ls [.int s0_104]) := by
              intro s0_104 H locs ls hP hD hS hl hf
              refine lv_istore (lv' := [(6, .int s0_104), (0, .ref ax), (1, .int i1), (2, .int i2), (3, .int i3), (4, .int i4), (5, .int i5)]) hx hb dX7_called_104 hl (by decide) rfl (fun ls hl => ?_)
              refine lv_iload hx hb dX7_called_106 (lv_at hl 5 rfl) ?_
              refine lv_iload hx hb dX7_called_108 (lv_at hl 0 rfl) ?_
              refine lv_if_eq (tgt := 120) hx hb dX7_called_110 (by decide) (fun c110 => ?_) (fun c110 => ?_)
              · replace hf := ip c110 hf
                refine lv_iconst (v := 0) hx hb dX7_called_120 (by decide) ?_
                refine lv_ior hx hb dX7_called_121 ?_
                refine lv_istore (lv' := [(4, .int (i4 ||| (0 : Int32))), (6, .int s0_104), (0, .ref ax), (1, .int i1), (2, .int i2), (3, .int i3), (5, .int i5)]) hx hb dX7_called_122 hl (by decide) rfl (fun ls hl => ?_)
                refine lv_iinc (v := i5 + (1 : Int32)) (lv' := [(5, .int (i5 + (1 : Int32))), (4, .int (i4 ||| (0 : Int32))), (6, .int s0_104), (0, .ref ax), (1, .int i1), (2, .int i2), (3, .int i3)]) hx hb dX7_called_124 hl (k := 6) rfl rfl (by decide) rfl (fun ls hl => ?_)
                refine lv_goto (tgt := 37) hx hb dX7_called_127 (by decide) ?_
                exact ih37 i3 x_away x_order x_dones (i4 ||| (0 : Int32)) (i5 + (1 : Int32)) _ _ _ hP hD hS (lv_sub hl [3, 4, 5, 6, 1, 0] rfl) hf
              · replace hf := iq c110 hf
                refine lv_iconst (v := 1) hx hb dX7_called_113 (by decide) ?_
                refine lv_iload hx hb dX7_called_114 (lv_at hl 6 rfl) ?_
                refine lv_ishl hx hb dX7_called_116 ?_
                refine lv_goto (tgt := 121) hx hb dX7_called_117 (by decide) ?_
                refine lv_ior hx hb dX7_called_121 ?_
                refine lv_istore (lv' := [(4, .int (i4 ||| ((1 : Int32) <<< (i5 &&& 31)))), (6, .int s0_104), (0, .ref ax), (1, .int i1), (2, .int i2), (3, .int i3), (5, .int i5)]) hx hb dX7_called_122 hl (by decide) rfl (fun ls hl => ?_)
                refine lv_iinc (v := i5 + (1 : Int32)) (lv' := [(5, .int (i5 + (1 : Int32))), (4, .int (i4 ||| ((1 : Int32) <<< (i5 &&& 31)))), (6, .int s0_104), (0, .ref ax), (1, .int i1), (2, .int i2), (3, .int i3)]) hx hb dX7_called_124 hl (k := 6) rfl rfl (by decide) rfl (fun ls hl => ?_)
                refine lv_goto (tgt := 37) hx hb dX7_called_127 (by decide) ?_
                exact ih37 i3 x_away x_order x_dones (i4 ||| ((1 : Int32) <<< (i5 &&& 31))) (i5 + (1 : Int32)) _ _ _ hP hD hS (lv_sub hl [3, 4, 5, 6, 1, 0] rfl) hf
            replace hf := jn_h hf
            refine lv_if_ne (tgt := 63) hx hb dX7_called_44 (by decide) (fun c44 => ?_) (fun c44 => ?_)
            · replace hf := iq c44 hf
              refine lv_iload_n hx hb dX7_called_63 rfl (lv_at hl 1 rfl) ?_
              refine lv_iconst (v := 1) hx hb dX7_called_64 (by decide) ?_
              refine lv_icmp_ne (tgt := 89) hx hb dX7_called_65 (by decide) (fun c65 => ?_) (fun c65 => ?_)
              · replace hf := iq c65 hf
                refine lv_iload hx hb dX7_called_89 (lv_at hl 5 rfl) ?_
                refine lv_iload_n hx hb dX7_called_91 rfl (lv_at hl 3 rfl) ?_
                refine lv_iconst (v := 1) hx hb dX7_called_92 (by decide) ?_
                refine lv_iadd hx hb dX7_called_93 ?_
                refine lv_iconst (v := 2) hx hb dX7_called_94 (by decide) ?_
                refine lv_idiv hx hb dX7_called_95 (by decide) ?_
                refine lv_icmp_lt (tgt := 103) hx hb dX7_called_96 (by decide) (fun c96 => ?_) (fun c96 => ?_)
                · replace hf := ip c96 hf
                  refine lv_iconst (v := 0) hx hb dX7_called_103 (by decide) ?_
                  exact hJ104 (0 : Int32) _ _ _ hP hD hS (lv_sub hl [0, 1, 2, 3, 4, 5] rfl) hf
                · replace hf := iq c96 hf
                  refine lv_iconst (v := 1) hx hb dX7_called_99 (by decide) ?_
                  refine lv_goto (tgt := 104) hx hb dX7_called_100 (by decide) ?_
                  exact hJ104 (1 : Int32) _ _ _ hP hD hS (lv_sub hl [0, 1, 2, 3, 4, 5] rfl) hf
              · replace hf := ip c65 hf
                refine lv_iload hx hb dX7_called_68 (lv_at hl 5 rfl) ?_
                refine lv_if_le (tgt := 85) hx hb dX7_called_70 (by decide) (fun c70 => ?_) (fun c70 => ?_)
                · replace hf := ip c70 hf
                  refine lv_iconst (v := 0) hx hb dX7_called_85 (by decide) ?_
                  refine lv_goto (tgt := 104) hx hb dX7_called_86 (by decide) ?_
                  exact hJ104 (0 : Int32) _ _ _ hP hD hS (lv_sub hl [0, 1, 2, 3, 4, 5] rfl) hf
                · replace hf := iq c70 hf
                  refine lv_iload hx hb dX7_called_73 (lv_at hl 5 rfl) ?_
                  refine lv_iload_n hx hb dX7_called_75 rfl (lv_at hl 3 rfl) ?_
                  refine lv_iconst (v := 2) hx hb dX7_called_76 (by decide) ?_
                  refine lv_idiv hx hb dX7_called_77 (by decide) ?_
                  refine lv_icmp_gt (tgt := 85) hx hb dX7_called_78 (by decide) (fun c78 => ?_) (fun c78 => ?_)
                  · replace hf := ip c78 hf
                    refine lv_iconst (v := 0) hx hb dX7_called_85 (by decide) ?_
                    refine lv_goto (tgt := 104) hx hb dX7_called_86 (by decide) ?_
                    exact hJ104 (0 : Int32) _ _ _ hP hD hS (lv_sub hl [0, 1, 2, 3, 4, 5] rfl) hf
                  · replace hf := iq c78 hf
                    refine lv_iconst (v := 1) hx hb dX7_called_81 (by decide) ?_
                    refine lv_goto (tgt := 104) hx hb dX7_called_82 (by decide) ?_
                    exact hJ104 (1 : Int32) _ _ _ hP hD hS (lv_sub hl [0, 1, 2, 3, 4, 5] rfl) hf
            · replace hf := ip c44 hf
              refine lv_iload hx hb dX7_called_47 (lv_at hl 5 rfl) ?_
              refine lv_iconst (v := 2) hx hb dX7_called_49 (by decide) ?_
              refine lv_irem hx hb dX7_called_50 (by decide) ?_
              refine lv_iconst (v := 1) hx hb dX7_called_51 (by decide) ?_
              refine lv_icmp_ne (tgt := 59) hx hb dX7_called_52 (by decide) (fun c52 => ?_) (fun c52 => ?_)
              · replace hf := iq c52 hf
                refine lv_iconst (v := 0) hx hb dX7_called_59 (by decide) ?_
                refine lv_goto (tgt := 104) hx hb dX7_called_60 (by decide) ?_
                exact hJ104 (0 : Int32) _ _ _ hP hD hS (lv_sub hl [0, 1, 2, 3, 4, 5] rfl) hf
              · replace hf := ip c52 hf
                refine lv_iconst (v := 1) hx hb dX7_called_55 (by decide) ?_
                refine lv_goto (tgt := 104) hx hb dX7_called_56 (by decide) ?_
                exact hJ104 (1 : Int32) _ _ _ hP hD hS (lv_sub hl [0, 1, 2, 3, 4, 5] rfl) hf
      exact hL37 300 (x_row 0) x_away x_order x_dones (0 : Int32) (0 : Int32) _ _ _ hP hD hS (lv_sub hl [3, 4, 5, 2, 1, 0] rfl) hf
    · replace hf := ip c19 hf
      refine lv_iconst (v := -1) hx hb dX7_called_22 (by decide) ?_
      simp only [Option.some.injEq, Prod.mk.injEq] at hf
      obtain ⟨rfl, rfl, rfl, rfl⟩ := hf
      exact W.iret hx hb hr (fun t ht hW => ⟨⟨_, (), rfl, rfl, by rw [ht]; exact hP, hD⟩, hS.F ht⟩) hS.2.2 dX7_called_23
abbrev rX7_asides : Room := { frames := 0, cells := 0, slots := 0, locals := 0 }
set_option maxHeartbeats 4000000 in
set_option maxRecDepth 100000 in
theorem c_X7_asides (l : Launch) (D : va_G) (cyI cyC cyS : ClassId) (sz : Nat) (ax : Nat) (ax_row : Nat) (ax_text : Nat) (ax_read : Nat) (ax_undone : Nat) (ax_order : Nat) (ax_dones : Nat) (ax_aside : Nat) (ax_tapedWho : Nat) (ax_tapedTill : Nat) (ax_kept : Nat) (x_letters : Int32) (x_at : Int32) (x_undos : Int32) (x_away : Int32) (x_bestSet : Int32) (x_taped : Int32) (x_keeps : Int32) (x_row : Nat → Int32) (x_aside : Nat → Int32) {o_x_aside : Nat → Int32} (hf : S_X7_asides x_row x_aside = some o_x_aside) : Met l yX7_asides wsX7_asides rX7_asides (Cpre [.ref ax] D cyI cyC cyS sz [(ax, .inr (7, [.ref ax_row, .ref ax_text, .int x_letters, .int x_at, .ref ax_read, .ref ax_undone, .int x_undos, .ref ax_order, .ref ax_dones, .int x_away, .int x_bestSet, .ref ax_aside, .ref ax_tapedWho, .ref ax_tapedTill, .int x_taped, .ref ax_kept, .int x_keeps])), (ax_row, .inl (cyI, 28, .inl x_row)), (ax_aside, .inl (cyI, 28, .inl x_aside))]) (CQv D [(ax, .inr (7, [.ref ax_row, .ref ax_text, .int x_letters, .int x_at, .ref ax_read, .ref ax_undone, .int x_undos, .ref ax_order, .ref ax_dones, .int x_away, .int x_bestSet, .ref ax_aside, .ref ax_tapedWho, .ref ax_tapedTill, .int x_taped, .ref ax_kept, .int x_keeps])), (ax_row, .inl (cyI, 28, .inl x_row)), (ax_aside, .inl (cyI, 28, .inl o_x_aside))] (va_A [(ax, .inr (7, [.ref ax_row, .ref ax_text, .int x_letters, .int x_at, .ref ax_read, .ref ax_undone, .int x_undos, .ref ax_order, .ref ax_dones, .int x_away, .int x_bestSet, .ref ax_aside, .ref ax_tapedWho, .ref ax_tapedTill, .int x_taped, .ref ax_kept, .int x_keeps])), (ax_row, .inl (cyI, 28, .inl x_row)), (ax_aside, .inl (cyI, 28, .inl x_aside))] sz)) 0 0 (va_A [(ax, .inr (7, [.ref ax_row, .ref ax_text, .int x_letters, .int x_at, .ref ax_read, .ref ax_undone, .int x_undos, .ref ax_order, .ref ax_dones, .int x_away, .int x_bestSet, .ref ax_aside, .ref ax_tapedWho, .ref ax_tapedTill, .int x_taped, .ref ax_kept, .int x_keeps])), (ax_row, .inl (cyI, 28, .inl x_row)), (ax_aside, .inl (cyI, 28, .inl x_aside))] sz) := by
  refine Met.ofW (cc := cX7_asides) (maxL := 2) (ret := none) (by decide) rfl ?_
  intro p e s m args below meth c s₁ B hml hv
  obtain ⟨rfl, hsz, hP, hK, hD0⟩ := hv
  have hx := B.exec
  have hb := B.bytes
  have hr := B.returns
  have hts := atoms_spec (ws := wsX7_asides) B.pre
  have hown : s.vm.findClass RX7 = some m.cls := findClass_of_methodNamed B.named
  have hlocks := B.notSynchronized
  subst hsz
  have hD := hD0.self (sz := s.heap.size)
  generalize hAe : va_A [(ax, .inr (7, [.ref ax_row, .ref ax_text, .int x_letters, .int x_at, .ref ax_read, .ref ax_undone, .int x_undos, .ref ax_order, .ref ax_dones, .int x_away, .int x_bestSet, .ref ax_aside, .ref ax_tapedWho, .ref ax_tapedTill, .int x_taped, .ref ax_kept, .int x_keeps])), (ax_row, .inl (cyI, 28, .inl x_row)), (ax_aside, .inl (cyI, 28, .inl x_aside))] s.heap.size = A at hD ⊢
  have hA : ∀ q : Nat, s.heap.size ≤ q → A q := fun q h => by rw [← hAe]; exact Or.inr h
  have hS : va_S A s.heap s.heap [] := va_S.rf
  have hl := lv_entry ([.ref ax]) (n := 2) (Nat.le_of_ble_eq_true rfl)
  rw [lg_entry_eq]
  generalize (lg_sl ([.ref ax]) ++ List.replicate (2 - (lg_sl ([.ref ax])).length) Slot.unset).toArray = ls at hl ⊢
  have hl : lv_has ls 2 [(0, .ref ax)] := hl
  have f28 := hts (.fieldLink RX7 28 "SecondTillModel" "aside" "[I") (by decide +kernel)
  have inX7 : ∀ w ∈ u_ws RX7 TX7 17, w ∈ wsX7_asides := by decide +kernel
  have f7 := hts (.fieldLink RX7 7 "SecondTillModel" "row" "[I") (by decide +kernel)
  unfold S_X7_asides at hf
  have hP : va_P D vwCl [(ax, .inr (7, [.ref ax_row, .ref ax_text, .int x_letters, .int x_at, .ref ax_read, .ref ax_undone, .int x_undos, .ref ax_order, .ref ax_dones, .int x_away, .int x_bestSet, .ref ax_aside, .ref ax_tapedWho, .ref ax_tapedTill, .int x_taped, .ref ax_kept, .int x_keeps])), (ax_row, .inl (cyI, 28, .inl x_row)), (ax_aside, .inl (cyI, 28, .inl x_aside))] s.heap := hP
  suffices hgo : ∀ (H : Heap) (locs : List Loc), va_P D vwCl [(ax, .inr (7, [.ref ax_row, .ref ax_text, .int x_letters, .int x_at, .ref ax_read, .ref ax_undone, .int x_undos, .ref ax_order, .ref ax_dones, .int x_away, .int x_bestSet, .ref ax_aside, .ref ax_tapedWho, .ref ax_tapedTill, .int x_taped, .ref ax_kept, .int x_keeps])), (ax_row, .inl (cyI, 28, .inl x_row)), (ax_aside, .inl (cyI, 28, .inl x_aside))] H → va_S A s.heap H locs → W p l e rX7_asides s m (([.ref ax] : List Value).toArray) below meth c H locs 0 0 (MQ below (CQv D [(ax, .inr (7, [.ref ax_row, .ref ax_text, .int x_letters, .int x_at, .ref ax_read, .ref ax_undone, .int x_undos, .ref ax_order, .ref ax_dones, .int x_away, .int x_bestSet, .ref ax_aside, .ref ax_tapedWho, .ref ax_tapedTill, .int x_taped, .ref ax_kept, .int x_keeps])), (ax_row, .inl (cyI, 28, .inl x_row)), (ax_aside, .inl (cyI, 28, .inl o_x_aside))] A) (([.ref ax] : List Value).toArray) s 0 0 A) (F0 m 0 ls []) from hgo _ _ hP hS
  clear hP hS
  intro H locs hP hS
  refine lv_iconst (v := 0) hx hb dX7_asides_0 (by decide) ?_
  refine lv_istore_n (lv' := [(1, .int (0 : Int32)), (0, .ref ax)]) hx hb dX7_asides_1 rfl hl (by decide) rfl (fun ls hl => ?_)
  have hL2 : ∀ (n2 : Nat) (i1 : Int32) (x_aside : Nat → Int32) (H : Heap) (locs : List Loc) (ls : Array Slot), va_P D vwCl [(ax, .inr (7, [.ref ax_row, .ref ax_text, .int x_letters, .int x_at, .ref ax_read, .ref ax_undone, .int x_undos, .ref ax_order, .ref ax_dones, .int x_away, .int x_bestSet, .ref ax_aside, .ref ax_tapedWho, .ref ax_tapedTill, .int x_taped, .ref ax_kept, .int x_keeps])), (ax_row, .inl (cyI, 28, .inl x_row)), (ax_aside, .inl (cyI, 28, .inl x_aside))] H → va_D A [(ax, .inr (7, [.ref ax_row, .ref ax_text, .int x_letters, .int x_at, .ref ax_read, .ref ax_undone, .int x_undos, .ref ax_order, .ref ax_dones, .int x_away, .int x_bestSet, .ref ax_aside, .ref ax_tapedWho, .ref ax_tapedTill, .int x_taped, .ref ax_kept, .int x_keeps])), (ax_row, .inl (cyI, 28, .inl x_row)), (ax_aside, .inl (cyI, 28, .inl x_aside))] → va_S A s.heap H locs → lv_has ls 2 [(0, .ref ax), (1, .int i1)] → S_X7_asides_L2 x_row n2 i1 x_aside = some o_x_aside → W p l e rX7_asides s m (([.ref ax] : List Value).toArray) below meth c H locs 0 0 (MQ below (CQv D [(ax, .inr (7, [.ref ax_row, .ref ax_text, .int x_letters, .int x_at, .ref ax_read, .ref ax_undone, .int x_undos, .ref ax_order, .ref ax_dones, .int x_away, .int x_bestSet, .ref ax_aside, .ref ax_tapedWho, .ref ax_tapedTill, .int x_taped, .ref ax_kept, .int x_keeps])), (ax_row, .inl (cyI, 28, .inl x_row)), (ax_aside, .inl (cyI, 28, .inl o_x_aside))] A) (([.ref ax] : List Value).toArray) s 0 0 A) (F0 m 2 ls []) := by
    intro n2
    induction n2 with
    | zero => intro i1 x_aside H locs ls hP hD hS hl hf; exact absurd hf (by simp [S_X7_asides_L2])
    | succ n2 ih2 =>
      intro i1 x_aside H locs ls hP hD hS hl hf
      rw [S_X7_asides_L2] at hf
      refine lv_iload_n hx hb dX7_asides_2 rfl (lv_at hl 1 rfl) ?_
      refine lv_bipush (v := 28) hx hb dX7_asides_3 (by decide) ?_
      refine lv_icmp_ge (tgt := 26) hx hb dX7_asides_5 (by decide) (fun c5 => ?_) (fun c5 => ?_)
      · replace hf := ip c5 hf
        obtain rfl := Option.some.inj hf
        exact W.vret hx hb hr (fun t ht hW => ⟨⟨(), rfl, trivial, by rw [ht]; exact hP, hD⟩, hS.F ht⟩) hS.2.2 dX7_asides_26
      · replace hf := iq c5 hf
        refine lv_aload_n hx hb dX7_asides_8 rfl (lv_at hl 0 rfl) ?_
        refine va_get (C := RX7) (T := TX7) (N := 17) hx hb hts inX7 hown hK.1 hP 0 rfl rfl 11 (by decide) f28 (fun _ h9 => h9) rfl dX7_asides_9 ?_
        refine lv_iload_n hx hb dX7_asides_12 rfl (lv_at hl 1 rfl) ?_
        refine lv_aload_n hx hb dX7_asides_13 rfl (lv_at hl 0 rfl) ?_
        refine va_get (C := RX7) (T := TX7) (N := 17) hx hb hts inX7 hown hK.1 hP 0 rfl rfl 0 (by decide) f7 (fun _ h9 => h9) rfl dX7_asides_14 ?_
        refine lv_iload_n hx hb dX7_asides_17 rfl (lv_at hl 1 rfl) ?_
        obtain ⟨z18, hf⟩ := oi hf
        refine a_ild hx hb hK hP 1 rfl z18 i1.toNatClampNeg rfl dX7_asides_18 ?_
        obtain ⟨z19, hf⟩ := oi hf
        refine a_ist (wn := [(ax, .inr (7, [.ref ax_row, .ref ax_text, .int x_letters, .int x_at, .ref ax_read, .ref ax_undone, .int x_undos, .ref ax_order, .ref ax_dones, .int x_away, .int x_bestSet, .ref ax_aside, .ref ax_tapedWho, .ref ax_tapedTill, .int x_taped, .ref ax_kept, .int x_keeps])), (ax_row, .inl (cyI, 28, .inl x_row)), (ax_aside, .inl (cyI, 28, .inl (upd x_aside i1.toNatClampNeg (x_row i1.toNatClampNeg))))]) hx hb hK hP hD hS 2 rfl z19 i1.toNatClampNeg rfl rfl dX7_asides_19 (fun H locs hP hD hS => ?_)
        refine lv_iinc (v := i1 + (1 : Int32)) (lv' := [(1, .int (i1 + (1 : Int32))), (0, .ref ax)]) hx hb dX7_asides_20 hl (k := 1) rfl rfl (by decide) rfl (fun ls hl => ?_)
        refine lv_goto (tgt := 2) hx hb dX7_asides_23 (by decide) ?_
        exact ih2 (i1 + (1 : Int32)) (upd x_aside i1.toNatClampNeg (x_row i1.toNatClampNeg)) _ _ _ hP hD hS (lv_sub hl [1, 0] rfl) hf
  exact hL2 300 (0 : Int32) x_aside _ _ _ hP hD hS (lv_sub hl [1, 0] rfl) hf
abbrev rX7_backs : Room := { frames := 0, cells := 0, slots := 0, locals := 0 }
set_option maxHeartbeats 4000000 in
set_option maxRecDepth 100000 in
theorem c_X7_backs (l : Launch) (D : va_G) (cyI cyC cyS : ClassId) (sz : Nat) (ax : Nat) (ax_row : Nat) (ax_text : Nat) (ax_read : Nat) (ax_undone : Nat) (ax_order : Nat) (ax_dones : Nat) (ax_aside : Nat) (ax_tapedWho : Nat) (ax_tapedTill : Nat) (ax_kept : Nat) (x_letters : Int32) (x_at : Int32) (x_undos : Int32) (x_away : Int32) (x_bestSet : Int32) (x_taped : Int32) (x_keeps : Int32) (x_aside : Nat → Int32) (x_row : Nat → Int32) {o_x_row : Nat → Int32} (hf : S_X7_backs x_aside x_row = some o_x_row) : Met l yX7_backs wsX7_backs rX7_backs (Cpre [.ref ax] D cyI cyC cyS sz [(ax, .inr (7, [.ref ax_row, .ref ax_text, .int x_letters, .int x_at, .ref ax_read, .ref ax_undone, .int x_undos, .ref ax_order, .ref ax_dones, .int x_away, .int x_bestSet, .ref ax_aside, .ref ax_tapedWho, .ref ax_tapedTill, .int x_taped, .ref ax_kept, .int x_keeps])), (ax_aside, .inl (cyI, 28, .inl x_aside)), (ax_row, .inl (cyI, 28, .inl x_row))]) (CQv D [(ax, .inr (7, [.ref ax_row, .ref ax_text, .int x_letters, .int x_at, .ref ax_read, .ref ax_undone, .int x_undos, .ref ax_order, .ref ax_dones, .int x_away, .int x_bestSet, .ref ax_aside, .ref ax_tapedWho, .ref ax_tapedTill, .int x_taped, .ref ax_kept, .int x_keeps])), (ax_aside, .inl (cyI, 28, .inl x_aside)), (ax_row, .inl (cyI, 28, .inl o_x_row))] (va_A [(ax, .inr (7, [.ref ax_row, .ref ax_text, .int x_letters, .int x_at, .ref ax_read, .ref ax_undone, .int x_undos, .ref ax_order, .ref ax_dones, .int x_away, .int x_bestSet, .ref ax_aside, .ref ax_tapedWho, .ref ax_tapedTill, .int x_taped, .ref ax_kept, .int x_keeps])), (ax_aside, .inl (cyI, 28, .inl x_aside)), (ax_row, .inl (cyI, 28, .inl x_row))] sz)) 0 0 (va_A [(ax, .inr (7, [.ref ax_row, .ref ax_text, .int x_letters, .int x_at, .ref ax_read, .ref ax_undone, .int x_undos, .ref ax_order, .ref ax_dones, .int x_away, .int x_bestSet, .ref ax_aside, .ref ax_tapedWho, .ref ax_tapedTill, .int x_taped, .ref ax_kept, .int x_keeps])), (ax_aside, .inl (cyI, 28, .inl x_aside)), (ax_row, .inl (cyI, 28, .inl x_row))] sz) := by
  refine Met.ofW (cc := cX7_backs) (maxL := 2) (ret := none) (by decide) rfl ?_
  intro p e s m args below meth c s₁ B hml hv
  obtain ⟨rfl, hsz, hP, hK, hD0⟩ := hv
  have hx := B.exec
  have hb := B.bytes
  have hr := B.returns
  have hts := atoms_spec (ws := wsX7_backs) B.pre
  have hown : s.vm.findClass RX7 = some m.cls := findClass_of_methodNamed B.named
  have hlocks := B.notSynchronized
  subst hsz
  have hD := hD0.self (sz := s.heap.size)
  generalize hAe : va_A [(ax, .inr (7, [.ref ax_row, .ref ax_text, .int x_letters, .int x_at, .ref ax_read, .ref ax_undone, .int x_undos, .ref ax_order, .ref ax_dones, .int x_away, .int x_bestSet, .ref ax_aside, .ref ax_tapedWho, .ref ax_tapedTill, .int x_taped, .ref ax_kept, .int x_keeps])), (ax_aside, .inl (cyI, 28, .inl x_aside)), (ax_row, .inl (cyI, 28, .inl x_row))] s.heap.size = A at hD ⊢
  have hA : ∀ q : Nat, s.heap.size ≤ q → A q := fun q h => by rw [← hAe]; exact Or.inr h
  have hS : va_S A s.heap s.heap [] := va_S.rf
  have hl := lv_entry ([.ref ax]) (n := 2) (Nat.le_of_ble_eq_true rfl)
  rw [lg_entry_eq]
  generalize (lg_sl ([.ref ax]) ++ List.replicate (2 - (lg_sl ([.ref ax])).length) Slot.unset).toArray = ls at hl ⊢
  have hl : lv_has ls 2 [(0, .ref ax)] := hl
  have f7 := hts (.fieldLink RX7 7 "SecondTillModel" "row" "[I") (by decide +kernel)
  have inX7 : ∀ w ∈ u_ws RX7 TX7 17, w ∈ wsX7_backs := by decide +kernel
  have f28 := hts (.fieldLink RX7 28 "SecondTillModel" "aside" "[I") (by decide +kernel)
  unfold S_X7_backs at hf
  have hP : va_P D vwCl [(ax, .inr (7, [.ref ax_row, .ref ax_text, .int x_letters, .int x_at, .ref ax_read, .ref ax_undone, .int x_undos, .ref ax_order, .ref ax_dones, .int x_away, .int x_bestSet, .ref ax_aside, .ref ax_tapedWho, .ref ax_tapedTill, .int x_taped, .ref ax_kept, .int x_keeps])), (ax_aside, .inl (cyI, 28, .inl x_aside)), (ax_row, .inl (cyI, 28, .inl x_row))] s.heap := hP
  suffices hgo : ∀ (H : Heap) (locs : List Loc), va_P D vwCl [(ax, .inr (7, [.ref ax_row, .ref ax_text, .int x_letters, .int x_at, .ref ax_read, .ref ax_undone, .int x_undos, .ref ax_order, .ref ax_dones, .int x_away, .int x_bestSet, .ref ax_aside, .ref ax_tapedWho, .ref ax_tapedTill, .int x_taped, .ref ax_kept, .int x_keeps])), (ax_aside, .inl (cyI, 28, .inl x_aside)), (ax_row, .inl (cyI, 28, .inl x_row))] H → va_S A s.heap H locs → W p l e rX7_backs s m (([.ref ax] : List Value).toArray) below meth c H locs 0 0 (MQ below (CQv D [(ax, .inr (7, [.ref ax_row, .ref ax_text, .int x_letters, .int x_at, .ref ax_read, .ref ax_undone, .int x_undos, .ref ax_order, .ref ax_dones, .int x_away, .int x_bestSet, .ref ax_aside, .ref ax_tapedWho, .ref ax_tapedTill, .int x_taped, .ref ax_kept, .int x_keeps])), (ax_aside, .inl (cyI, 28, .inl x_aside)), (ax_row, .inl (cyI, 28, .inl o_x_row))] A) (([.ref ax] : List Value).toArray) s 0 0 A) (F0 m 0 ls []) from hgo _ _ hP hS
  clear hP hS
  intro H locs hP hS
  refine lv_iconst (v := 0) hx hb dX7_backs_0 (by decide) ?_
  refine lv_istore_n (lv' := [(1, .int (0 : Int32)), (0, .ref ax)]) hx hb dX7_backs_1 rfl hl (by decide) rfl (fun ls hl => ?_)
  have hL2 : ∀ (n2 : Nat) (i1 : Int32) (x_row : Nat → Int32) (H : Heap) (locs : List Loc) (ls : Array Slot), va_P D vwCl [(ax, .inr (7, [.ref ax_row, .ref ax_text, .int x_letters, .int x_at, .ref ax_read, .ref ax_undone, .int x_undos, .ref ax_order, .ref ax_dones, .int x_away, .int x_bestSet, .ref ax_aside, .ref ax_tapedWho, .ref ax_tapedTill, .int x_taped, .ref ax_kept, .int x_keeps])), (ax_aside, .inl (cyI, 28, .inl x_aside)), (ax_row, .inl (cyI, 28, .inl x_row))] H → va_D A [(ax, .inr (7, [.ref ax_row, .ref ax_text, .int x_letters, .int x_at, .ref ax_read, .ref ax_undone, .int x_undos, .ref ax_order, .ref ax_dones, .int x_away, .int x_bestSet, .ref ax_aside, .ref ax_tapedWho, .ref ax_tapedTill, .int x_taped, .ref ax_kept, .int x_keeps])), (ax_aside, .inl (cyI, 28, .inl x_aside)), (ax_row, .inl (cyI, 28, .inl x_row))] → va_S A s.heap H locs → lv_has ls 2 [(0, .ref ax), (1, .int i1)] → S_X7_backs_L2 x_aside n2 i1 x_row = some o_x_row → W p l e rX7_backs s m (([.ref ax] : List Value).toArray) below meth c H locs 0 0 (MQ below (CQv D [(ax, .inr (7, [.ref ax_row, .ref ax_text, .int x_letters, .int x_at, .ref ax_read, .ref ax_undone, .int x_undos, .ref ax_order, .ref ax_dones, .int x_away, .int x_bestSet, .ref ax_aside, .ref ax_tapedWho, .ref ax_tapedTill, .int x_taped, .ref ax_kept, .int x_keeps])), (ax_aside, .inl (cyI, 28, .inl x_aside)), (ax_row, .inl (cyI, 28, .inl o_x_row))] A) (([.ref ax] : List Value).toArray) s 0 0 A) (F0 m 2 ls []) := by
    intro n2
    induction n2 with
    | zero => intro i1 x_row H locs ls hP hD hS hl hf; exact absurd hf (by simp [S_X7_backs_L2])
    | succ n2 ih2 =>
      intro i1 x_row H locs ls hP hD hS hl hf
      rw [S_X7_backs_L2] at hf
      refine lv_iload_n hx hb dX7_backs_2 rfl (lv_at hl 1 rfl) ?_
      refine lv_bipush (v := 28) hx hb dX7_backs_3 (by decide) ?_
      refine lv_icmp_ge (tgt := 26) hx hb dX7_backs_5 (by decide) (fun c5 => ?_) (fun c5 => ?_)
      · replace hf := ip c5 hf
        obtain rfl := Option.some.inj hf
        exact W.vret hx hb hr (fun t ht hW => ⟨⟨(), rfl, trivial, by rw [ht]; exact hP, hD⟩, hS.F ht⟩) hS.2.2 dX7_backs_26
      · replace hf := iq c5 hf
        refine lv_aload_n hx hb dX7_backs_8 rfl (lv_at hl 0 rfl) ?_
        refine va_get (C := RX7) (T := TX7) (N := 17) hx hb hts inX7 hown hK.1 hP 0 rfl rfl 0 (by decide) f7 (fun _ h9 => h9) rfl dX7_backs_9 ?_
        refine lv_iload_n hx hb dX7_backs_12 rfl (lv_at hl 1 rfl) ?_
        refine lv_aload_n hx hb dX7_backs_13 rfl (lv_at hl 0 rfl) ?_
        refine va_get (C := RX7) (T := TX7) (N := 17) hx hb hts inX7 hown hK.1 hP 0 rfl rfl 11 (by decide) f28 (fun _ h9 => h9) rfl dX7_backs_14 ?_
        refine lv_iload_n hx hb dX7_backs_17 rfl (lv_at hl 1 rfl) ?_
        obtain ⟨z18, hf⟩ := oi hf
        refine a_ild hx hb hK hP 1 rfl z18 i1.toNatClampNeg rfl dX7_backs_18 ?_
        obtain ⟨z19, hf⟩ := oi hf
        refine a_ist (wn := [(ax, .inr (7, [.ref ax_row, .ref ax_text, .int x_letters, .int x_at, .ref ax_read, .ref ax_undone, .int x_undos, .ref ax_order, .ref ax_dones, .int x_away, .int x_bestSet, .ref ax_aside, .ref ax_tapedWho, .ref ax_tapedTill, .int x_taped, .ref ax_kept, .int x_keeps])), (ax_aside, .inl (cyI, 28, .inl x_aside)), (ax_row, .inl (cyI, 28, .inl (upd x_row i1.toNatClampNeg (x_aside i1.toNatClampNeg))))]) hx hb hK hP hD hS 2 rfl z19 i1.toNatClampNeg rfl rfl dX7_backs_19 (fun H locs hP hD hS => ?_)
        refine lv_iinc (v := i1 + (1 : Int32)) (lv' := [(1, .int (i1 + (1 : Int32))), (0, .ref ax)]) hx hb dX7_backs_20 hl (k := 1) rfl rfl (by decide) rfl (fun ls hl => ?_)
        refine lv_goto (tgt := 2) hx hb dX7_backs_23 (by decide) ?_
        exact ih2 (i1 + (1 : Int32)) (upd x_row i1.toNatClampNeg (x_aside i1.toNatClampNeg)) _ _ _ hP hD hS (lv_sub hl [1, 0] rfl) hf
  exact hL2 300 (0 : Int32) x_row _ _ _ hP hD hS (lv_sub hl [1, 0] rfl) hf
abbrev rX7_open : Room := { frames := 5, cells := 0, slots := 0, locals := 115 }
set_option maxHeartbeats 4000000 in
set_option maxRecDepth 100000 in
theorem c_X7_open (l : Launch) (D : va_G) (cyI cyC cyS : ClassId) (sz : Nat) (ax : Nat) (ax_row : Nat) (ax_text : Nat) (ax_read : Nat) (ax_undone : Nat) (ax_order : Nat) (ax_dones : Nat) (ax_aside : Nat) (ax_tapedWho : Nat) (ax_tapedTill : Nat) (ax_kept : Nat) (x_letters : Int32) (x_at : Int32) (x_undos : Int32) (x_away : Int32) (x_bestSet : Int32) (x_taped : Int32) (x_keeps : Int32) (x_row : Nat → Int32) (x_aside : Nat → Int32) (x_order : Nat → Int32) (x_dones : Nat → Int32) (i1 : Int32) (i2 : Int32) {r : Int32} {o_x_away : Int32} {o_x_bestSet : Int32} {o_x_row : Nat → Int32} {o_x_aside : Nat → Int32} {o_x_order : Nat → Int32} {o_x_dones : Nat → Int32} (hf : S_X7_open i1 i2 x_away x_bestSet x_row x_aside x_order x_dones = some (r, o_x_away, o_x_bestSet, o_x_row, o_x_aside, o_x_order, o_x_dones)) : Met l yX7_open wsX7_open rX7_open (Cpre [.ref ax, .int i1, .int i2] D cyI cyC cyS sz [(ax, .inr (7, [.ref ax_row, .ref ax_text, .int x_letters, .int x_at, .ref ax_read, .ref ax_undone, .int x_undos, .ref ax_order, .ref ax_dones, .int x_away, .int x_bestSet, .ref ax_aside, .ref ax_tapedWho, .ref ax_tapedTill, .int x_taped, .ref ax_kept, .int x_keeps])), (ax_row, .inl (cyI, 28, .inl x_row)), (ax_aside, .inl (cyI, 28, .inl x_aside)), (ax_order, .inl (cyI, 8, .inl x_order)), (ax_dones, .inl (cyI, 8, .inl x_dones))]) (CQi r D [(ax, .inr (7, [.ref ax_row, .ref ax_text, .int x_letters, .int x_at, .ref ax_read, .ref ax_undone, .int x_undos, .ref ax_order, .ref ax_dones, .int o_x_away, .int o_x_bestSet, .ref ax_aside, .ref ax_tapedWho, .ref ax_tapedTill, .int x_taped, .ref ax_kept, .int x_keeps])), (ax_row, .inl (cyI, 28, .inl o_x_row)), (ax_aside, .inl (cyI, 28, .inl o_x_aside)), (ax_order, .inl (cyI, 8, .inl o_x_order)), (ax_dones, .inl (cyI, 8, .inl o_x_dones))] (va_A [(ax, .inr (7, [.ref ax_row, .ref ax_text, .int x_letters, .int x_at, .ref ax_read, .ref ax_undone, .int x_undos, .ref ax_order, .ref ax_dones, .int x_away, .int x_bestSet, .ref ax_aside, .ref ax_tapedWho, .ref ax_tapedTill, .int x_taped, .ref ax_kept, .int x_keeps])), (ax_row, .inl (cyI, 28, .inl x_row)), (ax_aside, .inl (cyI, 28, .inl x_aside)), (ax_order, .inl (cyI, 8, .inl x_order)), (ax_dones, .inl (cyI, 8, .inl x_dones))] sz)) 0 0 (va_A [(ax, .inr (7, [.ref ax_row, .ref ax_text, .int x_letters, .int x_at, .ref ax_read, .ref ax_undone, .int x_undos, .ref ax_order, .ref ax_dones, .int x_away, .int x_bestSet, .ref ax_aside, .ref ax_tapedWho, .ref ax_tapedTill, .int x_taped, .ref ax_kept, .int x_keeps])), (ax_row, .inl (cyI, 28, .inl x_row)), (ax_aside, .inl (cyI, 28, .inl x_aside)), (ax_order, .inl (cyI, 8, .inl x_order)), (ax_dones, .inl (cyI, 8, .inl x_dones))] sz) := by
  refine Met.ofW (cc := cX7_open) (maxL := 10) (ret := (some .int)) (by decide) rfl ?_
  intro p e s m args below meth c s₁ B hml hv
  obtain ⟨rfl, hsz, hP, hK, hD0⟩ := hv
  have hx := B.exec
  have hb := B.bytes
  have hr := B.returns
  have hts := atoms_spec (ws := wsX7_open) B.pre
  have hown : s.vm.findClass RX7 = some m.cls := findClass_of_methodNamed B.named
  have hlocks := B.notSynchronized
  subst hsz
  have hD := hD0.self (sz := s.heap.size)
  generalize hAe : va_A [(ax, .inr (7, [.ref ax_row, .ref ax_text, .int x_letters, .int x_at, .ref ax_read, .ref ax_undone, .int x_undos, .ref ax_order, .ref ax_dones, .int x_away, .int x_bestSet, .ref ax_aside, .ref ax_tapedWho, .ref ax_tapedTill, .int x_taped, .ref ax_kept, .int x_keeps])), (ax_row, .inl (cyI, 28, .inl x_row)), (ax_aside, .inl (cyI, 28, .inl x_aside)), (ax_order, .inl (cyI, 8, .inl x_order)), (ax_dones, .inl (cyI, 8, .inl x_dones))] s.heap.size = A at hD ⊢
  have hA : ∀ q : Nat, s.heap.size ≤ q → A q := fun q h => by rw [← hAe]; exact Or.inr h
  have hS : va_S A s.heap s.heap [] := va_S.rf
  have hl := lv_entry ([.ref ax, .int i1, .int i2]) (n := 10) (Nat.le_of_ble_eq_true rfl)
  rw [lg_entry_eq]
  generalize (lg_sl ([.ref ax, .int i1, .int i2]) ++ List.replicate (10 - (lg_sl ([.ref ax, .int i1, .int i2])).length) Slot.unset).toArray = ls at hl ⊢
  have hl : lv_has ls 10 [(0, .ref ax), (1, .int i1), (2, .int i2)] := hl
  have k97 := hts (.constantLong RX7 97 (20)) (by decide +kernel)
  have f7 := hts (.fieldLink RX7 7 "SecondTillModel" "row" "[I") (by decide +kernel)
  have inX7 : ∀ w ∈ u_ws RX7 TX7 17, w ∈ wsX7_open := by decide +kernel
  have f28 := hts (.fieldLink RX7 28 "SecondTillModel" "aside" "[I") (by decide +kernel)
  unfold S_X7_open at hf
  have hP : va_P D vwCl [(ax, .inr (7, [.ref ax_row, .ref ax_text, .int x_letters, .int x_at, .ref ax_read, .ref ax_undone, .int x_undos, .ref ax_order, .ref ax_dones, .int x_away, .int x_bestSet, .ref ax_aside, .ref ax_tapedWho, .ref ax_tapedTill, .int x_taped, .ref ax_kept, .int x_keeps])), (ax_row, .inl (cyI, 28, .inl x_row)), (ax_aside, .inl (cyI, 28, .inl x_aside)), (ax_order, .inl (cyI, 8, .inl x_order)), (ax_dones, .inl (cyI, 8, .inl x_dones))] s.heap := hP
  suffices hgo : ∀ (H : Heap) (locs : List Loc), va_P D vwCl [(ax, .inr (7, [.ref ax_row, .ref ax_text, .int x_letters, .int x_at, .ref ax_read, .ref ax_undone, .int x_undos, .ref ax_order, .ref ax_dones, .int x_away, .int x_bestSet, .ref ax_aside, .ref ax_tapedWho, .ref ax_tapedTill, .int x_taped, .ref ax_kept, .int x_keeps])), (ax_row, .inl (cyI, 28, .inl x_row)), (ax_aside, .inl (cyI, 28, .inl x_aside)), (ax_order, .inl (cyI, 8, .inl x_order)), (ax_dones, .inl (cyI, 8, .inl x_dones))] H → va_S A s.heap H locs → W p l e rX7_open s m (([.ref ax, .int i1, .int i2] : List Value).toArray) below meth c H locs 0 0 (MQ below (CQi r D [(ax, .inr (7, [.ref ax_row, .ref ax_text, .int x_letters, .int x_at, .ref ax_read, .ref ax_undone, .int x_undos, .ref ax_order, .ref ax_dones, .int o_x_away, .int o_x_bestSet, .ref ax_aside, .ref ax_tapedWho, .ref ax_tapedTill, .int x_taped, .ref ax_kept, .int x_keeps])), (ax_row, .inl (cyI, 28, .inl o_x_row)), (ax_aside, .inl (cyI, 28, .inl o_x_aside)), (ax_order, .inl (cyI, 8, .inl o_x_order)), (ax_dones, .inl (cyI, 8, .inl o_x_dones))] A) (([.ref ax, .int i1, .int i2] : List Value).toArray) s 0 0 A) (F0 m 0 ls []) from hgo _ _ hP hS
  clear hP hS
  intro H locs hP hS
  refine lv_iload_n hx hb dX7_open_0 rfl (lv_at hl 1 rfl) ?_
  refine lv_i2l (v := i1.toInt64) hx hb dX7_open_1 rfl ?_
  refine lv_lconst (v := 0) hx hb dX7_open_2 (by decide) ?_
  refine lv_ldc2 hx hb hown k97 dX7_open_3 ?_
  obtain ⟨r6, q6, hf⟩ := ob hf
  refine k_i (wc := []) (wr := [(ax, .inr (7, [.ref ax_row, .ref ax_text, .int x_letters, .int x_at, .ref ax_read, .ref ax_undone, .int x_undos, .ref ax_order, .ref ax_dones, .int x_away, .int x_bestSet, .ref ax_aside, .ref ax_tapedWho, .ref ax_tapedTill, .int x_taped, .ref ax_kept, .int x_keeps])), (ax_row, .inl (cyI, 28, .inl x_row)), (ax_aside, .inl (cyI, 28, .inl x_aside)), (ax_order, .inl (cyI, 8, .inl x_order)), (ax_dones, .inl (cyI, 8, .inl x_dones))]) (w1 := []) (wn := [(ax, .inr (7, [.ref ax_row, .ref ax_text, .int x_letters, .int x_at, .ref ax_read, .ref ax_undone, .int x_undos, .ref ax_order, .ref ax_dones, .int x_away, .int x_bestSet, .ref ax_aside, .ref ax_tapedWho, .ref ax_tapedTill, .int x_taped, .ref ax_kept, .int x_keeps])), (ax_row, .inl (cyI, 28, .inl x_row)), (ax_aside, .inl (cyI, 28, .inl x_aside)), (ax_order, .inl (cyI, 8, .inl x_order)), (ax_dones, .inl (cyI, 8, .inl x_dones))]) (va_runS (As := [.long i1.toInt64, .long (0 : Int64), .long (20 : Int64)]) (rest := []) ⟨hx, hb, hml, hown, hts⟩ (c_X7_in l D cyI cyC cyS H.size i1.toInt64 (0 : Int64) (20 : Int64) q6) (va_cwS 3 hts gX7_open_X7_in rfl rfl rfl (by decide +kernel) ⟨Nat.le_of_ble_eq_true rfl, Nat.le_of_ble_eq_true rfl⟩) (preS hK (hP.subm (ws' := []) [] rfl) (hD.sub (ws' := []) [] (by decide) rfl)) rfl rfl hl.1 rfl (lv_room (Nat.le_of_ble_eq_true rfl)) dX7_open_6 ⟨Nat.le_of_ble_eq_true rfl, Nat.le_of_ble_eq_true rfl⟩) hP hD hS hA [] [0, 1, 2, 3, 4] [0, 1, 2, 3, 4] rfl rfl rfl (by decide) (by decide) (by decide) (fun H locs hP hD hS => ?_)
  refine lv_if_eq (tgt := 22) hx hb dX7_open_9 (by decide) (fun c9 => ?_) (fun c9 => ?_)
  · replace hf := ip c9 hf
    refine lv_iconst (v := -1) hx hb dX7_open_22 (by decide) ?_
    simp only [Option.some.injEq, Prod.mk.injEq] at hf
    obtain ⟨rfl, rfl, rfl, rfl, rfl, rfl, rfl⟩ := hf
    exact W.iret hx hb hr (fun t ht hW => ⟨⟨_, (), rfl, rfl, by rw [ht]; exact hP, hD⟩, hS.F ht⟩) hS.2.2 dX7_open_23
  · replace hf := iq c9 hf
    refine lv_iload_n hx hb dX7_open_12 rfl (lv_at hl 2 rfl) ?_
    refine lv_i2l (v := i2.toInt64) hx hb dX7_open_13 rfl ?_
    refine lv_lconst (v := 0) hx hb dX7_open_14 (by decide) ?_
    refine lv_lconst (v := 1) hx hb dX7_open_15 (by decide) ?_
    obtain ⟨r16, q16, hf⟩ := ob hf
    refine k_i (wc := []) (wr := [(ax, .inr (7, [.ref ax_row, .ref ax_text, .int x_letters, .int x_at, .ref ax_read, .ref ax_undone, .int x_undos, .ref ax_order, .ref ax_dones, .int x_away, .int x_bestSet, .ref ax_aside, .ref ax_tapedWho, .ref ax_tapedTill, .int x_taped, .ref ax_kept, .int x_keeps])), (ax_row, .inl (cyI, 28, .inl x_row)), (ax_aside, .inl (cyI, 28, .inl x_aside)), (ax_order, .inl (cyI, 8, .inl x_order)), (ax_dones, .inl (cyI, 8, .inl x_dones))]) (w1 := []) (wn := [(ax, .inr (7, [.ref ax_row, .ref ax_text, .int x_letters, .int x_at, .ref ax_read, .ref ax_undone, .int x_undos, .ref ax_order, .ref ax_dones, .int x_away, .int x_bestSet, .ref ax_aside, .ref ax_tapedWho, .ref ax_tapedTill, .int x_taped, .ref ax_kept, .int x_keeps])), (ax_row, .inl (cyI, 28, .inl x_row)), (ax_aside, .inl (cyI, 28, .inl x_aside)), (ax_order, .inl (cyI, 8, .inl x_order)), (ax_dones, .inl (cyI, 8, .inl x_dones))]) (va_runS (As := [.long i2.toInt64, .long (0 : Int64), .long (1 : Int64)]) (rest := []) ⟨hx, hb, hml, hown, hts⟩ (c_X7_in l D cyI cyC cyS H.size i2.toInt64 (0 : Int64) (1 : Int64) q16) (va_cwS 3 hts gX7_open_X7_in rfl rfl rfl (by decide +kernel) ⟨Nat.le_of_ble_eq_true rfl, Nat.le_of_ble_eq_true rfl⟩) (preS hK (hP.subm (ws' := []) [] rfl) (hD.sub (ws' := []) [] (by decide) rfl)) rfl rfl hl.1 rfl (lv_room (Nat.le_of_ble_eq_true rfl)) dX7_open_16 ⟨Nat.le_of_ble_eq_true rfl, Nat.le_of_ble_eq_true rfl⟩) hP hD hS hA [] [0, 1, 2, 3, 4] [0, 1, 2, 3, 4] rfl rfl rfl (by decide) (by decide) (by decide) (fun H locs hP hD hS => ?_)
    refine lv_if_ne (tgt := 24) hx hb dX7_open_19 (by decide) (fun c19 => ?_) (fun c19 => ?_)
    · replace hf := iq c19 hf
      refine lv_aload_n hx hb dX7_open_24 rfl (lv_at hl 0 rfl) ?_
      obtain ⟨x_aside_o25, q25, hf⟩ := ob hf
      refine k_v (wc := [(ax, .inr (7, [.ref ax_row, .ref ax_text, .int x_letters, .int x_at, .ref ax_read, .ref ax_undone, .int x_undos, .ref ax_order, .ref ax_dones, .int x_away, .int x_bestSet, .ref ax_aside, .ref ax_tapedWho, .ref ax_tapedTill, .int x_taped, .ref ax_kept, .int x_keeps])), (ax_row, .inl (cyI, 28, .inl x_row)), (ax_aside, .inl (cyI, 28, .inl x_aside))]) (wr := [(ax_order, .inl (cyI, 8, .inl x_order)), (ax_dones, .inl (cyI, 8, .inl x_dones))]) (w1 := [(ax, .inr (7, [.ref ax_row, .ref ax_text, .int x_letters, .int x_at, .ref ax_read, .ref ax_undone, .int x_undos, .ref ax_order, .ref ax_dones, .int x_away, .int x_bestSet, .ref ax_aside, .ref ax_tapedWho, .ref ax_tapedTill, .int x_taped, .ref ax_kept, .int x_keeps])), (ax_row, .inl (cyI, 28, .inl x_row)), (ax_aside, .inl (cyI, 28, .inl x_aside_o25))]) (wn := [(ax, .inr (7, [.ref ax_row, .ref ax_text, .int x_letters, .int x_at, .ref ax_read, .ref ax_undone, .int x_undos, .ref ax_order, .ref ax_dones, .int x_away, .int x_bestSet, .ref ax_aside, .ref ax_tapedWho, .ref ax_tapedTill, .int x_taped, .ref ax_kept, .int x_keeps])), (ax_row, .inl (cyI, 28, .inl x_row)), (ax_aside, .inl (cyI, 28, .inl x_aside_o25)), (ax_order, .inl (cyI, 8, .inl x_order)), (ax_dones, .inl (cyI, 8, .inl x_dones))]) (va_runV (As := []) (rest := []) ⟨hx, hb, hml, hown, hts⟩ (c_X7_asides l D cyI cyC cyS H.size ax ax_row ax_text ax_read ax_undone ax_order ax_dones ax_aside ax_tapedWho ax_tapedTill ax_kept x_letters x_at x_undos x_away x_bestSet x_taped x_keeps x_row x_aside q25) (cwV 0 hts gX7_open_X7_asides rfl rfl rfl (by decide +kernel) ⟨Nat.le_of_ble_eq_true rfl, Nat.le_of_ble_eq_true rfl⟩) (preV (ci := 7) hK (hP.subm (ws' := [(ax, .inr (7, [.ref ax_row, .ref ax_text, .int x_letters, .int x_at, .ref ax_read, .ref ax_undone, .int x_undos, .ref ax_order, .ref ax_dones, .int x_away, .int x_bestSet, .ref ax_aside, .ref ax_tapedWho, .ref ax_tapedTill, .int x_taped, .ref ax_kept, .int x_keeps])), (ax_row, .inl (cyI, 28, .inl x_row)), (ax_aside, .inl (cyI, 28, .inl x_aside))]) [0, 1, 2] rfl) (hD.sub (ws' := [(ax, .inr (7, [.ref ax_row, .ref ax_text, .int x_letters, .int x_at, .ref ax_read, .ref ax_undone, .int x_undos, .ref ax_order, .ref ax_dones, .int x_away, .int x_bestSet, .ref ax_aside, .ref ax_tapedWho, .ref ax_tapedTill, .int x_taped, .ref ax_kept, .int x_keeps])), (ax_row, .inl (cyI, 28, .inl x_row)), (ax_aside, .inl (cyI, 28, .inl x_aside))]) [0, 1, 2] (by decide) rfl) rfl rfl) rfl rfl hl.1 rfl (lv_room (Nat.le_of_ble_eq_true rfl)) dX7_open_25 ⟨Nat.le_of_ble_eq_true rfl, Nat.le_of_ble_eq_true rfl⟩) hP hD hS hA [0, 1, 2] [3, 4] [2, 3, 4, 0, 1] rfl rfl rfl (by decide) (by decide) (by decide) (fun H locs hP hD hS => ?_)
      refine lv_iconst (v := 0) hx hb dX7_open_28 (by decide) ?_
      refine lv_istore_n (lv' := [(3, .int (0 : Int32)), (0, .ref ax), (1, .int i1), (2, .int i2)]) hx hb dX7_open_29 rfl hl (by decide) rfl (fun ls hl => ?_)
      refine lv_iconst (v := -1) hx hb dX7_open_30 (by decide) ?_
      refine lv_istore (lv' := [(4, .int (-1 : Int32)), (3, .int (0 : Int32)), (0, .ref ax), (1, .int i1), (2, .int i2)]) hx hb dX7_open_31 hl (by decide) rfl (fun ls hl => ?_)
      refine lv_iconst (v := 0) hx hb dX7_open_33 (by decide) ?_
      refine lv_istore (lv' := [(5, .int (0 : Int32)), (4, .int (-1 : Int32)), (3, .int (0 : Int32)), (0, .ref ax), (1, .int i1), (2, .int i2)]) hx hb dX7_open_34 hl (by decide) rfl (fun ls hl => ?_)
      have hL36 : ∀ (n36 : Nat) (x_aside : Nat → Int32) (i3 : Int32) (i4 : Int32) (i5 : Int32) (x_away : Int32) (x_bestSet : Int32) (x_row : Nat → Int32) (x_order : Nat → Int32) (x_dones : Nat → Int32) (H : Heap) (locs : List Loc) (ls : Array Slot), va_P D vwCl [(ax, .inr (7, [.ref ax_row, .ref ax_text, .int x_letters, .int x_at, .ref ax_read, .ref ax_undone, .int x_undos, .ref ax_order, .ref ax_dones, .int x_away, .int x_bestSet, .ref ax_aside, .ref ax_tapedWho, .ref ax_tapedTill, .int x_taped, .ref ax_kept, .int x_keeps])), (ax_row, .inl (cyI, 28, .inl x_row)), (ax_aside, .inl (cyI, 28, .inl x_aside)), (ax_order, .inl (cyI, 8, .inl x_order)), (ax_dones, .inl (cyI, 8, .inl x_dones))] H → va_D A [(ax, .inr (7, [.ref ax_row, .ref ax_text, .int x_letters, .int x_at, .ref ax_read, .ref ax_undone, .int x_undos, .ref ax_order, .ref ax_dones, .int x_away, .int x_bestSet, .ref ax_aside, .ref ax_tapedWho, .ref ax_tapedTill, .int x_taped, .ref ax_kept, .int x_keeps])), (ax_row, .inl (cyI, 28, .inl x_row)), (ax_aside, .inl (cyI, 28, .inl x_aside)), (ax_order, .inl (cyI, 8, .inl x_order)), (ax_dones, .inl (cyI, 8, .inl x_dones))] → va_S A s.heap H locs → lv_has ls 10 [(0, .ref ax), (1, .int i1), (2, .int i2), (3, .int i3), (4, .int i4), (5, .int i5)] → S_X7_open_L36 i1 i2 x_aside n36 i3 i4 i5 x_away x_bestSet x_row x_order x_dones = some (r, o_x_away, o_x_bestSet, o_x_row, o_x_aside, o_x_order, o_x_dones) → W p l e rX7_open s m (([.ref ax, .int i1, .int i2] : List Value).toArray) below meth c H locs 0 0 (MQ below (CQi r D [(ax, .inr (7, [.ref ax_row, .ref ax_text, .int x_letters, .int x_at, .ref ax_read, .ref ax_undone, .int x_undos, .ref ax_order, .ref ax_dones, .int o_x_away, .int o_x_bestSet, .ref ax_aside, .ref ax_tapedWho, .ref ax_tapedTill, .int x_taped, .ref ax_kept, .int x_keeps])), (ax_row, .inl (cyI, 28, .inl o_x_row)), (ax_aside, .inl (cyI, 28, .inl o_x_aside)), (ax_order, .inl (cyI, 8, .inl o_x_order)), (ax_dones, .inl (cyI, 8, .inl o_x_dones))] A) (([.ref ax, .int i1, .int i2] : List Value).toArray) s 0 0 A) (F0 m 36 ls []) := by
        intro n36
        induction n36 with
        | zero => intro x_aside i3 i4 i5 x_away x_bestSet x_row x_order x_dones H locs ls hP hD hS hl hf; exact absurd hf (by simp [S_X7_open_L36])
        | succ n36 ih36 =>
          intro x_aside i3 i4 i5 x_away x_bestSet x_row x_order x_dones H locs ls hP hD hS hl hf
          rw [S_X7_open_L36] at hf
          refine lv_iload hx hb dX7_open_36 (lv_at hl 5 rfl) ?_
          refine lv_bipush (v := 31) hx hb dX7_open_38 (by decide) ?_
          refine lv_icmp_ge (tgt := 182) hx hb dX7_open_40 (by decide) (fun c40 => ?_) (fun c40 => ?_)
          · replace hf := ip c40 hf
            refine lv_iload_n hx hb dX7_open_182 rfl (lv_at hl 2 rfl) ?_
            refine lv_if_ne (tgt := 190) hx hb dX7_open_183 (by decide) (fun c183 => ?_) (fun c183 => ?_)
            · replace hf := iq c183 hf
              refine lv_iload hx hb dX7_open_190 (lv_at hl 4 rfl) ?_
              simp only [Option.some.injEq, Prod.mk.injEq] at hf
              obtain ⟨rfl, rfl, rfl, rfl, rfl, rfl, rfl⟩ := hf
              exact W.iret hx hb hr (fun t ht hW => ⟨⟨_, (), rfl, rfl, by rw [ht]; exact hP, hD⟩, hS.F ht⟩) hS.2.2 dX7_open_192
            · replace hf := ip c183 hf
              refine lv_iload_n hx hb dX7_open_186 rfl (lv_at hl 3 rfl) ?_
              refine lv_goto (tgt := 192) hx hb dX7_open_187 (by decide) ?_
              simp only [Option.some.injEq, Prod.mk.injEq] at hf
              obtain ⟨rfl, rfl, rfl, rfl, rfl, rfl, rfl⟩ := hf
              exact W.iret hx hb hr (fun t ht hW => ⟨⟨_, (), rfl, rfl, by rw [ht]; exact hP, hD⟩, hS.F ht⟩) hS.2.2 dX7_open_192
          · replace hf := iq c40 hf
            refine lv_iload_n hx hb dX7_open_43 rfl (lv_at hl 1 rfl) ?_
            refine lv_bipush (v := 30) hx hb dX7_open_44 (by decide) ?_
            refine lv_iload hx hb dX7_open_46 (lv_at hl 5 rfl) ?_
            refine lv_isub hx hb dX7_open_48 ?_
            refine lv_imul hx hb dX7_open_49 ?_
            refine lv_istore (lv' := [(6, .int (i1 * ((30 : Int32) - i5))), (0, .ref ax), (1, .int i1), (2, .int i2), (3, .int i3), (4, .int i4), (5, .int i5)]) hx hb dX7_open_50 hl (by decide) rfl (fun ls hl => ?_)
            refine lv_aload_n hx hb dX7_open_52 rfl (lv_at hl 1 rfl) ?_
            refine lv_iload hx hb dX7_open_53 (lv_at hl 6 rfl) ?_
            obtain ⟨⟨r55, x_row_o55⟩, q55, hf⟩ := ob hf
            replace hf : _ = _ := hf
            refine k_i (wc := [(ax, .inr (7, [.ref ax_row, .ref ax_text, .int x_letters, .int x_at, .ref ax_read, .ref ax_undone, .int x_undos, .ref ax_order, .ref ax_dones, .int x_away, .int x_bestSet, .ref ax_aside, .ref ax_tapedWho, .ref ax_tapedTill, .int x_taped, .ref ax_kept, .int x_keeps])), (ax_row, .inl (cyI, 28, .inl x_row))]) (wr := [(ax_aside, .inl (cyI, 28, .inl x_aside)), (ax_order, .inl (cyI, 8, .inl x_order)), (ax_dones, .inl (cyI, 8, .inl x_dones))]) (w1 := [(ax, .inr (7, [.ref ax_row, .ref ax_text, .int x_letters, .int x_at, .ref ax_read, .ref ax_undone, .int x_undos, .ref ax_order, .ref ax_dones, .int x_away, .int x_bestSet, .ref ax_aside, .ref ax_tapedWho, .ref ax_tapedTill, .int x_taped, .ref ax_kept, .int x_keeps])), (ax_row, .inl (cyI, 28, .inl x_row_o55))]) (wn := [(ax, .inr (7, [.ref ax_row, .ref ax_text, .int x_letters, .int x_at, .ref ax_read, .ref ax_undone, .int x_undos, .ref ax_order, .ref ax_dones, .int x_away, .int x_bestSet, .ref ax_aside, .ref ax_tapedWho, .ref ax_tapedTill, .int x_taped, .ref ax_kept, .int x_keeps])), (ax_row, .inl (cyI, 28, .inl x_row_o55)), (ax_aside, .inl (cyI, 28, .inl x_aside)), (ax_order, .inl (cyI, 8, .inl x_order)), (ax_dones, .inl (cyI, 8, .inl x_dones))]) (va_runV (As := [.int i5]) (rest := []) ⟨hx, hb, hml, hown, hts⟩ (c_X7_goesBy l D cyI cyC cyS H.size ax ax_row ax_text ax_read ax_undone ax_order ax_dones ax_aside ax_tapedWho ax_tapedTill ax_kept x_letters x_at x_undos x_away x_bestSet x_taped x_keeps x_row i5 q55) (cwV 1 hts gX7_open_X7_goesBy rfl rfl rfl (by decide +kernel) ⟨Nat.le_of_ble_eq_true rfl, Nat.le_of_ble_eq_true rfl⟩) (preV (ci := 7) hK (hP.subm (ws' := [(ax, .inr (7, [.ref ax_row, .ref ax_text, .int x_letters, .int x_at, .ref ax_read, .ref ax_undone, .int x_undos, .ref ax_order, .ref ax_dones, .int x_away, .int x_bestSet, .ref ax_aside, .ref ax_tapedWho, .ref ax_tapedTill, .int x_taped, .ref ax_kept, .int x_keeps])), (ax_row, .inl (cyI, 28, .inl x_row))]) [0, 1] rfl) (hD.sub (ws' := [(ax, .inr (7, [.ref ax_row, .ref ax_text, .int x_letters, .int x_at, .ref ax_read, .ref ax_undone, .int x_undos, .ref ax_order, .ref ax_dones, .int x_away, .int x_bestSet, .ref ax_aside, .ref ax_tapedWho, .ref ax_tapedTill, .int x_taped, .ref ax_kept, .int x_keeps])), (ax_row, .inl (cyI, 28, .inl x_row))]) [0, 1] (by decide) rfl) rfl rfl) rfl rfl hl.1 rfl (lv_room (Nat.le_of_ble_eq_true rfl)) dX7_open_55 ⟨Nat.le_of_ble_eq_true rfl, Nat.le_of_ble_eq_true rfl⟩) hP hD hS hA [0, 1] [2, 3, 4] [3, 4, 0, 1, 2] rfl rfl rfl (by decide) (by decide) (by decide) (fun H locs hP hD hS => ?_)
            refine lv_istore (lv' := [(7, .int r55), (6, .int (i1 * ((30 : Int32) - i5))), (0, .ref ax), (1, .int i1), (2, .int i2), (3, .int i3), (4, .int i4), (5, .int i5)]) hx hb dX7_open_58 hl (by decide) rfl (fun ls hl => ?_)
            refine lv_iconst (v := 0) hx hb dX7_open_60 (by decide) ?_
            refine lv_istore (lv' := [(8, .int (0 : Int32)), (7, .int r55), (6, .int (i1 * ((30 : Int32) - i5))), (0, .ref ax), (1, .int i1), (2, .int i2), (3, .int i3), (4, .int i4), (5, .int i5)]) hx hb dX7_open_61 hl (by decide) rfl (fun ls hl => ?_)
            refine lv_iconst (v := 0) hx hb dX7_open_63 (by decide) ?_
            refine lv_istore (lv' := [(9, .int (0 : Int32)), (8, .int (0 : Int32)), (7, .int r55), (6, .int (i1 * ((30 : Int32) - i5))), (0, .ref ax), (1, .int i1), (2, .int i2), (3, .int i3), (4, .int i4), (5, .int i5)]) hx hb dX7_open_64 hl (by decide) rfl (fun ls hl => ?_)
            have hL66 : ∀ (n66 : Nat) (i3 : Int32) (i4 : Int32) (i5 : Int32) (i7 : Int32) (x_away : Int32) (x_bestSet : Int32) (x_row : Nat → Int32) (x_aside : Nat → Int32) (x_order : Nat → Int32) (x_dones : Nat → Int32) (i6 : Int32) (i8 : Int32) (i9 : Int32) (H : Heap) (locs : List Loc) (ls : Array Slot), va_P D vwCl [(ax, .inr (7, [.ref ax_row, .ref ax_text, .int x_letters, .int x_at, .ref ax_read, .ref ax_undone, .int x_undos, .ref ax_order, .ref ax_dones, .int x_away, .int x_bestSet, .ref ax_aside, .ref ax_tapedWho, .ref ax_tapedTill, .int x_taped, .ref ax_kept, .int x_keeps])), (ax_row, .inl (cyI, 28, .inl x_row)), (ax_aside, .inl (cyI, 28, .inl x_aside)), (ax_order, .inl (cyI, 8, .inl x_order)), (ax_dones, .inl (cyI, 8, .inl x_dones))] H → va_D A [(ax, .inr (7, [.ref ax_row, .ref ax_text, .int x_letters, .int x_at, .ref ax_read, .ref ax_undone, .int x_undos, .ref ax_order, .ref ax_dones, .int x_away, .int x_bestSet, .ref ax_aside, .ref ax_tapedWho, .ref ax_tapedTill, .int x_taped, .ref ax_kept, .int x_keeps])), (ax_row, .inl (cyI, 28, .inl x_row)), (ax_aside, .inl (cyI, 28, .inl x_aside)), (ax_order, .inl (cyI, 8, .inl x_order)), (ax_dones, .inl (cyI, 8, .inl x_dones))] → va_S A s.heap H locs → lv_has ls 10 [(0, .ref ax), (1, .int i1), (2, .int i2), (3, .int i3), (4, .int i4), (5, .int i5), (6, .int i6), (7, .int i7), (8, .int i8), (9, .int i9)] → S_X7_open_L66 (S_X7_open_L36 i1 i2 x_aside n36) i3 i4 i5 i7 x_away x_bestSet x_row x_aside x_order x_dones n66 i6 i8 i9 = some (r, o_x_away, o_x_bestSet, o_x_row, o_x_aside, o_x_order, o_x_dones) → W p l e rX7_open s m (([.ref ax, .int i1, .int i2] : List Value).toArray) below meth c H locs 0 0 (MQ below (CQi r D [(ax, .inr (7, [.ref ax_row, .ref ax_text, .int x_letters, .int x_at, .ref ax_read, .ref ax_undone, .int x_undos, .ref ax_order, .ref ax_dones, .int o_x_away, .int o_x_bestSet, .ref ax_aside, .ref ax_tapedWho, .ref ax_tapedTill, .int x_taped, .ref ax_kept, .int x_keeps])), (ax_row, .inl (cyI, 28, .inl o_x_row)), (ax_aside, .inl (cyI, 28, .inl o_x_aside)), (ax_order, .inl (cyI, 8, .inl o_x_order)), (ax_dones, .inl (cyI, 8, .inl o_x_dones))] A) (([.ref ax, .int i1, .int i2] : List Value).toArray) s 0 0 A) (F0 m 66 ls []) := by
              intro n66
              induction n66 with
              | zero => intro i3 i4 i5 i7 x_away x_bestSet x_row x_aside x_order x_dones i6 i8 i9 H locs ls hP hD hS hl hf; exact absurd hf (by simp [S_X7_open_L66])
              | succ n66 ih66 =>
                intro i3 i4 i5 i7 x_away x_bestSet x_row x_aside x_order x_dones i6 i8 i9 H locs ls hP hD hS hl hf
                rw [S_X7_open_L66] at hf
                refine lv_iload hx hb dX7_open_66 (lv_at hl 9 rfl) ?_
                refine lv_iload hx hb dX7_open_68 (lv_at hl 7 rfl) ?_
                refine lv_icmp_ge (tgt := 111) hx hb dX7_open_70 (by decide) (fun c70 => ?_) (fun c70 => ?_)
                · replace hf := ip c70 hf
                  refine lv_iload hx hb dX7_open_111 (lv_at hl 6 rfl) ?_
                  refine lv_iload hx hb dX7_open_113 (lv_at hl 5 rfl) ?_
                  refine lv_aload_n hx hb dX7_open_115 rfl (lv_at hl 0 rfl) ?_
                  refine va_get (C := RX7) (T := TX7) (N := 17) hx hb hts inX7 hown hK.1 hP 0 rfl rfl 0 (by decide) f7 (fun _ h9 => h9) rfl dX7_open_116 ?_
                  refine lv_iconst (v := 0) hx hb dX7_open_119 (by decide) ?_
                  refine a_ild hx hb hK hP 1 rfl (vin (by decide)) 0 (by decide) dX7_open_120 ?_
                  refine lv_imul hx hb dX7_open_121 ?_
                  refine lv_aload_n hx hb dX7_open_122 rfl (lv_at hl 0 rfl) ?_
                  refine lv_iconst (v := 1) hx hb dX7_open_123 (by decide) ?_
                  refine lv_iconst (v := 0) hx hb dX7_open_124 (by decide) ?_
                  obtain ⟨⟨r125, x_away_o125, x_bestSet_o125, x_order_o125, x_dones_o125⟩, q125, hf⟩ := ob hf
                  replace hf : _ = _ := hf
                  refine k_i (wc := [(ax, .inr (7, [.ref ax_row, .ref ax_text, .int x_letters, .int x_at, .ref ax_read, .ref ax_undone, .int x_undos, .ref ax_order, .ref ax_dones, .int x_away, .int x_bestSet, .ref ax_aside, .ref ax_tapedWho, .ref ax_tapedTill, .int x_taped, .ref ax_kept, .int x_keeps])), (ax_row, .inl (cyI, 28, .inl x_row)), (ax_order, .inl (cyI, 8, .inl x_order)), (ax_dones, .inl (cyI, 8, .inl x_dones))]) (wr := [(ax_aside, .inl (cyI, 28, .inl x_aside))]) (w1 := [(ax, .inr (7, [.ref ax_row, .ref ax_text, .int x_letters, .int x_at, .ref ax_read, .ref ax_undone, .int x_undos, .ref ax_order, .ref ax_dones, .int x_away_o125, .int x_bestSet_o125, .ref ax_aside, .ref ax_tapedWho, .ref ax_tapedTill, .int x_taped, .ref ax_kept, .int x_keeps])), (ax_row, .inl (cyI, 28, .inl x_row)), (ax_order, .inl (cyI, 8, .inl x_order_o125)), (ax_dones, .inl (cyI, 8, .inl x_dones_o125))]) (wn := [(ax, .inr (7, [.ref ax_row, .ref ax_text, .int x_letters, .int x_at, .ref ax_read, .ref ax_undone, .int x_undos, .ref ax_order, .ref ax_dones, .int x_away_o125, .int x_bestSet_o125, .ref ax_aside, .ref ax_tapedWho, .ref ax_tapedTill, .int x_taped, .ref ax_kept, .int x_keeps])), (ax_row, .inl (cyI, 28, .inl x_row)), (ax_aside, .inl (cyI, 28, .inl x_aside)), (ax_order, .inl (cyI, 8, .inl x_order_o125)), (ax_dones, .inl (cyI, 8, .inl x_dones_o125))]) (va_runV (As := [.int (1 : Int32), .int (0 : Int32)]) (rest := [.int (i5 * (x_row 0)), .int i6]) ⟨hx, hb, hml, hown, hts⟩ (c_X7_leastOf l D cyI cyC cyS H.size ax ax_row ax_text ax_read ax_undone ax_order ax_dones ax_aside ax_tapedWho ax_tapedTill ax_kept x_letters x_at x_undos x_away x_bestSet x_taped x_keeps x_row x_order x_dones (1 : Int32) (0 : Int32) q125) (cwV 2 hts gX7_open_X7_leastOf rfl rfl rfl (by decide +kernel) ⟨Nat.le_of_ble_eq_true rfl, Nat.le_of_ble_eq_true rfl⟩) (preV (ci := 7) hK (hP.subm (ws' := [(ax, .inr (7, [.ref ax_row, .ref ax_text, .int x_letters, .int x_at, .ref ax_read, .ref ax_undone, .int x_undos, .ref ax_order, .ref ax_dones, .int x_away, .int x_bestSet, .ref ax_aside, .ref ax_tapedWho, .ref ax_tapedTill, .int x_taped, .ref ax_kept, .int x_keeps])), (ax_row, .inl (cyI, 28, .inl x_row)), (ax_order, .inl (cyI, 8, .inl x_order)), (ax_dones, .inl (cyI, 8, .inl x_dones))]) [0, 1, 3, 4] rfl) (hD.sub (ws' := [(ax, .inr (7, [.ref ax_row, .ref ax_text, .int x_letters, .int x_at, .ref ax_read, .ref ax_undone, .int x_undos, .ref ax_order, .ref ax_dones, .int x_away, .int x_bestSet, .ref ax_aside, .ref ax_tapedWho, .ref ax_tapedTill, .int x_taped, .ref ax_kept, .int x_keeps])), (ax_row, .inl (cyI, 28, .inl x_row)), (ax_order, .inl (cyI, 8, .inl x_order)), (ax_dones, .inl (cyI, 8, .inl x_dones))]) [0, 1, 3, 4] (by decide) rfl) rfl rfl) rfl rfl hl.1 rfl (lv_room (Nat.le_of_ble_eq_true rfl)) dX7_open_125 ⟨Nat.le_of_ble_eq_true rfl, Nat.le_of_ble_eq_true rfl⟩) hP hD hS hA [0, 1, 3, 4] [2] [1, 2, 0, 3, 4] rfl rfl rfl (by decide) (by decide) (by decide) (fun H locs hP hD hS => ?_)
                  refine lv_iadd hx hb dX7_open_128 ?_
                  refine lv_iadd hx hb dX7_open_129 ?_
                  refine lv_istore (lv' := [(6, .int (i6 + ((i5 * (x_row 0)) + r125))), (0, .ref ax), (1, .int i1), (2, .int i2), (3, .int i3), (4, .int i4), (5, .int i5), (7, .int i7), (8, .int i8), (9, .int i9)]) hx hb dX7_open_130 hl (by decide) rfl (fun ls hl => ?_)
                  refine lv_aload_n hx hb dX7_open_132 rfl (lv_at hl 1 rfl) ?_
                  obtain ⟨x_row_o133, q133, hf⟩ := ob hf
                  refine k_v (wc := [(ax, .inr (7, [.ref ax_row, .ref ax_text, .int x_letters, .int x_at, .ref ax_read, .ref ax_undone, .int x_undos, .ref ax_order, .ref ax_dones, .int x_away_o125, .int x_bestSet_o125, .ref ax_aside, .ref ax_tapedWho, .ref ax_tapedTill, .int x_taped, .ref ax_kept, .int x_keeps])), (ax_aside, .inl (cyI, 28, .inl x_aside)), (ax_row, .inl (cyI, 28, .inl x_row))]) (wr := [(ax_order, .inl (cyI, 8, .inl x_order_o125)), (ax_dones, .inl (cyI, 8, .inl x_dones_o125))]) (w1 := [(ax, .inr (7, [.ref ax_row, .ref ax_text, .int x_letters, .int x_at, .ref ax_read, .ref ax_undone, .int x_undos, .ref ax_order, .ref ax_dones, .int x_away_o125, .int x_bestSet_o125, .ref ax_aside, .ref ax_tapedWho, .ref ax_tapedTill, .int x_taped, .ref ax_kept, .int x_keeps])), (ax_aside, .inl (cyI, 28, .inl x_aside)), (ax_row, .inl (cyI, 28, .inl x_row_o133))]) (wn := [(ax, .inr (7, [.ref ax_row, .ref ax_text, .int x_letters, .int x_at, .ref ax_read, .ref ax_undone, .int x_undos, .ref ax_order, .ref ax_dones, .int x_away_o125, .int x_bestSet_o125, .ref ax_aside, .ref ax_tapedWho, .ref ax_tapedTill, .int x_taped, .ref ax_kept, .int x_keeps])), (ax_row, .inl (cyI, 28, .inl x_row_o133)), (ax_aside, .inl (cyI, 28, .inl x_aside)), (ax_order, .inl (cyI, 8, .inl x_order_o125)), (ax_dones, .inl (cyI, 8, .inl x_dones_o125))]) (va_runV (As := []) (rest := []) ⟨hx, hb, hml, hown, hts⟩ (c_X7_backs l D cyI cyC cyS H.size ax ax_row ax_text ax_read ax_undone ax_order ax_dones ax_aside ax_tapedWho ax_tapedTill ax_kept x_letters x_at x_undos x_away_o125 x_bestSet_o125 x_taped x_keeps x_aside x_row q133) (cwV 0 hts gX7_open_X7_backs rfl rfl rfl (by decide +kernel) ⟨Nat.le_of_ble_eq_true rfl, Nat.le_of_ble_eq_true rfl⟩) (preV (ci := 7) hK (hP.subm (ws' := [(ax, .inr (7, [.ref ax_row, .ref ax_text, .int x_letters, .int x_at, .ref ax_read, .ref ax_undone, .int x_undos, .ref ax_order, .ref ax_dones, .int x_away_o125, .int x_bestSet_o125, .ref ax_aside, .ref ax_tapedWho, .ref ax_tapedTill, .int x_taped, .ref ax_kept, .int x_keeps])), (ax_aside, .inl (cyI, 28, .inl x_aside)), (ax_row, .inl (cyI, 28, .inl x_row))]) [0, 2, 1] rfl) (hD.sub (ws' := [(ax, .inr (7, [.ref ax_row, .ref ax_text, .int x_letters, .int x_at, .ref ax_read, .ref ax_undone, .int x_undos, .ref ax_order, .ref ax_dones, .int x_away_o125, .int x_bestSet_o125, .ref ax_aside, .ref ax_tapedWho, .ref ax_tapedTill, .int x_taped, .ref ax_kept, .int x_keeps])), (ax_aside, .inl (cyI, 28, .inl x_aside)), (ax_row, .inl (cyI, 28, .inl x_row))]) [0, 2, 1] (by decide) rfl) rfl rfl) rfl rfl hl.1 rfl (lv_room (Nat.le_of_ble_eq_true rfl)) dX7_open_133 ⟨Nat.le_of_ble_eq_true rfl, Nat.le_of_ble_eq_true rfl⟩) hP hD hS hA [0, 2, 1] [3, 4] [2, 4, 3, 0, 1] rfl rfl rfl (by decide) (by decide) (by decide) (fun H locs hP hD hS => ?_)
                  refine lv_iload hx hb dX7_open_136 (lv_at hl 5 rfl) ?_
                  have hJ154 : ∀ (s0_154 : Int32) (H : Heap) (locs : List Loc) (ls : Array Slot), va_P D vwCl [(ax, .inr (7, [.ref ax_row, .ref ax_text, .int x_letters, .int x_at, .ref ax_read, .ref ax_undone, .int x_undos, .ref ax_order, .ref ax_dones, .int x_away_o125, .int x_bestSet_o125, .ref ax_aside, .ref ax_tapedWho, .ref ax_tapedTill, .int x_taped, .ref ax_kept, .int x_keeps])), (ax_row, .inl (cyI, 28, .inl x_row_o133)), (ax_aside, .inl (cyI, 28, .inl x_aside)), (ax_order, .inl (cyI, 8, .inl x_order_o125)), (ax_dones, .inl (cyI, 8, .inl x_dones_o125))] H → va_D A [(ax, .inr (7, [.ref ax_row, .ref ax_text, .int x_letters, .int x_at, .ref ax_read, .ref ax_undone, .int x_undos, .ref ax_order, .ref ax_dones, .int x_away_o125, .int x_bestSet_o125, .ref ax_aside, .ref ax_tapedWho, .ref ax_tapedTill, .int x_taped, .ref ax_kept, .int x_keeps])), (ax_row, .inl (cyI, 28, .inl x_row_o133)), (ax_aside, .inl (cyI, 28, .inl x_aside)), (ax_order, .inl (cyI, 8, .inl x_order_o125)), (ax_dones, .inl (cyI, 8, .inl x_dones_o125))] → va_S A s.heap H locs → lv_has ls 10 [(0, .ref ax), (1, .int i1), (2, .int i2), (4, .int i4), (5, .int i5), (6, .int (i6 + ((i5 * (x_row 0)) + r125)))] → (if i4 < 0 then
((S_X7_open_L36 i1 i2 x_aside n36) s0_154 (i6 + ((i5 * (x_row 0)) + r125)) (i5 + (1 : Int32)) x_away_o125 x_bestSet_o125 x_row_o133 x_order_o125 x_dones_o125) else
(if i4 ≤ (i6 + ((i5 * (x_row 0)) + r125)) then
((S_X7_open_L36 i1 i2 x_aside n36) s0_154 i4 (i5 + (1 : Int32)) x_away_o125 x_bestSet_o125 x_row_o133 x_order_o125 x_dones_o125) else
((S_X7_open_L36 i1 i2 x_aside n36) s0_154 (i6 + ((i5 * (x_row 0)) + r125)) (i5 + (1 : Int32)) x_away_o125 x_bestSet_o125 x_row_o133 x_order_o125 x_dones_o125))) = some (r, o_x_away, o_x_bestSet, o_x_row, o_x_aside, o_x_order, o_x_dones) → W p l e rX7_open s m (([.ref ax, .int i1, .int i2] : List Value).toArray) below meth c H locs 0 0 (MQ below (CQi r D [(ax, .inr (7, [.ref ax_row, .ref ax_text, .int x_letters, .int x_at, .ref ax_read, .ref ax_undone, .int x_undos, .ref ax_order, .ref ax_dones, .int o_x_away, .int o_x_bestSet, .ref ax_aside, .ref ax_tapedWho, .ref ax_tapedTill, .int x_taped, .ref ax_kept, .int x_keeps])), (ax_row, .inl (cyI, 28, .inl o_x_row)), (ax_aside, .inl (cyI, 28, .inl o_x_aside)), (ax_order, .inl (cyI, 8, .inl o_x_order)), (ax_dones, .inl (cyI, 8, .inl o_x_dones))] A) (([.ref ax, .int i1, .int i2] : List Value).toArray) s 0 0 A) (F0 m 154 ls [.int s0_154]) := by
                    intro s0_154 H locs ls hP hD hS hl hf
                    refine lv_istore_n (lv' := [(3, .int s0_154), (0, .ref ax), (1, .int i1), (2, .int i2), (4, .int i4), (5, .int i5), (6, .int (i6 + ((i5 * (x_row 0)) + r125)))]) hx hb dX7_open_154 rfl hl (by decide) rfl (fun ls hl => ?_)
                    refine lv_iload hx hb dX7_open_155 (lv_at hl 4 rfl) ?_
                    refine lv_if_lt (tgt := 167) hx hb dX7_open_157 (by decide) (fun c157 => ?_) (fun c157 => ?_)
                    · replace hf := ip c157 hf
                      refine lv_iload hx hb dX7_open_167 (lv_at hl 6 rfl) ?_
                      refine lv_goto (tgt := 174) hx hb dX7_open_169 (by decide) ?_
                      refine lv_istore (lv' := [(4, .int (i6 + ((i5 * (x_row 0)) + r125))), (3, .int s0_154), (0, .ref ax), (1, .int i1), (2, .int i2), (5, .int i5), (6, .int (i6 + ((i5 * (x_row 0)) + r125)))]) hx hb dX7_open_174 hl (by decide) rfl (fun ls hl => ?_)
                      refine lv_iinc (v := i5 + (1 : Int32)) (lv' := [(5, .int (i5 + (1 : Int32))), (4, .int (i6 + ((i5 * (x_row 0)) + r125))), (3, .int s0_154), (0, .ref ax), (1, .int i1), (2, .int i2), (6, .int (i6 + ((i5 * (x_row 0)) + r125)))]) hx hb dX7_open_176 hl (k := 5) rfl rfl (by decide) rfl (fun ls hl => ?_)
                      refine lv_goto (tgt := 36) hx hb dX7_open_179 (by decide) ?_
                      exact ih36 x_aside s0_154 (i6 + ((i5 * (x_row 0)) + r125)) (i5 + (1 : Int32)) x_away_o125 x_bestSet_o125 x_row_o133 x_order_o125 x_dones_o125 _ _ _ hP hD hS (lv_sub hl [3, 4, 5, 2, 1, 0] rfl) hf
                    · replace hf := iq c157 hf
                      refine lv_iload hx hb dX7_open_160 (lv_at hl 6 rfl) ?_
                      refine lv_iload hx hb dX7_open_162 (lv_at hl 4 rfl) ?_
                      refine lv_icmp_ge (tgt := 172) hx hb dX7_open_164 (by decide) (fun c164 => ?_) (fun c164 => ?_)
                      · replace hf := ip c164 hf
                        refine lv_iload hx hb dX7_open_172 (lv_at hl 4 rfl) ?_
                        refine lv_istore (lv' := [(4, .int i4), (3, .int s0_154), (0, .ref ax), (1, .int i1), (2, .int i2), (5, .int i5), (6, .int (i6 + ((i5 * (x_row 0)) + r125)))]) hx hb dX7_open_174 hl (by decide) rfl (fun ls hl => ?_)
                        refine lv_iinc (v := i5 + (1 : Int32)) (lv' := [(5, .int (i5 + (1 : Int32))), (4, .int i4), (3, .int s0_154), (0, .ref ax), (1, .int i1), (2, .int i2), (6, .int (i6 + ((i5 * (x_row 0)) + r125)))]) hx hb dX7_open_176 hl (k := 5) rfl rfl (by decide) rfl (fun ls hl => ?_)
                        refine lv_goto (tgt := 36) hx hb dX7_open_179 (by decide) ?_
                        exact ih36 x_aside s0_154 i4 (i5 + (1 : Int32)) x_away_o125 x_bestSet_o125 x_row_o133 x_order_o125 x_dones_o125 _ _ _ hP hD hS (lv_sub hl [3, 4, 5, 2, 1, 0] rfl) hf
                      · replace hf := iq c164 hf
                        refine lv_iload hx hb dX7_open_167 (lv_at hl 6 rfl) ?_
                        refine lv_goto (tgt := 174) hx hb dX7_open_169 (by decide) ?_
                        refine lv_istore (lv' := [(4, .int (i6 + ((i5 * (x_row 0)) + r125))), (3, .int s0_154), (0, .ref ax), (1, .int i1), (2, .int i2), (5, .int i5), (6, .int (i6 + ((i5 * (x_row 0)) + r125)))]) hx hb dX7_open_174 hl (by decide) rfl (fun ls hl => ?_)
                        refine lv_iinc (v := i5 + (1 : Int32)) (lv' := [(5, .int (i5 + (1 : Int32))), (4, .int (i6 + ((i5 * (x_row 0)) + r125))), (3, .int s0_154), (0, .ref ax), (1, .int i1), (2, .int i2), (6, .int (i6 + ((i5 * (x_row 0)) + r125)))]) hx hb dX7_open_176 hl (k := 5) rfl rfl (by decide) rfl (fun ls hl => ?_)
                        refine lv_goto (tgt := 36) hx hb dX7_open_179 (by decide) ?_
                        exact ih36 x_aside s0_154 (i6 + ((i5 * (x_row 0)) + r125)) (i5 + (1 : Int32)) x_away_o125 x_bestSet_o125 x_row_o133 x_order_o125 x_dones_o125 _ _ _ hP hD hS (lv_sub hl [3, 4, 5, 2, 1, 0] rfl) hf
                  replace hf := jn_h hf
                  have hJ148 : ∀ (H : Heap) (locs : List Loc) (ls : Array Slot), va_P D vwCl [(ax, .inr (7, [.ref ax_row, .ref ax_text, .int x_letters, .int x_at, .ref ax_read, .ref ax_undone, .int x_undos, .ref ax_order, .ref ax_dones, .int x_away_o125, .int x_bestSet_o125, .ref ax_aside, .ref ax_tapedWho, .ref ax_tapedTill, .int x_taped, .ref ax_kept, .int x_keeps])), (ax_row, .inl (cyI, 28, .inl x_row_o133)), (ax_aside, .inl (cyI, 28, .inl x_aside)), (ax_order, .inl (cyI, 8, .inl x_order_o125)), (ax_dones, .inl (cyI, 8, .inl x_dones_o125))] H → va_D A [(ax, .inr (7, [.ref ax_row, .ref ax_text, .int x_letters, .int x_at, .ref ax_read, .ref ax_undone, .int x_undos, .ref ax_order, .ref ax_dones, .int x_away_o125, .int x_bestSet_o125, .ref ax_aside, .ref ax_tapedWho, .ref ax_tapedTill, .int x_taped, .ref ax_kept, .int x_keeps])), (ax_row, .inl (cyI, 28, .inl x_row_o133)), (ax_aside, .inl (cyI, 28, .inl x_aside)), (ax_order, .inl (cyI, 8, .inl x_order_o125)), (ax_dones, .inl (cyI, 8, .inl x_dones_o125))] → va_S A s.heap H locs → lv_has ls 10 [(0, .ref ax), (1, .int i1), (2, .int i2), (4, .int i4), (5, .int i5), (6, .int (i6 + ((i5 * (x_row 0)) + r125)))] → ((fun (s0_154 : Int32) => (if i4 < 0 then ((S_X7_open_L36 i1 i2 x_aside n36) s0_154 (i6 + ((i5 * (x_row 0)) + r125)) (i5 + (1 : Int32)) x_away_o125 x_bestSet_o125 x_row_o133 x_order_o125 x_dones_o125) else (if i4 ≤ (i6 + ((i5 * (x_row 0)) + r125)) then ((S_X7_open_L36 i1 i2 x_aside n36) s0_154 i4 (i5 + (1 : Int32)) x_away_o125 x_bestSet_o125 x_row_o133 x_order_o125 x_dones_o125) else ((S_X7_open_L36 i1 i2 x_aside n36) s0_154 (i6 + ((i5 * (x_row 0)) + r125)) (i5 + (1 : Int32)) x_away_o125 x_bestSet_o125 x_row_o133 x_order_o125 x_dones_o125)))) i5) = some (r, o_x_away, o_x_bestSet, o_x_row, o_x_aside, o_x_order, o_x_dones) → W p l e rX7_open s m (([.ref ax, .int i1, .int i2] : List Value).toArray) below meth c H locs 0 0 (MQ below (CQi r D [(ax, .inr (7, [.ref ax_row, .ref ax_text, .int x_letters, .int x_at, .ref ax_read, .ref ax_undone, .int x_undos, .ref ax_order, .ref ax_dones, .int o_x_away, .int o_x_bestSet, .ref ax_aside, .ref ax_tapedWho, .ref ax_tapedTill, .int x_taped, .ref ax_kept, .int x_keeps])), (ax_row, .inl (cyI, 28, .inl o_x_row)), (ax_aside, .inl (cyI, 28, .inl o_x_aside)), (ax_order, .inl (cyI, 8, .inl o_x_order)), (ax_dones, .inl (cyI, 8, .inl o_x_dones))] A) (([.ref ax, .int i1, .int i2] : List Value).toArray) s 0 0 A) (F0 m 148 ls []) := by
                    intro  H locs ls hP hD hS hl hf
                    refine lv_iload hx hb dX7_open_148 (lv_at hl 4 rfl) ?_
                    refine lv_goto (tgt := 154) hx hb dX7_open_150 (by decide) ?_
                    exact hJ154 i5 _ _ _ hP hD hS (lv_sub hl [0, 1, 2, 3, 4, 5] rfl) hf
                  replace hf := jn_h hf
                  refine lv_if_lt (tgt := 148) hx hb dX7_open_138 (by decide) (fun c138 => ?_) (fun c138 => ?_)
                  · replace hf := ip c138 hf
                    exact hJ148 _ _ _ hP hD hS (lv_sub hl [1, 2, 3, 5, 6, 0] rfl) hf
                  · replace hf := iq c138 hf
                    refine lv_iload hx hb dX7_open_141 (lv_at hl 0 rfl) ?_
                    refine lv_iload hx hb dX7_open_143 (lv_at hl 5 rfl) ?_
                    refine lv_icmp_ge (tgt := 153) hx hb dX7_open_145 (by decide) (fun c145 => ?_) (fun c145 => ?_)
                    · replace hf := ip c145 hf
                      refine lv_iload_n hx hb dX7_open_153 rfl (lv_at hl 4 rfl) ?_
                      exact hJ154 i3 _ _ _ hP hD hS (lv_sub hl [1, 2, 3, 5, 6, 0] rfl) hf
                    · replace hf := iq c145 hf
                      exact hJ148 _ _ _ hP hD hS (lv_sub hl [1, 2, 3, 5, 6, 0] rfl) hf
                · replace hf := iq c70 hf
                  refine lv_iload hx hb dX7_open_73 (lv_at hl 8 rfl) ?_
                  refine lv_aload_n hx hb dX7_open_75 rfl (lv_at hl 0 rfl) ?_
                  refine va_get (C := RX7) (T := TX7) (N := 17) hx hb hts inX7 hown hK.1 hP 0 rfl rfl 11 (by decide) f28 (fun _ h9 => h9) rfl dX7_open_76 ?_
                  refine lv_iconst (v := 4) hx hb dX7_open_79 (by decide) ?_
                  refine lv_iconst (v := 3) hx hb dX7_open_80 (by decide) ?_
                  refine lv_iload hx hb dX7_open_81 (lv_at hl 9 rfl) ?_
                  refine lv_imul hx hb dX7_open_83 ?_
                  refine lv_iadd hx hb dX7_open_84 ?_
                  refine lv_iconst (v := 1) hx hb dX7_open_85 (by decide) ?_
                  refine lv_iadd hx hb dX7_open_86 ?_
                  obtain ⟨z87, hf⟩ := oi hf
                  refine a_ild hx hb hK hP 2 rfl z87 (((4 : Int32) + ((3 : Int32) * i9)) + (1 : Int32)).toNatClampNeg rfl dX7_open_87 ?_
                  refine lv_iadd hx hb dX7_open_88 ?_
                  refine lv_topi (fun v89 ev89 => ?_)
                  replace hf := nm_h hf v89 ev89
                  refine lv_istore (lv' := [(8, .int v89), (0, .ref ax), (1, .int i1), (2, .int i2), (3, .int i3), (4, .int i4), (5, .int i5), (6, .int i6), (7, .int i7), (9, .int i9)]) hx hb dX7_open_89 hl (by decide) rfl (fun ls hl => ?_)
                  refine lv_iload hx hb dX7_open_91 (lv_at hl 7 rfl) ?_
                  refine lv_iload hx hb dX7_open_93 (lv_at hl 0 rfl) ?_
                  refine lv_aload_n hx hb dX7_open_95 rfl (lv_at hl 1 rfl) ?_
                  refine va_get (C := RX7) (T := TX7) (N := 17) hx hb hts inX7 hown hK.1 hP 0 rfl rfl 0 (by decide) f7 (fun _ h9 => h9) rfl dX7_open_96 ?_
                  refine lv_iconst (v := 1) hx hb dX7_open_99 (by decide) ?_
                  refine a_ild hx hb hK hP 1 rfl (vin (by decide)) 1 (by decide) dX7_open_100 ?_
                  refine lv_imul hx hb dX7_open_101 ?_
                  refine lv_iadd hx hb dX7_open_102 ?_
                  refine lv_istore (lv' := [(6, .int (i6 + (v89 * (x_row 1)))), (8, .int v89), (0, .ref ax), (1, .int i1), (2, .int i2), (3, .int i3), (4, .int i4), (5, .int i5), (7, .int i7), (9, .int i9)]) hx hb dX7_open_103 hl (by decide) rfl (fun ls hl => ?_)
                  refine lv_iinc (v := i9 + (1 : Int32)) (lv' := [(9, .int (i9 + (1 : Int32))), (6, .int (i6 + (v89 * (x_row 1)))), (8, .int v89), (0, .ref ax), (1, .int i1), (2, .int i2), (3, .int i3), (4, .int i4), (5, .int i5), (7, .int i7)]) hx hb dX7_open_105 hl (k := 9) rfl rfl (by decide) rfl (fun ls hl => ?_)
                  refine lv_goto (tgt := 66) hx hb dX7_open_108 (by decide) ?_
                  exact ih66 i3 i4 i5 i7 x_away x_bestSet x_row x_aside x_order x_dones (i6 + (v89 * (x_row 1))) v89 (i9 + (1 : Int32)) _ _ _ hP hD hS (lv_sub hl [3, 4, 5, 6, 7, 8, 1, 9, 2, 0] rfl) hf
            exact hL66 300 i3 i4 i5 r55 x_away x_bestSet x_row_o55 x_aside x_order x_dones (i1 * ((30 : Int32) - i5)) (0 : Int32) (0 : Int32) _ _ _ hP hD hS (lv_sub hl [4, 5, 6, 7, 8, 9, 3, 2, 1, 0] rfl) hf
      exact hL36 300 x_aside_o25 (0 : Int32) (-1 : Int32) (0 : Int32) x_away x_bestSet x_row x_order x_dones _ _ _ hP hD hS (lv_sub hl [3, 4, 5, 2, 1, 0] rfl) hf
    · replace hf := ip c19 hf
      refine lv_iconst (v := -1) hx hb dX7_open_22 (by decide) ?_
      simp only [Option.some.injEq, Prod.mk.injEq] at hf
      obtain ⟨rfl, rfl, rfl, rfl, rfl, rfl, rfl⟩ := hf
      exact W.iret hx hb hr (fun t ht hW => ⟨⟨_, (), rfl, rfl, by rw [ht]; exact hP, hD⟩, hS.F ht⟩) hS.2.2 dX7_open_23
abbrev rX7_tape : Room := { frames := 2, cells := 0, slots := 0, locals := 46 }
set_option maxHeartbeats 4000000 in
set_option maxRecDepth 100000 in
theorem c_X7_tape (l : Launch) (D : va_G) (cyI cyC cyS : ClassId) (sz : Nat) (ax : Nat) (ax_row : Nat) (ax_text : Nat) (ax_read : Nat) (ax_undone : Nat) (ax_order : Nat) (ax_dones : Nat) (ax_aside : Nat) (ax_tapedWho : Nat) (ax_tapedTill : Nat) (ax_kept : Nat) (x_letters : Int32) (x_at : Int32) (x_undos : Int32) (x_away : Int32) (x_bestSet : Int32) (x_taped : Int32) (x_keeps : Int32) (x_row : Nat → Int32) (x_tapedWho : Nat → Int32) (x_tapedTill : Nat → Int32) (i1 : Int32) (i2 : Int32) {r : Int32} {o_x_taped : Int32} {o_x_tapedWho : Nat → Int32} {o_x_tapedTill : Nat → Int32} (hf : S_X7_tape i1 i2 x_taped x_row x_tapedWho x_tapedTill = some (r, o_x_taped, o_x_tapedWho, o_x_tapedTill)) : Met l yX7_tape wsX7_tape rX7_tape (Cpre [.ref ax, .int i1, .int i2] D cyI cyC cyS sz [(ax, .inr (7, [.ref ax_row, .ref ax_text, .int x_letters, .int x_at, .ref ax_read, .ref ax_undone, .int x_undos, .ref ax_order, .ref ax_dones, .int x_away, .int x_bestSet, .ref ax_aside, .ref ax_tapedWho, .ref ax_tapedTill, .int x_taped, .ref ax_kept, .int x_keeps])), (ax_row, .inl (cyI, 28, .inl x_row)), (ax_tapedWho, .inl (cyI, 8, .inl x_tapedWho)), (ax_tapedTill, .inl (cyI, 8, .inl x_tapedTill))]) (CQi r D [(ax, .inr (7, [.ref ax_row, .ref ax_text, .int x_letters, .int x_at, .ref ax_read, .ref ax_undone, .int x_undos, .ref ax_order, .ref ax_dones, .int x_away, .int x_bestSet, .ref ax_aside, .ref ax_tapedWho, .ref ax_tapedTill, .int o_x_taped, .ref ax_kept, .int x_keeps])), (ax_row, .inl (cyI, 28, .inl x_row)), (ax_tapedWho, .inl (cyI, 8, .inl o_x_tapedWho)), (ax_tapedTill, .inl (cyI, 8, .inl o_x_tapedTill))] (va_A [(ax, .inr (7, [.ref ax_row, .ref ax_text, .int x_letters, .int x_at, .ref ax_read, .ref ax_undone, .int x_undos, .ref ax_order, .ref ax_dones, .int x_away, .int x_bestSet, .ref ax_aside, .ref ax_tapedWho, .ref ax_tapedTill, .int x_taped, .ref ax_kept, .int x_keeps])), (ax_row, .inl (cyI, 28, .inl x_row)), (ax_tapedWho, .inl (cyI, 8, .inl x_tapedWho)), (ax_tapedTill, .inl (cyI, 8, .inl x_tapedTill))] sz)) 0 0 (va_A [(ax, .inr (7, [.ref ax_row, .ref ax_text, .int x_letters, .int x_at, .ref ax_read, .ref ax_undone, .int x_undos, .ref ax_order, .ref ax_dones, .int x_away, .int x_bestSet, .ref ax_aside, .ref ax_tapedWho, .ref ax_tapedTill, .int x_taped, .ref ax_kept, .int x_keeps])), (ax_row, .inl (cyI, 28, .inl x_row)), (ax_tapedWho, .inl (cyI, 8, .inl x_tapedWho)), (ax_tapedTill, .inl (cyI, 8, .inl x_tapedTill))] sz) := by
  refine Met.ofW (cc := cX7_tape) (maxL := 3) (ret := (some .int)) (by decide) rfl ?_
  intro p e s m args below meth c s₁ B hml hv
  obtain ⟨rfl, hsz, hP, hK, hD0⟩ := hv
  have hx := B.exec
  have hb := B.bytes
  have hr := B.returns
  have hts := atoms_spec (ws := wsX7_tape) B.pre
  have hown : s.vm.findClass RX7 = some m.cls := findClass_of_methodNamed B.named
  have hlocks := B.notSynchronized
  subst hsz
  have hD := hD0.self (sz := s.heap.size)
  generalize hAe : va_A [(ax, .inr (7, [.ref ax_row, .ref ax_text, .int x_letters, .int x_at, .ref ax_read, .ref ax_undone, .int x_undos, .ref ax_order, .ref ax_dones, .int x_away, .int x_bestSet, .ref ax_aside, .ref ax_tapedWho, .ref ax_tapedTill, .int x_taped, .ref ax_kept, .int x_keeps])), (ax_row, .inl (cyI, 28, .inl x_row)), (ax_tapedWho, .inl (cyI, 8, .inl x_tapedWho)), (ax_tapedTill, .inl (cyI, 8, .inl x_tapedTill))] s.heap.size = A at hD ⊢
  have hA : ∀ q : Nat, s.heap.size ≤ q → A q := fun q h => by rw [← hAe]; exact Or.inr h
  have hS : va_S A s.heap s.heap [] := va_S.rf
  have hl := lv_entry ([.ref ax, .int i1, .int i2]) (n := 3) (Nat.le_of_ble_eq_true rfl)
  rw [lg_entry_eq]
  generalize (lg_sl ([.ref ax, .int i1, .int i2]) ++ List.replicate (3 - (lg_sl ([.ref ax, .int i1, .int i2])).length) Slot.unset).toArray = ls at hl ⊢
  have hl : lv_has ls 3 [(0, .ref ax), (1, .int i1), (2, .int i2)] := hl
  have f88 := hts (.fieldLink RX7 88 "SecondTillModel" "taped" "I") (by decide +kernel)
  have inX7 : ∀ w ∈ u_ws RX7 TX7 17, w ∈ wsX7_tape := by decide +kernel
  have f31 := hts (.fieldLink RX7 31 "SecondTillModel" "tapedWho" "[I") (by decide +kernel)
  have f34 := hts (.fieldLink RX7 34 "SecondTillModel" "tapedTill" "[I") (by decide +kernel)
  unfold S_X7_tape at hf
  have hP : va_P D vwCl [(ax, .inr (7, [.ref ax_row, .ref ax_text, .int x_letters, .int x_at, .ref ax_read, .ref ax_undone, .int x_undos, .ref ax_order, .ref ax_dones, .int x_away, .int x_bestSet, .ref ax_aside, .ref ax_tapedWho, .ref ax_tapedTill, .int x_taped, .ref ax_kept, .int x_keeps])), (ax_row, .inl (cyI, 28, .inl x_row)), (ax_tapedWho, .inl (cyI, 8, .inl x_tapedWho)), (ax_tapedTill, .inl (cyI, 8, .inl x_tapedTill))] s.heap := hP
  suffices hgo : ∀ (H : Heap) (locs : List Loc), va_P D vwCl [(ax, .inr (7, [.ref ax_row, .ref ax_text, .int x_letters, .int x_at, .ref ax_read, .ref ax_undone, .int x_undos, .ref ax_order, .ref ax_dones, .int x_away, .int x_bestSet, .ref ax_aside, .ref ax_tapedWho, .ref ax_tapedTill, .int x_taped, .ref ax_kept, .int x_keeps])), (ax_row, .inl (cyI, 28, .inl x_row)), (ax_tapedWho, .inl (cyI, 8, .inl x_tapedWho)), (ax_tapedTill, .inl (cyI, 8, .inl x_tapedTill))] H → va_S A s.heap H locs → W p l e rX7_tape s m (([.ref ax, .int i1, .int i2] : List Value).toArray) below meth c H locs 0 0 (MQ below (CQi r D [(ax, .inr (7, [.ref ax_row, .ref ax_text, .int x_letters, .int x_at, .ref ax_read, .ref ax_undone, .int x_undos, .ref ax_order, .ref ax_dones, .int x_away, .int x_bestSet, .ref ax_aside, .ref ax_tapedWho, .ref ax_tapedTill, .int o_x_taped, .ref ax_kept, .int x_keeps])), (ax_row, .inl (cyI, 28, .inl x_row)), (ax_tapedWho, .inl (cyI, 8, .inl o_x_tapedWho)), (ax_tapedTill, .inl (cyI, 8, .inl o_x_tapedTill))] A) (([.ref ax, .int i1, .int i2] : List Value).toArray) s 0 0 A) (F0 m 0 ls []) from hgo _ _ hP hS
  clear hP hS
  intro H locs hP hS
  refine lv_aload_n hx hb dX7_tape_0 rfl (lv_at hl 0 rfl) ?_
  refine lv_iload_n hx hb dX7_tape_1 rfl (lv_at hl 1 rfl) ?_
  obtain ⟨r2, q2, hf⟩ := ob hf
  refine k_i (wc := [(ax, .inr (7, [.ref ax_row, .ref ax_text, .int x_letters, .int x_at, .ref ax_read, .ref ax_undone, .int x_undos, .ref ax_order, .ref ax_dones, .int x_away, .int x_bestSet, .ref ax_aside, .ref ax_tapedWho, .ref ax_tapedTill, .int x_taped, .ref ax_kept, .int x_keeps])), (ax_row, .inl (cyI, 28, .inl x_row))]) (wr := [(ax_tapedWho, .inl (cyI, 8, .inl x_tapedWho)), (ax_tapedTill, .inl (cyI, 8, .inl x_tapedTill))]) (w1 := [(ax, .inr (7, [.ref ax_row, .ref ax_text, .int x_letters, .int x_at, .ref ax_read, .ref ax_undone, .int x_undos, .ref ax_order, .ref ax_dones, .int x_away, .int x_bestSet, .ref ax_aside, .ref ax_tapedWho, .ref ax_tapedTill, .int x_taped, .ref ax_kept, .int x_keeps])), (ax_row, .inl (cyI, 28, .inl x_row))]) (wn := [(ax, .inr (7, [.ref ax_row, .ref ax_text, .int x_letters, .int x_at, .ref ax_read, .ref ax_undone, .int x_undos, .ref ax_order, .ref ax_dones, .int x_away, .int x_bestSet, .ref ax_aside, .ref ax_tapedWho, .ref ax_tapedTill, .int x_taped, .ref ax_kept, .int x_keeps])), (ax_row, .inl (cyI, 28, .inl x_row)), (ax_tapedWho, .inl (cyI, 8, .inl x_tapedWho)), (ax_tapedTill, .inl (cyI, 8, .inl x_tapedTill))]) (va_runV (As := [.int i1]) (rest := []) ⟨hx, hb, hml, hown, hts⟩ (c_X7_isPerson l D cyI cyC cyS H.size ax ax_row ax_text ax_read ax_undone ax_order ax_dones ax_aside ax_tapedWho ax_tapedTill ax_kept x_letters x_at x_undos x_away x_bestSet x_taped x_keeps x_row i1 q2) (cwV 1 hts gX7_tape_X7_isPerson rfl rfl rfl (by decide +kernel) ⟨Nat.le_of_ble_eq_true rfl, Nat.le_of_ble_eq_true rfl⟩) (preV (ci := 7) hK (hP.subm (ws' := [(ax, .inr (7, [.ref ax_row, .ref ax_text, .int x_letters, .int x_at, .ref ax_read, .ref ax_undone, .int x_undos, .ref ax_order, .ref ax_dones, .int x_away, .int x_bestSet, .ref ax_aside, .ref ax_tapedWho, .ref ax_tapedTill, .int x_taped, .ref ax_kept, .int x_keeps])), (ax_row, .inl (cyI, 28, .inl x_row))]) [0, 1] rfl) (hD.sub (ws' := [(ax, .inr (7, [.ref ax_row, .ref ax_text, .int x_letters, .int x_at, .ref ax_read, .ref ax_undone, .int x_undos, .ref ax_order, .ref ax_dones, .int x_away, .int x_bestSet, .ref ax_aside, .ref ax_tapedWho, .ref ax_tapedTill, .int x_taped, .ref ax_kept, .int x_keeps])), (ax_row, .inl (cyI, 28, .inl x_row))]) [0, 1] (by decide) rfl) rfl rfl) rfl rfl hl.1 rfl (lv_room (Nat.le_of_ble_eq_true rfl)) dX7_tape_2 ⟨Nat.le_of_ble_eq_true rfl, Nat.le_of_ble_eq_true rfl⟩) hP hD hS hA [0, 1] [2, 3] [2, 3, 0, 1] rfl rfl rfl (by decide) (by decide) (by decide) (fun H locs hP hD hS => ?_)
  refine lv_if_eq (tgt := 18) hx hb dX7_tape_5 (by decide) (fun c5 => ?_) (fun c5 => ?_)
  · replace hf := ip c5 hf
    refine lv_iconst (v := -1) hx hb dX7_tape_18 (by decide) ?_
    simp only [Option.some.injEq, Prod.mk.injEq] at hf
    obtain ⟨rfl, rfl, rfl, rfl⟩ := hf
    exact W.iret hx hb hr (fun t ht hW => ⟨⟨_, (), rfl, rfl, by rw [ht]; exact hP, hD⟩, hS.F ht⟩) hS.2.2 dX7_tape_19
  · replace hf := iq c5 hf
    refine lv_iload_n hx hb dX7_tape_8 rfl (lv_at hl 2 rfl) ?_
    refine lv_i2l (v := i2.toInt64) hx hb dX7_tape_9 rfl ?_
    refine lv_lconst (v := 0) hx hb dX7_tape_10 (by decide) ?_
    refine lv_lconst (v := 1) hx hb dX7_tape_11 (by decide) ?_
    obtain ⟨r12, q12, hf⟩ := ob hf
    refine k_i (wc := []) (wr := [(ax, .inr (7, [.ref ax_row, .ref ax_text, .int x_letters, .int x_at, .ref ax_read, .ref ax_undone, .int x_undos, .ref ax_order, .ref ax_dones, .int x_away, .int x_bestSet, .ref ax_aside, .ref ax_tapedWho, .ref ax_tapedTill, .int x_taped, .ref ax_kept, .int x_keeps])), (ax_row, .inl (cyI, 28, .inl x_row)), (ax_tapedWho, .inl (cyI, 8, .inl x_tapedWho)), (ax_tapedTill, .inl (cyI, 8, .inl x_tapedTill))]) (w1 := []) (wn := [(ax, .inr (7, [.ref ax_row, .ref ax_text, .int x_letters, .int x_at, .ref ax_read, .ref ax_undone, .int x_undos, .ref ax_order, .ref ax_dones, .int x_away, .int x_bestSet, .ref ax_aside, .ref ax_tapedWho, .ref ax_tapedTill, .int x_taped, .ref ax_kept, .int x_keeps])), (ax_row, .inl (cyI, 28, .inl x_row)), (ax_tapedWho, .inl (cyI, 8, .inl x_tapedWho)), (ax_tapedTill, .inl (cyI, 8, .inl x_tapedTill))]) (va_runS (As := [.long i2.toInt64, .long (0 : Int64), .long (1 : Int64)]) (rest := []) ⟨hx, hb, hml, hown, hts⟩ (c_X7_in l D cyI cyC cyS H.size i2.toInt64 (0 : Int64) (1 : Int64) q12) (va_cwS 3 hts gX7_tape_X7_in rfl rfl rfl (by decide +kernel) ⟨Nat.le_of_ble_eq_true rfl, Nat.le_of_ble_eq_true rfl⟩) (preS hK (hP.subm (ws' := []) [] rfl) (hD.sub (ws' := []) [] (by decide) rfl)) rfl rfl hl.1 rfl (lv_room (Nat.le_of_ble_eq_true rfl)) dX7_tape_12 ⟨Nat.le_of_ble_eq_true rfl, Nat.le_of_ble_eq_true rfl⟩) hP hD hS hA [] [0, 1, 2, 3] [0, 1, 2, 3] rfl rfl rfl (by decide) (by decide) (by decide) (fun H locs hP hD hS => ?_)
    refine lv_if_ne (tgt := 20) hx hb dX7_tape_15 (by decide) (fun c15 => ?_) (fun c15 => ?_)
    · replace hf := iq c15 hf
      refine lv_aload_n hx hb dX7_tape_20 rfl (lv_at hl 0 rfl) ?_
      refine va_get (C := RX7) (T := TX7) (N := 17) hx hb hts inX7 hown hK.1 hP 0 rfl rfl 14 (by decide) f88 (fun _ h9 => h9) rfl dX7_tape_21 ?_
      refine lv_bipush (v := 8) hx hb dX7_tape_24 (by decide) ?_
      refine lv_icmp_ne (tgt := 32) hx hb dX7_tape_26 (by decide) (fun c26 => ?_) (fun c26 => ?_)
      · replace hf := iq c26 hf
        refine lv_aload_n hx hb dX7_tape_32 rfl (lv_at hl 0 rfl) ?_
        refine va_get (C := RX7) (T := TX7) (N := 17) hx hb hts inX7 hown hK.1 hP 0 rfl rfl 12 (by decide) f31 (fun _ h9 => h9) rfl dX7_tape_33 ?_
        refine lv_aload_n hx hb dX7_tape_36 rfl (lv_at hl 0 rfl) ?_
        refine va_get (C := RX7) (T := TX7) (N := 17) hx hb hts inX7 hown hK.1 hP 0 rfl rfl 14 (by decide) f88 (fun _ h9 => h9) rfl dX7_tape_37 ?_
        refine lv_iload_n hx hb dX7_tape_40 rfl (lv_at hl 1 rfl) ?_
        obtain ⟨z41, hf⟩ := oi hf
        refine a_ist (wn := [(ax, .inr (7, [.ref ax_row, .ref ax_text, .int x_letters, .int x_at, .ref ax_read, .ref ax_undone, .int x_undos, .ref ax_order, .ref ax_dones, .int x_away, .int x_bestSet, .ref ax_aside, .ref ax_tapedWho, .ref ax_tapedTill, .int x_taped, .ref ax_kept, .int x_keeps])), (ax_row, .inl (cyI, 28, .inl x_row)), (ax_tapedWho, .inl (cyI, 8, .inl (upd x_tapedWho x_taped.toNatClampNeg i1))), (ax_tapedTill, .inl (cyI, 8, .inl x_tapedTill))]) hx hb hK hP hD hS 2 rfl z41 x_taped.toNatClampNeg rfl rfl dX7_tape_41 (fun H locs hP hD hS => ?_)
        refine lv_aload_n hx hb dX7_tape_42 rfl (lv_at hl 0 rfl) ?_
        refine va_get (C := RX7) (T := TX7) (N := 17) hx hb hts inX7 hown hK.1 hP 0 rfl rfl 13 (by decide) f34 (fun _ h9 => h9) rfl dX7_tape_43 ?_
        refine lv_aload_n hx hb dX7_tape_46 rfl (lv_at hl 0 rfl) ?_
        refine va_get (C := RX7) (T := TX7) (N := 17) hx hb hts inX7 hown hK.1 hP 0 rfl rfl 14 (by decide) f88 (fun _ h9 => h9) rfl dX7_tape_47 ?_
        refine lv_iload_n hx hb dX7_tape_50 rfl (lv_at hl 2 rfl) ?_
        obtain ⟨z51, hf⟩ := oi hf
        refine a_ist (wn := [(ax, .inr (7, [.ref ax_row, .ref ax_text, .int x_letters, .int x_at, .ref ax_read, .ref ax_undone, .int x_undos, .ref ax_order, .ref ax_dones, .int x_away, .int x_bestSet, .ref ax_aside, .ref ax_tapedWho, .ref ax_tapedTill, .int x_taped, .ref ax_kept, .int x_keeps])), (ax_row, .inl (cyI, 28, .inl x_row)), (ax_tapedWho, .inl (cyI, 8, .inl (upd x_tapedWho x_taped.toNatClampNeg i1))), (ax_tapedTill, .inl (cyI, 8, .inl (upd x_tapedTill x_taped.toNatClampNeg i2)))]) hx hb hK hP hD hS 3 rfl z51 x_taped.toNatClampNeg rfl rfl dX7_tape_51 (fun H locs hP hD hS => ?_)
        refine lv_aload_n hx hb dX7_tape_52 rfl (lv_at hl 0 rfl) ?_
        refine lv_dup hx hb dX7_tape_53 rfl ?_
        refine va_get (C := RX7) (T := TX7) (N := 17) hx hb hts inX7 hown hK.1 hP 0 rfl rfl 14 (by decide) f88 (fun _ h9 => h9) rfl dX7_tape_54 ?_
        refine lv_iconst (v := 1) hx hb dX7_tape_57 (by decide) ?_
        refine lv_iadd hx hb dX7_tape_58 ?_
        refine a_put (C := RX7) (T := TX7) (N := 17) (wn := [(ax, .inr (7, [.ref ax_row, .ref ax_text, .int x_letters, .int x_at, .ref ax_read, .ref ax_undone, .int x_undos, .ref ax_order, .ref ax_dones, .int x_away, .int x_bestSet, .ref ax_aside, .ref ax_tapedWho, .ref ax_tapedTill, .int (x_taped + (1 : Int32)), .ref ax_kept, .int x_keeps])), (ax_row, .inl (cyI, 28, .inl x_row)), (ax_tapedWho, .inl (cyI, 8, .inl (upd x_tapedWho x_taped.toNatClampNeg i1))), (ax_tapedTill, .inl (cyI, 8, .inl (upd x_tapedTill x_taped.toNatClampNeg i2)))]) hx hb hts inX7 tyX7 tyX7_ok nmX7 hown hK hP hD hS 0 rfl rfl 14 (by decide) f88 (fun _ h9 => h9) rfl rfl (Nat.le_of_ble_eq_true rfl) rfl dX7_tape_59 (fun H locs hP hD hS => ?_)
        refine lv_aload_n hx hb dX7_tape_62 rfl (lv_at hl 0 rfl) ?_
        refine va_get (C := RX7) (T := TX7) (N := 17) hx hb hts inX7 hown hK.1 hP 0 rfl rfl 14 (by decide) f88 (fun _ h9 => h9) rfl dX7_tape_63 ?_
        simp only [Option.some.injEq, Prod.mk.injEq] at hf
        obtain ⟨rfl, rfl, rfl, rfl⟩ := hf
        exact W.iret hx hb hr (fun t ht hW => ⟨⟨_, (), rfl, rfl, by rw [ht]; exact hP, hD⟩, hS.F ht⟩) hS.2.2 dX7_tape_66
      · replace hf := ip c26 hf
        refine lv_bipush (v := -3) hx hb dX7_tape_29 (by decide) ?_
        simp only [Option.some.injEq, Prod.mk.injEq] at hf
        obtain ⟨rfl, rfl, rfl, rfl⟩ := hf
        exact W.iret hx hb hr (fun t ht hW => ⟨⟨_, (), rfl, rfl, by rw [ht]; exact hP, hD⟩, hS.F ht⟩) hS.2.2 dX7_tape_31
    · replace hf := ip c15 hf
      refine lv_iconst (v := -1) hx hb dX7_tape_18 (by decide) ?_
      simp only [Option.some.injEq, Prod.mk.injEq] at hf
      obtain ⟨rfl, rfl, rfl, rfl⟩ := hf
      exact W.iret hx hb hr (fun t ht hW => ⟨⟨_, (), rfl, rfl, by rw [ht]; exact hP, hD⟩, hS.F ht⟩) hS.2.2 dX7_tape_19
abbrev rX7_forget : Room := { frames := 0, cells := 0, slots := 0, locals := 0 }
set_option maxHeartbeats 4000000 in
set_option maxRecDepth 100000 in
theorem c_X7_forget (l : Launch) (D : va_G) (cyI cyC cyS : ClassId) (sz : Nat) (ax : Nat) (ax_row : Nat) (ax_text : Nat) (ax_read : Nat) (ax_undone : Nat) (ax_order : Nat) (ax_dones : Nat) (ax_aside : Nat) (ax_tapedWho : Nat) (ax_tapedTill : Nat) (ax_kept : Nat) (x_letters : Int32) (x_at : Int32) (x_undos : Int32) (x_away : Int32) (x_bestSet : Int32) (x_taped : Int32) (x_keeps : Int32) {r : Int32} {o_x_taped : Int32} (hf : S_X7_forget x_taped = some (r, o_x_taped)) : Met l yX7_forget wsX7_forget rX7_forget (Cpre [.ref ax] D cyI cyC cyS sz [(ax, .inr (7, [.ref ax_row, .ref ax_text, .int x_letters, .int x_at, .ref ax_read, .ref ax_undone, .int x_undos, .ref ax_order, .ref ax_dones, .int x_away, .int x_bestSet, .ref ax_aside, .ref ax_tapedWho, .ref ax_tapedTill, .int x_taped, .ref ax_kept, .int x_keeps]))]) (CQi r D [(ax, .inr (7, [.ref ax_row, .ref ax_text, .int x_letters, .int x_at, .ref ax_read, .ref ax_undone, .int x_undos, .ref ax_order, .ref ax_dones, .int x_away, .int x_bestSet, .ref ax_aside, .ref ax_tapedWho, .ref ax_tapedTill, .int o_x_taped, .ref ax_kept, .int x_keeps]))] (va_A [(ax, .inr (7, [.ref ax_row, .ref ax_text, .int x_letters, .int x_at, .ref ax_read, .ref ax_undone, .int x_undos, .ref ax_order, .ref ax_dones, .int x_away, .int x_bestSet, .ref ax_aside, .ref ax_tapedWho, .ref ax_tapedTill, .int x_taped, .ref ax_kept, .int x_keeps]))] sz)) 0 0 (va_A [(ax, .inr (7, [.ref ax_row, .ref ax_text, .int x_letters, .int x_at, .ref ax_read, .ref ax_undone, .int x_undos, .ref ax_order, .ref ax_dones, .int x_away, .int x_bestSet, .ref ax_aside, .ref ax_tapedWho, .ref ax_tapedTill, .int x_taped, .ref ax_kept, .int x_keeps]))] sz) := by
  refine Met.ofW (cc := cX7_forget) (maxL := 2) (ret := (some .int)) (by decide) rfl ?_
  intro p e s m args below meth c s₁ B hml hv
  obtain ⟨rfl, hsz, hP, hK, hD0⟩ := hv
  have hx := B.exec
  have hb := B.bytes
  have hr := B.returns
  have hts := atoms_spec (ws := wsX7_forget) B.pre
  have hown : s.vm.findClass RX7 = some m.cls := findClass_of_methodNamed B.named
  have hlocks := B.notSynchronized
  subst hsz
  have hD := hD0.self (sz := s.heap.size)
  generalize hAe : va_A [(ax, .inr (7, [.ref ax_row, .ref ax_text, .int x_letters, .int x_at, .ref ax_read, .ref ax_undone, .int x_undos, .ref ax_order, .ref ax_dones, .int x_away, .int x_bestSet, .ref ax_aside, .ref ax_tapedWho, .ref ax_tapedTill, .int x_taped, .ref ax_kept, .int x_keeps]))] s.heap.size = A at hD ⊢
  have hA : ∀ q : Nat, s.heap.size ≤ q → A q := fun q h => by rw [← hAe]; exact Or.inr h
  have hS : va_S A s.heap s.heap [] := va_S.rf
  have hl := lv_entry ([.ref ax]) (n := 2) (Nat.le_of_ble_eq_true rfl)
  rw [lg_entry_eq]
  generalize (lg_sl ([.ref ax]) ++ List.replicate (2 - (lg_sl ([.ref ax])).length) Slot.unset).toArray = ls at hl ⊢
  have hl : lv_has ls 2 [(0, .ref ax)] := hl
  have f88 := hts (.fieldLink RX7 88 "SecondTillModel" "taped" "I") (by decide +kernel)
  have inX7 : ∀ w ∈ u_ws RX7 TX7 17, w ∈ wsX7_forget := by decide +kernel
  unfold S_X7_forget at hf
  have hP : va_P D vwCl [(ax, .inr (7, [.ref ax_row, .ref ax_text, .int x_letters, .int x_at, .ref ax_read, .ref ax_undone, .int x_undos, .ref ax_order, .ref ax_dones, .int x_away, .int x_bestSet, .ref ax_aside, .ref ax_tapedWho, .ref ax_tapedTill, .int x_taped, .ref ax_kept, .int x_keeps]))] s.heap := hP
  suffices hgo : ∀ (H : Heap) (locs : List Loc), va_P D vwCl [(ax, .inr (7, [.ref ax_row, .ref ax_text, .int x_letters, .int x_at, .ref ax_read, .ref ax_undone, .int x_undos, .ref ax_order, .ref ax_dones, .int x_away, .int x_bestSet, .ref ax_aside, .ref ax_tapedWho, .ref ax_tapedTill, .int x_taped, .ref ax_kept, .int x_keeps]))] H → va_S A s.heap H locs → W p l e rX7_forget s m (([.ref ax] : List Value).toArray) below meth c H locs 0 0 (MQ below (CQi r D [(ax, .inr (7, [.ref ax_row, .ref ax_text, .int x_letters, .int x_at, .ref ax_read, .ref ax_undone, .int x_undos, .ref ax_order, .ref ax_dones, .int x_away, .int x_bestSet, .ref ax_aside, .ref ax_tapedWho, .ref ax_tapedTill, .int o_x_taped, .ref ax_kept, .int x_keeps]))] A) (([.ref ax] : List Value).toArray) s 0 0 A) (F0 m 0 ls []) from hgo _ _ hP hS
  clear hP hS
  intro H locs hP hS
  refine lv_aload_n hx hb dX7_forget_0 rfl (lv_at hl 0 rfl) ?_
  refine va_get (C := RX7) (T := TX7) (N := 17) hx hb hts inX7 hown hK.1 hP 0 rfl rfl 14 (by decide) f88 (fun _ h9 => h9) rfl dX7_forget_1 ?_
  refine lv_istore_n (lv' := [(1, .int x_taped), (0, .ref ax)]) hx hb dX7_forget_4 rfl hl (by decide) rfl (fun ls hl => ?_)
  refine lv_aload_n hx hb dX7_forget_5 rfl (lv_at hl 1 rfl) ?_
  refine lv_iconst (v := 0) hx hb dX7_forget_6 (by decide) ?_
  refine a_put (C := RX7) (T := TX7) (N := 17) (wn := [(ax, .inr (7, [.ref ax_row, .ref ax_text, .int x_letters, .int x_at, .ref ax_read, .ref ax_undone, .int x_undos, .ref ax_order, .ref ax_dones, .int x_away, .int x_bestSet, .ref ax_aside, .ref ax_tapedWho, .ref ax_tapedTill, .int (0 : Int32), .ref ax_kept, .int x_keeps]))]) hx hb hts inX7 tyX7 tyX7_ok nmX7 hown hK hP hD hS 0 rfl rfl 14 (by decide) f88 (fun _ h9 => h9) rfl rfl (Nat.le_of_ble_eq_true rfl) rfl dX7_forget_7 (fun H locs hP hD hS => ?_)
  refine lv_iload_n hx hb dX7_forget_10 rfl (lv_at hl 0 rfl) ?_
  simp only [Option.some.injEq, Prod.mk.injEq] at hf
  obtain ⟨rfl, rfl⟩ := hf
  exact W.iret hx hb hr (fun t ht hW => ⟨⟨_, (), rfl, rfl, by rw [ht]; exact hP, hD⟩, hS.F ht⟩) hS.2.2 dX7_forget_11
abbrev rX7_kinds : Room := { frames := 4, cells := 0, slots := 0, locals := 91 }
set_option maxHeartbeats 4000000 in
set_option maxRecDepth 100000 in
theorem c_X7_kinds (l : Launch) (D : va_G) (cyI cyC cyS : ClassId) (sz : Nat) (ax : Nat) (ax_row : Nat) (ax_text : Nat) (ax_read : Nat) (ax_undone : Nat) (ax_order : Nat) (ax_dones : Nat) (ax_aside : Nat) (ax_tapedWho : Nat) (ax_tapedTill : Nat) (ax_kept : Nat) (x_letters : Int32) (x_at : Int32) (x_undos : Int32) (x_away : Int32) (x_bestSet : Int32) (x_taped : Int32) (x_keeps : Int32) (x_row : Nat → Int32) (x_order : Nat → Int32) (x_dones : Nat → Int32) (x_tapedWho : Nat → Int32) (x_tapedTill : Nat → Int32) (i1 : Int32) {r : Int32} {o_x_away : Int32} {o_x_row : Nat → Int32} {o_x_order : Nat → Int32} {o_x_dones : Nat → Int32} (hf : S_X7_kinds i1 x_away x_taped x_row x_order x_dones x_tapedWho x_tapedTill = some (r, o_x_away, o_x_row, o_x_order, o_x_dones)) : Met l yX7_kinds wsX7_kinds rX7_kinds (Cpre [.ref ax, .int i1] D cyI cyC cyS sz [(ax, .inr (7, [.ref ax_row, .ref ax_text, .int x_letters, .int x_at, .ref ax_read, .ref ax_undone, .int x_undos, .ref ax_order, .ref ax_dones, .int x_away, .int x_bestSet, .ref ax_aside, .ref ax_tapedWho, .ref ax_tapedTill, .int x_taped, .ref ax_kept, .int x_keeps])), (ax_row, .inl (cyI, 28, .inl x_row)), (ax_order, .inl (cyI, 8, .inl x_order)), (ax_dones, .inl (cyI, 8, .inl x_dones)), (ax_tapedWho, .inl (cyI, 8, .inl x_tapedWho)), (ax_tapedTill, .inl (cyI, 8, .inl x_tapedTill))]) (CQi r D [(ax, .inr (7, [.ref ax_row, .ref ax_text, .int x_letters, .int x_at, .ref ax_read, .ref ax_undone, .int x_undos, .ref ax_order, .ref ax_dones, .int o_x_away, .int x_bestSet, .ref ax_aside, .ref ax_tapedWho, .ref ax_tapedTill, .int x_taped, .ref ax_kept, .int x_keeps])), (ax_row, .inl (cyI, 28, .inl o_x_row)), (ax_order, .inl (cyI, 8, .inl o_x_order)), (ax_dones, .inl (cyI, 8, .inl o_x_dones)), (ax_tapedWho, .inl (cyI, 8, .inl x_tapedWho)), (ax_tapedTill, .inl (cyI, 8, .inl x_tapedTill))] (va_A [(ax, .inr (7, [.ref ax_row, .ref ax_text, .int x_letters, .int x_at, .ref ax_read, .ref ax_undone, .int x_undos, .ref ax_order, .ref ax_dones, .int x_away, .int x_bestSet, .ref ax_aside, .ref ax_tapedWho, .ref ax_tapedTill, .int x_taped, .ref ax_kept, .int x_keeps])), (ax_row, .inl (cyI, 28, .inl x_row)), (ax_order, .inl (cyI, 8, .inl x_order)), (ax_dones, .inl (cyI, 8, .inl x_dones)), (ax_tapedWho, .inl (cyI, 8, .inl x_tapedWho)), (ax_tapedTill, .inl (cyI, 8, .inl x_tapedTill))] sz)) 0 0 (va_A [(ax, .inr (7, [.ref ax_row, .ref ax_text, .int x_letters, .int x_at, .ref ax_read, .ref ax_undone, .int x_undos, .ref ax_order, .ref ax_dones, .int x_away, .int x_bestSet, .ref ax_aside, .ref ax_tapedWho, .ref ax_tapedTill, .int x_taped, .ref ax_kept, .int x_keeps])), (ax_row, .inl (cyI, 28, .inl x_row)), (ax_order, .inl (cyI, 8, .inl x_order)), (ax_dones, .inl (cyI, 8, .inl x_dones)), (ax_tapedWho, .inl (cyI, 8, .inl x_tapedWho)), (ax_tapedTill, .inl (cyI, 8, .inl x_tapedTill))] sz) := by
  refine Met.ofW (cc := cX7_kinds) (maxL := 7) (ret := (some .int)) (by decide) rfl ?_
  intro p e s m args below meth c s₁ B hml hv
  obtain ⟨rfl, hsz, hP, hK, hD0⟩ := hv
  have hx := B.exec
  have hb := B.bytes
  have hr := B.returns
  have hts := atoms_spec (ws := wsX7_kinds) B.pre
  have hown : s.vm.findClass RX7 = some m.cls := findClass_of_methodNamed B.named
  have hlocks := B.notSynchronized
  subst hsz
  have hD := hD0.self (sz := s.heap.size)
  generalize hAe : va_A [(ax, .inr (7, [.ref ax_row, .ref ax_text, .int x_letters, .int x_at, .ref ax_read, .ref ax_undone, .int x_undos, .ref ax_order, .ref ax_dones, .int x_away, .int x_bestSet, .ref ax_aside, .ref ax_tapedWho, .ref ax_tapedTill, .int x_taped, .ref ax_kept, .int x_keeps])), (ax_row, .inl (cyI, 28, .inl x_row)), (ax_order, .inl (cyI, 8, .inl x_order)), (ax_dones, .inl (cyI, 8, .inl x_dones)), (ax_tapedWho, .inl (cyI, 8, .inl x_tapedWho)), (ax_tapedTill, .inl (cyI, 8, .inl x_tapedTill))] s.heap.size = A at hD ⊢
  have hA : ∀ q : Nat, s.heap.size ≤ q → A q := fun q h => by rw [← hAe]; exact Or.inr h
  have hS : va_S A s.heap s.heap [] := va_S.rf
  have hl := lv_entry ([.ref ax, .int i1]) (n := 7) (Nat.le_of_ble_eq_true rfl)
  rw [lg_entry_eq]
  generalize (lg_sl ([.ref ax, .int i1]) ++ List.replicate (7 - (lg_sl ([.ref ax, .int i1])).length) Slot.unset).toArray = ls at hl ⊢
  have hl : lv_has ls 7 [(0, .ref ax), (1, .int i1)] := hl
  have f7 := hts (.fieldLink RX7 7 "SecondTillModel" "row" "[I") (by decide +kernel)
  have inX7 : ∀ w ∈ u_ws RX7 TX7 17, w ∈ wsX7_kinds := by decide +kernel
  have f88 := hts (.fieldLink RX7 88 "SecondTillModel" "taped" "I") (by decide +kernel)
  have f119 := hts (.fieldLink RX7 119 "SecondTillModel" "away" "I") (by decide +kernel)
  have f31 := hts (.fieldLink RX7 31 "SecondTillModel" "tapedWho" "[I") (by decide +kernel)
  have f34 := hts (.fieldLink RX7 34 "SecondTillModel" "tapedTill" "[I") (by decide +kernel)
  unfold S_X7_kinds at hf
  have hP : va_P D vwCl [(ax, .inr (7, [.ref ax_row, .ref ax_text, .int x_letters, .int x_at, .ref ax_read, .ref ax_undone, .int x_undos, .ref ax_order, .ref ax_dones, .int x_away, .int x_bestSet, .ref ax_aside, .ref ax_tapedWho, .ref ax_tapedTill, .int x_taped, .ref ax_kept, .int x_keeps])), (ax_row, .inl (cyI, 28, .inl x_row)), (ax_order, .inl (cyI, 8, .inl x_order)), (ax_dones, .inl (cyI, 8, .inl x_dones)), (ax_tapedWho, .inl (cyI, 8, .inl x_tapedWho)), (ax_tapedTill, .inl (cyI, 8, .inl x_tapedTill))] s.heap := hP
  suffices hgo : ∀ (H : Heap) (locs : List Loc), va_P D vwCl [(ax, .inr (7, [.ref ax_row, .ref ax_text, .int x_letters, .int x_at, .ref ax_read, .ref ax_undone, .int x_undos, .ref ax_order, .ref ax_dones, .int x_away, .int x_bestSet, .ref ax_aside, .ref ax_tapedWho, .ref ax_tapedTill, .int x_taped, .ref ax_kept, .int x_keeps])), (ax_row, .inl (cyI, 28, .inl x_row)), (ax_order, .inl (cyI, 8, .inl x_order)), (ax_dones, .inl (cyI, 8, .inl x_dones)), (ax_tapedWho, .inl (cyI, 8, .inl x_tapedWho)), (ax_tapedTill, .inl (cyI, 8, .inl x_tapedTill))] H → va_S A s.heap H locs → W p l e rX7_kinds s m (([.ref ax, .int i1] : List Value).toArray) below meth c H locs 0 0 (MQ below (CQi r D [(ax, .inr (7, [.ref ax_row, .ref ax_text, .int x_letters, .int x_at, .ref ax_read, .ref ax_undone, .int x_undos, .ref ax_order, .ref ax_dones, .int o_x_away, .int x_bestSet, .ref ax_aside, .ref ax_tapedWho, .ref ax_tapedTill, .int x_taped, .ref ax_kept, .int x_keeps])), (ax_row, .inl (cyI, 28, .inl o_x_row)), (ax_order, .inl (cyI, 8, .inl o_x_order)), (ax_dones, .inl (cyI, 8, .inl o_x_dones)), (ax_tapedWho, .inl (cyI, 8, .inl x_tapedWho)), (ax_tapedTill, .inl (cyI, 8, .inl x_tapedTill))] A) (([.ref ax, .int i1] : List Value).toArray) s 0 0 A) (F0 m 0 ls []) from hgo _ _ hP hS
  clear hP hS
  intro H locs hP hS
  refine lv_aload_n hx hb dX7_kinds_0 rfl (lv_at hl 0 rfl) ?_
  refine lv_iload_n hx hb dX7_kinds_1 rfl (lv_at hl 1 rfl) ?_
  obtain ⟨r2, q2, hf⟩ := ob hf
  refine k_i (wc := [(ax, .inr (7, [.ref ax_row, .ref ax_text, .int x_letters, .int x_at, .ref ax_read, .ref ax_undone, .int x_undos, .ref ax_order, .ref ax_dones, .int x_away, .int x_bestSet, .ref ax_aside, .ref ax_tapedWho, .ref ax_tapedTill, .int x_taped, .ref ax_kept, .int x_keeps])), (ax_row, .inl (cyI, 28, .inl x_row))]) (wr := [(ax_order, .inl (cyI, 8, .inl x_order)), (ax_dones, .inl (cyI, 8, .inl x_dones)), (ax_tapedWho, .inl (cyI, 8, .inl x_tapedWho)), (ax_tapedTill, .inl (cyI, 8, .inl x_tapedTill))]) (w1 := [(ax, .inr (7, [.ref ax_row, .ref ax_text, .int x_letters, .int x_at, .ref ax_read, .ref ax_undone, .int x_undos, .ref ax_order, .ref ax_dones, .int x_away, .int x_bestSet, .ref ax_aside, .ref ax_tapedWho, .ref ax_tapedTill, .int x_taped, .ref ax_kept, .int x_keeps])), (ax_row, .inl (cyI, 28, .inl x_row))]) (wn := [(ax, .inr (7, [.ref ax_row, .ref ax_text, .int x_letters, .int x_at, .ref ax_read, .ref ax_undone, .int x_undos, .ref ax_order, .ref ax_dones, .int x_away, .int x_bestSet, .ref ax_aside, .ref ax_tapedWho, .ref ax_tapedTill, .int x_taped, .ref ax_kept, .int x_keeps])), (ax_row, .inl (cyI, 28, .inl x_row)), (ax_order, .inl (cyI, 8, .inl x_order)), (ax_dones, .inl (cyI, 8, .inl x_dones)), (ax_tapedWho, .inl (cyI, 8, .inl x_tapedWho)), (ax_tapedTill, .inl (cyI, 8, .inl x_tapedTill))]) (va_runV (As := [.int i1]) (rest := []) ⟨hx, hb, hml, hown, hts⟩ (c_X7_isPerson l D cyI cyC cyS H.size ax ax_row ax_text ax_read ax_undone ax_order ax_dones ax_aside ax_tapedWho ax_tapedTill ax_kept x_letters x_at x_undos x_away x_bestSet x_taped x_keeps x_row i1 q2) (cwV 1 hts gX7_kinds_X7_isPerson rfl rfl rfl (by decide +kernel) ⟨Nat.le_of_ble_eq_true rfl, Nat.le_of_ble_eq_true rfl⟩) (preV (ci := 7) hK (hP.subm (ws' := [(ax, .inr (7, [.ref ax_row, .ref ax_text, .int x_letters, .int x_at, .ref ax_read, .ref ax_undone, .int x_undos, .ref ax_order, .ref ax_dones, .int x_away, .int x_bestSet, .ref ax_aside, .ref ax_tapedWho, .ref ax_tapedTill, .int x_taped, .ref ax_kept, .int x_keeps])), (ax_row, .inl (cyI, 28, .inl x_row))]) [0, 1] rfl) (hD.sub (ws' := [(ax, .inr (7, [.ref ax_row, .ref ax_text, .int x_letters, .int x_at, .ref ax_read, .ref ax_undone, .int x_undos, .ref ax_order, .ref ax_dones, .int x_away, .int x_bestSet, .ref ax_aside, .ref ax_tapedWho, .ref ax_tapedTill, .int x_taped, .ref ax_kept, .int x_keeps])), (ax_row, .inl (cyI, 28, .inl x_row))]) [0, 1] (by decide) rfl) rfl rfl) rfl rfl hl.1 rfl (lv_room (Nat.le_of_ble_eq_true rfl)) dX7_kinds_2 ⟨Nat.le_of_ble_eq_true rfl, Nat.le_of_ble_eq_true rfl⟩) hP hD hS hA [0, 1] [2, 3, 4, 5] [4, 5, 0, 1, 2, 3] rfl rfl rfl (by decide) (by decide) (by decide) (fun H locs hP hD hS => ?_)
  refine lv_if_ne (tgt := 10) hx hb dX7_kinds_5 (by decide) (fun c5 => ?_) (fun c5 => ?_)
  · replace hf := iq c5 hf
    refine lv_aload_n hx hb dX7_kinds_10 rfl (lv_at hl 0 rfl) ?_
    refine lv_iload_n hx hb dX7_kinds_11 rfl (lv_at hl 1 rfl) ?_
    obtain ⟨r12, q12, hf⟩ := ob hf
    refine k_i (wc := [(ax, .inr (7, [.ref ax_row, .ref ax_text, .int x_letters, .int x_at, .ref ax_read, .ref ax_undone, .int x_undos, .ref ax_order, .ref ax_dones, .int x_away, .int x_bestSet, .ref ax_aside, .ref ax_tapedWho, .ref ax_tapedTill, .int x_taped, .ref ax_kept, .int x_keeps])), (ax_row, .inl (cyI, 28, .inl x_row))]) (wr := [(ax_order, .inl (cyI, 8, .inl x_order)), (ax_dones, .inl (cyI, 8, .inl x_dones)), (ax_tapedWho, .inl (cyI, 8, .inl x_tapedWho)), (ax_tapedTill, .inl (cyI, 8, .inl x_tapedTill))]) (w1 := [(ax, .inr (7, [.ref ax_row, .ref ax_text, .int x_letters, .int x_at, .ref ax_read, .ref ax_undone, .int x_undos, .ref ax_order, .ref ax_dones, .int x_away, .int x_bestSet, .ref ax_aside, .ref ax_tapedWho, .ref ax_tapedTill, .int x_taped, .ref ax_kept, .int x_keeps])), (ax_row, .inl (cyI, 28, .inl x_row))]) (wn := [(ax, .inr (7, [.ref ax_row, .ref ax_text, .int x_letters, .int x_at, .ref ax_read, .ref ax_undone, .int x_undos, .ref ax_order, .ref ax_dones, .int x_away, .int x_bestSet, .ref ax_aside, .ref ax_tapedWho, .ref ax_tapedTill, .int x_taped, .ref ax_kept, .int x_keeps])), (ax_row, .inl (cyI, 28, .inl x_row)), (ax_order, .inl (cyI, 8, .inl x_order)), (ax_dones, .inl (cyI, 8, .inl x_dones)), (ax_tapedWho, .inl (cyI, 8, .inl x_tapedWho)), (ax_tapedTill, .inl (cyI, 8, .inl x_tapedTill))]) (va_runV (As := [.int i1]) (rest := []) ⟨hx, hb, hml, hown, hts⟩ (c_X7_kind l D cyI cyC cyS H.size ax ax_row ax_text ax_read ax_undone ax_order ax_dones ax_aside ax_tapedWho ax_tapedTill ax_kept x_letters x_at x_undos x_away x_bestSet x_taped x_keeps x_row i1 q12) (cwV 1 hts gX7_kinds_X7_kind rfl rfl rfl (by decide +kernel) ⟨Nat.le_of_ble_eq_true rfl, Nat.le_of_ble_eq_true rfl⟩) (preV (ci := 7) hK (hP.subm (ws' := [(ax, .inr (7, [.ref ax_row, .ref ax_text, .int x_letters, .int x_at, .ref ax_read, .ref ax_undone, .int x_undos, .ref ax_order, .ref ax_dones, .int x_away, .int x_bestSet, .ref ax_aside, .ref ax_tapedWho, .ref ax_tapedTill, .int x_taped, .ref ax_kept, .int x_keeps])), (ax_row, .inl (cyI, 28, .inl x_row))]) [0, 1] rfl) (hD.sub (ws' := [(ax, .inr (7, [.ref ax_row, .ref ax_text, .int x_letters, .int x_at, .ref ax_read, .ref ax_undone, .int x_undos, .ref ax_order, .ref ax_dones, .int x_away, .int x_bestSet, .ref ax_aside, .ref ax_tapedWho, .ref ax_tapedTill, .int x_taped, .ref ax_kept, .int x_keeps])), (ax_row, .inl (cyI, 28, .inl x_row))]) [0, 1] (by decide) rfl) rfl rfl) rfl rfl hl.1 rfl (lv_room (Nat.le_of_ble_eq_true rfl)) dX7_kinds_12 ⟨Nat.le_of_ble_eq_true rfl, Nat.le_of_ble_eq_true rfl⟩) hP hD hS hA [0, 1] [2, 3, 4, 5] [4, 5, 0, 1, 2, 3] rfl rfl rfl (by decide) (by decide) (by decide) (fun H locs hP hD hS => ?_)
    refine lv_istore_n (lv' := [(2, .int r12), (0, .ref ax), (1, .int i1)]) hx hb dX7_kinds_15 rfl hl (by decide) rfl (fun ls hl => ?_)
    refine lv_iconst (v := 0) hx hb dX7_kinds_16 (by decide) ?_
    refine lv_istore_n (lv' := [(3, .int (0 : Int32)), (2, .int r12), (0, .ref ax), (1, .int i1)]) hx hb dX7_kinds_17 rfl hl (by decide) rfl (fun ls hl => ?_)
    refine lv_iconst (v := 0) hx hb dX7_kinds_18 (by decide) ?_
    refine lv_istore (lv' := [(4, .int (0 : Int32)), (3, .int (0 : Int32)), (2, .int r12), (0, .ref ax), (1, .int i1)]) hx hb dX7_kinds_19 hl (by decide) rfl (fun ls hl => ?_)
    have hL21 : ∀ (n21 : Nat) (i2 : Int32) (i3 : Int32) (i4 : Int32) (x_away : Int32) (x_row : Nat → Int32) (x_order : Nat → Int32) (x_dones : Nat → Int32) (H : Heap) (locs : List Loc) (ls : Array Slot), va_P D vwCl [(ax, .inr (7, [.ref ax_row, .ref ax_text, .int x_letters, .int x_at, .ref ax_read, .ref ax_undone, .int x_undos, .ref ax_order, .ref ax_dones, .int x_away, .int x_bestSet, .ref ax_aside, .ref ax_tapedWho, .ref ax_tapedTill, .int x_taped, .ref ax_kept, .int x_keeps])), (ax_row, .inl (cyI, 28, .inl x_row)), (ax_order, .inl (cyI, 8, .inl x_order)), (ax_dones, .inl (cyI, 8, .inl x_dones)), (ax_tapedWho, .inl (cyI, 8, .inl x_tapedWho)), (ax_tapedTill, .inl (cyI, 8, .inl x_tapedTill))] H → va_D A [(ax, .inr (7, [.ref ax_row, .ref ax_text, .int x_letters, .int x_at, .ref ax_read, .ref ax_undone, .int x_undos, .ref ax_order, .ref ax_dones, .int x_away, .int x_bestSet, .ref ax_aside, .ref ax_tapedWho, .ref ax_tapedTill, .int x_taped, .ref ax_kept, .int x_keeps])), (ax_row, .inl (cyI, 28, .inl x_row)), (ax_order, .inl (cyI, 8, .inl x_order)), (ax_dones, .inl (cyI, 8, .inl x_dones)), (ax_tapedWho, .inl (cyI, 8, .inl x_tapedWho)), (ax_tapedTill, .inl (cyI, 8, .inl x_tapedTill))] → va_S A s.heap H locs → lv_has ls 7 [(0, .ref ax), (1, .int i1), (2, .int i2), (3, .int i3), (4, .int i4)] → S_X7_kinds_L21 i1 i2 x_taped x_tapedWho x_tapedTill n21 i3 i4 x_away x_row x_order x_dones = some (r, o_x_away, o_x_row, o_x_order, o_x_dones) → W p l e rX7_kinds s m (([.ref ax, .int i1] : List Value).toArray) below meth c H locs 0 0 (MQ below (CQi r D [(ax, .inr (7, [.ref ax_row, .ref ax_text, .int x_letters, .int x_at, .ref ax_read, .ref ax_undone, .int x_undos, .ref ax_order, .ref ax_dones, .int o_x_away, .int x_bestSet, .ref ax_aside, .ref ax_tapedWho, .ref ax_tapedTill, .int x_taped, .ref ax_kept, .int x_keeps])), (ax_row, .inl (cyI, 28, .inl o_x_row)), (ax_order, .inl (cyI, 8, .inl o_x_order)), (ax_dones, .inl (cyI, 8, .inl o_x_dones)), (ax_tapedWho, .inl (cyI, 8, .inl x_tapedWho)), (ax_tapedTill, .inl (cyI, 8, .inl x_tapedTill))] A) (([.ref ax, .int i1] : List Value).toArray) s 0 0 A) (F0 m 21 ls []) := by
      intro n21
      induction n21 with
      | zero => intro i2 i3 i4 x_away x_row x_order x_dones H locs ls hP hD hS hl hf; exact absurd hf (by simp [S_X7_kinds_L21])
      | succ n21 ih21 =>
        intro i2 i3 i4 x_away x_row x_order x_dones H locs ls hP hD hS hl hf
        rw [S_X7_kinds_L21] at hf
        refine lv_iload hx hb dX7_kinds_21 (lv_at hl 4 rfl) ?_
        refine lv_iconst (v := 4) hx hb dX7_kinds_23 (by decide) ?_
        refine lv_icmp_ge (tgt := 122) hx hb dX7_kinds_24 (by decide) (fun c24 => ?_) (fun c24 => ?_)
        · replace hf := ip c24 hf
          refine lv_aload_n hx hb dX7_kinds_122 rfl (lv_at hl 0 rfl) ?_
          refine va_get (C := RX7) (T := TX7) (N := 17) hx hb hts inX7 hown hK.1 hP 0 rfl rfl 0 (by decide) f7 (fun _ h9 => h9) rfl dX7_kinds_123 ?_
          refine lv_iconst (v := 4) hx hb dX7_kinds_126 (by decide) ?_
          refine lv_iconst (v := 3) hx hb dX7_kinds_127 (by decide) ?_
          refine lv_iload_n hx hb dX7_kinds_128 rfl (lv_at hl 1 rfl) ?_
          refine lv_imul hx hb dX7_kinds_129 ?_
          refine lv_iadd hx hb dX7_kinds_130 ?_
          refine lv_iload_n hx hb dX7_kinds_131 rfl (lv_at hl 2 rfl) ?_
          obtain ⟨z132, hf⟩ := oi hf
          refine a_ist (wn := [(ax, .inr (7, [.ref ax_row, .ref ax_text, .int x_letters, .int x_at, .ref ax_read, .ref ax_undone, .int x_undos, .ref ax_order, .ref ax_dones, .int x_away, .int x_bestSet, .ref ax_aside, .ref ax_tapedWho, .ref ax_tapedTill, .int x_taped, .ref ax_kept, .int x_keeps])), (ax_row, .inl (cyI, 28, .inl (upd x_row ((4 : Int32) + ((3 : Int32) * i1)).toNatClampNeg i2))), (ax_order, .inl (cyI, 8, .inl x_order)), (ax_dones, .inl (cyI, 8, .inl x_dones)), (ax_tapedWho, .inl (cyI, 8, .inl x_tapedWho)), (ax_tapedTill, .inl (cyI, 8, .inl x_tapedTill))]) hx hb hK hP hD hS 1 rfl z132 ((4 : Int32) + ((3 : Int32) * i1)).toNatClampNeg rfl rfl dX7_kinds_132 (fun H locs hP hD hS => ?_)
          refine lv_iload_n hx hb dX7_kinds_133 rfl (lv_at hl 3 rfl) ?_
          simp only [Option.some.injEq, Prod.mk.injEq] at hf
          obtain ⟨rfl, rfl, rfl, rfl, rfl⟩ := hf
          exact W.iret hx hb hr (fun t ht hW => ⟨⟨_, (), rfl, rfl, by rw [ht]; exact hP, hD⟩, hS.F ht⟩) hS.2.2 dX7_kinds_134
        · replace hf := iq c24 hf
          refine lv_aload_n hx hb dX7_kinds_27 rfl (lv_at hl 0 rfl) ?_
          refine va_get (C := RX7) (T := TX7) (N := 17) hx hb hts inX7 hown hK.1 hP 0 rfl rfl 0 (by decide) f7 (fun _ h9 => h9) rfl dX7_kinds_28 ?_
          refine lv_iconst (v := 4) hx hb dX7_kinds_31 (by decide) ?_
          refine lv_iconst (v := 3) hx hb dX7_kinds_32 (by decide) ?_
          refine lv_iload_n hx hb dX7_kinds_33 rfl (lv_at hl 1 rfl) ?_
          refine lv_imul hx hb dX7_kinds_34 ?_
          refine lv_iadd hx hb dX7_kinds_35 ?_
          refine lv_iload hx hb dX7_kinds_36 (lv_at hl 4 rfl) ?_
          obtain ⟨z38, hf⟩ := oi hf
          refine a_ist (wn := [(ax, .inr (7, [.ref ax_row, .ref ax_text, .int x_letters, .int x_at, .ref ax_read, .ref ax_undone, .int x_undos, .ref ax_order, .ref ax_dones, .int x_away, .int x_bestSet, .ref ax_aside, .ref ax_tapedWho, .ref ax_tapedTill, .int x_taped, .ref ax_kept, .int x_keeps])), (ax_row, .inl (cyI, 28, .inl (upd x_row ((4 : Int32) + ((3 : Int32) * i1)).toNatClampNeg i4))), (ax_order, .inl (cyI, 8, .inl x_order)), (ax_dones, .inl (cyI, 8, .inl x_dones)), (ax_tapedWho, .inl (cyI, 8, .inl x_tapedWho)), (ax_tapedTill, .inl (cyI, 8, .inl x_tapedTill))]) hx hb hK hP hD hS 1 rfl z38 ((4 : Int32) + ((3 : Int32) * i1)).toNatClampNeg rfl rfl dX7_kinds_38 (fun H locs hP hD hS => ?_)
          refine lv_aload_n hx hb dX7_kinds_39 rfl (lv_at hl 0 rfl) ?_
          obtain ⟨⟨x_away_o40, x_order_o40, x_dones_o40⟩, q40, hf⟩ := ob hf
          replace hf : _ = _ := hf
          refine k_v (wc := [(ax, .inr (7, [.ref ax_row, .ref ax_text, .int x_letters, .int x_at, .ref ax_read, .ref ax_undone, .int x_undos, .ref ax_order, .ref ax_dones, .int x_away, .int x_bestSet, .ref ax_aside, .ref ax_tapedWho, .ref ax_tapedTill, .int x_taped, .ref ax_kept, .int x_keeps])), (ax_row, .inl (cyI, 28, .inl (upd x_row ((4 : Int32) + ((3 : Int32) * i1)).toNatClampNeg i4))), (ax_order, .inl (cyI, 8, .inl x_order)), (ax_dones, .inl (cyI, 8, .inl x_dones))]) (wr := [(ax_tapedWho, .inl (cyI, 8, .inl x_tapedWho)), (ax_tapedTill, .inl (cyI, 8, .inl x_tapedTill))]) (w1 := [(ax, .inr (7, [.ref ax_row, .ref ax_text, .int x_letters, .int x_at, .ref ax_read, .ref ax_undone, .int x_undos, .ref ax_order, .ref ax_dones, .int x_away_o40, .int x_bestSet, .ref ax_aside, .ref ax_tapedWho, .ref ax_tapedTill, .int x_taped, .ref ax_kept, .int x_keeps])), (ax_row, .inl (cyI, 28, .inl (upd x_row ((4 : Int32) + ((3 : Int32) * i1)).toNatClampNeg i4))), (ax_order, .inl (cyI, 8, .inl x_order_o40)), (ax_dones, .inl (cyI, 8, .inl x_dones_o40))]) (wn := [(ax, .inr (7, [.ref ax_row, .ref ax_text, .int x_letters, .int x_at, .ref ax_read, .ref ax_undone, .int x_undos, .ref ax_order, .ref ax_dones, .int x_away_o40, .int x_bestSet, .ref ax_aside, .ref ax_tapedWho, .ref ax_tapedTill, .int x_taped, .ref ax_kept, .int x_keeps])), (ax_row, .inl (cyI, 28, .inl (upd x_row ((4 : Int32) + ((3 : Int32) * i1)).toNatClampNeg i4))), (ax_order, .inl (cyI, 8, .inl x_order_o40)), (ax_dones, .inl (cyI, 8, .inl x_dones_o40)), (ax_tapedWho, .inl (cyI, 8, .inl x_tapedWho)), (ax_tapedTill, .inl (cyI, 8, .inl x_tapedTill))]) (va_runV (As := []) (rest := []) ⟨hx, hb, hml, hown, hts⟩ (c_X7_opens l D cyI cyC cyS H.size ax ax_row ax_text ax_read ax_undone ax_order ax_dones ax_aside ax_tapedWho ax_tapedTill ax_kept x_letters x_at x_undos x_away x_bestSet x_taped x_keeps (upd x_row ((4 : Int32) + ((3 : Int32) * i1)).toNatClampNeg i4) x_order x_dones q40) (cwV 0 hts gX7_kinds_X7_opens rfl rfl rfl (by decide +kernel) ⟨Nat.le_of_ble_eq_true rfl, Nat.le_of_ble_eq_true rfl⟩) (preV (ci := 7) hK (hP.subm (ws' := [(ax, .inr (7, [.ref ax_row, .ref ax_text, .int x_letters, .int x_at, .ref ax_read, .ref ax_undone, .int x_undos, .ref ax_order, .ref ax_dones, .int x_away, .int x_bestSet, .ref ax_aside, .ref ax_tapedWho, .ref ax_tapedTill, .int x_taped, .ref ax_kept, .int x_keeps])), (ax_row, .inl (cyI, 28, .inl (upd x_row ((4 : Int32) + ((3 : Int32) * i1)).toNatClampNeg i4))), (ax_order, .inl (cyI, 8, .inl x_order)), (ax_dones, .inl (cyI, 8, .inl x_dones))]) [0, 1, 2, 3] rfl) (hD.sub (ws' := [(ax, .inr (7, [.ref ax_row, .ref ax_text, .int x_letters, .int x_at, .ref ax_read, .ref ax_undone, .int x_undos, .ref ax_order, .ref ax_dones, .int x_away, .int x_bestSet, .ref ax_aside, .ref ax_tapedWho, .ref ax_tapedTill, .int x_taped, .ref ax_kept, .int x_keeps])), (ax_row, .inl (cyI, 28, .inl (upd x_row ((4 : Int32) + ((3 : Int32) * i1)).toNatClampNeg i4))), (ax_order, .inl (cyI, 8, .inl x_order)), (ax_dones, .inl (cyI, 8, .inl x_dones))]) [0, 1, 2, 3] (by decide) rfl) rfl rfl) rfl rfl hl.1 rfl (lv_room (Nat.le_of_ble_eq_true rfl)) dX7_kinds_40 ⟨Nat.le_of_ble_eq_true rfl, Nat.le_of_ble_eq_true rfl⟩) hP hD hS hA [0, 1, 2, 3] [4, 5] [2, 3, 4, 5, 0, 1] rfl rfl rfl (by decide) (by decide) (by decide) (fun H locs hP hD hS => ?_)
          refine lv_iconst (v := 1) hx hb dX7_kinds_43 (by decide) ?_
          refine lv_istore (lv' := [(5, .int (1 : Int32)), (0, .ref ax), (1, .int i1), (2, .int i2), (3, .int i3), (4, .int i4)]) hx hb dX7_kinds_44 hl (by decide) rfl (fun ls hl => ?_)
          refine lv_iconst (v := 0) hx hb dX7_kinds_46 (by decide) ?_
          refine lv_istore (lv' := [(6, .int (0 : Int32)), (5, .int (1 : Int32)), (0, .ref ax), (1, .int i1), (2, .int i2), (3, .int i3), (4, .int i4)]) hx hb dX7_kinds_47 hl (by decide) rfl (fun ls hl => ?_)
          have hL49 : ∀ (n49 : Nat) (i2 : Int32) (i3 : Int32) (i4 : Int32) (x_away : Int32) (x_row : Nat → Int32) (x_order : Nat → Int32) (x_dones : Nat → Int32) (i5 : Int32) (i6 : Int32) (H : Heap) (locs : List Loc) (ls : Array Slot), va_P D vwCl [(ax, .inr (7, [.ref ax_row, .ref ax_text, .int x_letters, .int x_at, .ref ax_read, .ref ax_undone, .int x_undos, .ref ax_order, .ref ax_dones, .int x_away, .int x_bestSet, .ref ax_aside, .ref ax_tapedWho, .ref ax_tapedTill, .int x_taped, .ref ax_kept, .int x_keeps])), (ax_row, .inl (cyI, 28, .inl x_row)), (ax_order, .inl (cyI, 8, .inl x_order)), (ax_dones, .inl (cyI, 8, .inl x_dones)), (ax_tapedWho, .inl (cyI, 8, .inl x_tapedWho)), (ax_tapedTill, .inl (cyI, 8, .inl x_tapedTill))] H → va_D A [(ax, .inr (7, [.ref ax_row, .ref ax_text, .int x_letters, .int x_at, .ref ax_read, .ref ax_undone, .int x_undos, .ref ax_order, .ref ax_dones, .int x_away, .int x_bestSet, .ref ax_aside, .ref ax_tapedWho, .ref ax_tapedTill, .int x_taped, .ref ax_kept, .int x_keeps])), (ax_row, .inl (cyI, 28, .inl x_row)), (ax_order, .inl (cyI, 8, .inl x_order)), (ax_dones, .inl (cyI, 8, .inl x_dones)), (ax_tapedWho, .inl (cyI, 8, .inl x_tapedWho)), (ax_tapedTill, .inl (cyI, 8, .inl x_tapedTill))] → va_S A s.heap H locs → lv_has ls 7 [(0, .ref ax), (1, .int i1), (2, .int i2), (3, .int i3), (4, .int i4), (5, .int i5), (6, .int i6)] → S_X7_kinds_L49 (S_X7_kinds_L21 i1 i2 x_taped x_tapedWho x_tapedTill n21) i3 i4 x_away x_row x_order x_dones x_taped x_tapedWho x_tapedTill n49 i5 i6 = some (r, o_x_away, o_x_row, o_x_order, o_x_dones) → W p l e rX7_kinds s m (([.ref ax, .int i1] : List Value).toArray) below meth c H locs 0 0 (MQ below (CQi r D [(ax, .inr (7, [.ref ax_row, .ref ax_text, .int x_letters, .int x_at, .ref ax_read, .ref ax_undone, .int x_undos, .ref ax_order, .ref ax_dones, .int o_x_away, .int x_bestSet, .ref ax_aside, .ref ax_tapedWho, .ref ax_tapedTill, .int x_taped, .ref ax_kept, .int x_keeps])), (ax_row, .inl (cyI, 28, .inl o_x_row)), (ax_order, .inl (cyI, 8, .inl o_x_order)), (ax_dones, .inl (cyI, 8, .inl o_x_dones)), (ax_tapedWho, .inl (cyI, 8, .inl x_tapedWho)), (ax_tapedTill, .inl (cyI, 8, .inl x_tapedTill))] A) (([.ref ax, .int i1] : List Value).toArray) s 0 0 A) (F0 m 49 ls []) := by
            intro n49
            induction n49 with
            | zero => intro i2 i3 i4 x_away x_row x_order x_dones i5 i6 H locs ls hP hD hS hl hf; exact absurd hf (by simp [S_X7_kinds_L49])
            | succ n49 ih49 =>
              intro i2 i3 i4 x_away x_row x_order x_dones i5 i6 H locs ls hP hD hS hl hf
              rw [S_X7_kinds_L49] at hf
              refine lv_iload hx hb dX7_kinds_49 (lv_at hl 6 rfl) ?_
              refine lv_aload_n hx hb dX7_kinds_51 rfl (lv_at hl 0 rfl) ?_
              refine va_get (C := RX7) (T := TX7) (N := 17) hx hb hts inX7 hown hK.1 hP 0 rfl rfl 14 (by decide) f88 (fun _ h9 => h9) rfl dX7_kinds_52 ?_
              refine lv_icmp_ge (tgt := 100) hx hb dX7_kinds_55 (by decide) (fun c55 => ?_) (fun c55 => ?_)
              · replace hf := ip c55 hf
                refine lv_iload_n hx hb dX7_kinds_100 rfl (lv_at hl 3 rfl) ?_
                refine lv_iload hx hb dX7_kinds_101 (lv_at hl 5 rfl) ?_
                refine lv_if_eq (tgt := 113) hx hb dX7_kinds_103 (by decide) (fun c103 => ?_) (fun c103 => ?_)
                · replace hf := ip c103 hf
                  refine lv_iconst (v := 0) hx hb dX7_kinds_113 (by decide) ?_
                  refine lv_ior hx hb dX7_kinds_114 ?_
                  refine lv_istore_n (lv' := [(3, .int (i3 ||| (0 : Int32))), (0, .ref ax), (1, .int i1), (2, .int i2), (4, .int i4), (5, .int i5), (6, .int i6)]) hx hb dX7_kinds_115 rfl hl (by decide) rfl (fun ls hl => ?_)
                  refine lv_iinc (v := i4 + (1 : Int32)) (lv' := [(4, .int (i4 + (1 : Int32))), (3, .int (i3 ||| (0 : Int32))), (0, .ref ax), (1, .int i1), (2, .int i2), (5, .int i5), (6, .int i6)]) hx hb dX7_kinds_116 hl (k := 4) rfl rfl (by decide) rfl (fun ls hl => ?_)
                  refine lv_goto (tgt := 21) hx hb dX7_kinds_119 (by decide) ?_
                  exact ih21 i2 (i3 ||| (0 : Int32)) (i4 + (1 : Int32)) x_away x_row x_order x_dones _ _ _ hP hD hS (lv_sub hl [2, 3, 4, 1, 0] rfl) hf
                · replace hf := iq c103 hf
                  refine lv_iconst (v := 1) hx hb dX7_kinds_106 (by decide) ?_
                  refine lv_iload hx hb dX7_kinds_107 (lv_at hl 4 rfl) ?_
                  refine lv_ishl hx hb dX7_kinds_109 ?_
                  refine lv_goto (tgt := 114) hx hb dX7_kinds_110 (by decide) ?_
                  refine lv_ior hx hb dX7_kinds_114 ?_
                  refine lv_istore_n (lv' := [(3, .int (i3 ||| ((1 : Int32) <<< (i4 &&& 31)))), (0, .ref ax), (1, .int i1), (2, .int i2), (4, .int i4), (5, .int i5), (6, .int i6)]) hx hb dX7_kinds_115 rfl hl (by decide) rfl (fun ls hl => ?_)
                  refine lv_iinc (v := i4 + (1 : Int32)) (lv' := [(4, .int (i4 + (1 : Int32))), (3, .int (i3 ||| ((1 : Int32) <<< (i4 &&& 31)))), (0, .ref ax), (1, .int i1), (2, .int i2), (5, .int i5), (6, .int i6)]) hx hb dX7_kinds_116 hl (k := 4) rfl rfl (by decide) rfl (fun ls hl => ?_)
                  refine lv_goto (tgt := 21) hx hb dX7_kinds_119 (by decide) ?_
                  exact ih21 i2 (i3 ||| ((1 : Int32) <<< (i4 &&& 31))) (i4 + (1 : Int32)) x_away x_row x_order x_dones _ _ _ hP hD hS (lv_sub hl [2, 3, 4, 1, 0] rfl) hf
              · replace hf := iq c55 hf
                refine lv_iload hx hb dX7_kinds_58 (lv_at hl 5 rfl) ?_
                refine lv_if_eq (tgt := 91) hx hb dX7_kinds_60 (by decide) (fun c60 => ?_) (fun c60 => ?_)
                · replace hf := ip c60 hf
                  refine lv_iconst (v := 0) hx hb dX7_kinds_91 (by decide) ?_
                  refine lv_istore (lv' := [(5, .int (0 : Int32)), (0, .ref ax), (1, .int i1), (2, .int i2), (3, .int i3), (4, .int i4), (6, .int i6)]) hx hb dX7_kinds_92 hl (by decide) rfl (fun ls hl => ?_)
                  refine lv_iinc (v := i6 + (1 : Int32)) (lv' := [(6, .int (i6 + (1 : Int32))), (5, .int (0 : Int32)), (0, .ref ax), (1, .int i1), (2, .int i2), (3, .int i3), (4, .int i4)]) hx hb dX7_kinds_94 hl (k := 6) rfl rfl (by decide) rfl (fun ls hl => ?_)
                  refine lv_goto (tgt := 49) hx hb dX7_kinds_97 (by decide) ?_
                  exact ih49 i2 i3 i4 x_away x_row x_order x_dones (0 : Int32) (i6 + (1 : Int32)) _ _ _ hP hD hS (lv_sub hl [2, 3, 4, 5, 6, 1, 0] rfl) hf
                · replace hf := iq c60 hf
                  refine lv_aload_n hx hb dX7_kinds_63 rfl (lv_at hl 0 rfl) ?_
                  refine va_get (C := RX7) (T := TX7) (N := 17) hx hb hts inX7 hown hK.1 hP 0 rfl rfl 9 (by decide) f119 (fun _ h9 => h9) rfl dX7_kinds_64 ?_
                  refine lv_aload_n hx hb dX7_kinds_67 rfl (lv_at hl 0 rfl) ?_
                  refine va_get (C := RX7) (T := TX7) (N := 17) hx hb hts inX7 hown hK.1 hP 0 rfl rfl 12 (by decide) f31 (fun _ h9 => h9) rfl dX7_kinds_68 ?_
                  refine lv_iload hx hb dX7_kinds_71 (lv_at hl 6 rfl) ?_
                  obtain ⟨z73, hf⟩ := oi hf
                  refine a_ild hx hb hK hP 4 rfl z73 i6.toNatClampNeg rfl dX7_kinds_73 ?_
                  refine lv_ishr hx hb dX7_kinds_74 ?_
                  refine lv_iconst (v := 1) hx hb dX7_kinds_75 (by decide) ?_
                  refine lv_iand hx hb dX7_kinds_76 ?_
                  refine lv_aload_n hx hb dX7_kinds_77 rfl (lv_at hl 0 rfl) ?_
                  refine va_get (C := RX7) (T := TX7) (N := 17) hx hb hts inX7 hown hK.1 hP 0 rfl rfl 13 (by decide) f34 (fun _ h9 => h9) rfl dX7_kinds_78 ?_
                  refine lv_iload hx hb dX7_kinds_81 (lv_at hl 6 rfl) ?_
                  obtain ⟨z83, hf⟩ := oi hf
                  refine a_ild hx hb hK hP 5 rfl z83 i6.toNatClampNeg rfl dX7_kinds_83 ?_
                  refine lv_icmp_ne (tgt := 91) hx hb dX7_kinds_84 (by decide) (fun c84 => ?_) (fun c84 => ?_)
                  · replace hf := iq c84 hf
                    refine lv_iconst (v := 0) hx hb dX7_kinds_91 (by decide) ?_
                    refine lv_istore (lv' := [(5, .int (0 : Int32)), (0, .ref ax), (1, .int i1), (2, .int i2), (3, .int i3), (4, .int i4), (6, .int i6)]) hx hb dX7_kinds_92 hl (by decide) rfl (fun ls hl => ?_)
                    refine lv_iinc (v := i6 + (1 : Int32)) (lv' := [(6, .int (i6 + (1 : Int32))), (5, .int (0 : Int32)), (0, .ref ax), (1, .int i1), (2, .int i2), (3, .int i3), (4, .int i4)]) hx hb dX7_kinds_94 hl (k := 6) rfl rfl (by decide) rfl (fun ls hl => ?_)
                    refine lv_goto (tgt := 49) hx hb dX7_kinds_97 (by decide) ?_
                    exact ih49 i2 i3 i4 x_away x_row x_order x_dones (0 : Int32) (i6 + (1 : Int32)) _ _ _ hP hD hS (lv_sub hl [2, 3, 4, 5, 6, 1, 0] rfl) hf
                  · replace hf := ip c84 hf
                    refine lv_iconst (v := 1) hx hb dX7_kinds_87 (by decide) ?_
                    refine lv_goto (tgt := 92) hx hb dX7_kinds_88 (by decide) ?_
                    refine lv_istore (lv' := [(5, .int (1 : Int32)), (0, .ref ax), (1, .int i1), (2, .int i2), (3, .int i3), (4, .int i4), (6, .int i6)]) hx hb dX7_kinds_92 hl (by decide) rfl (fun ls hl => ?_)
                    refine lv_iinc (v := i6 + (1 : Int32)) (lv' := [(6, .int (i6 + (1 : Int32))), (5, .int (1 : Int32)), (0, .ref ax), (1, .int i1), (2, .int i2), (3, .int i3), (4, .int i4)]) hx hb dX7_kinds_94 hl (k := 6) rfl rfl (by decide) rfl (fun ls hl => ?_)
                    refine lv_goto (tgt := 49) hx hb dX7_kinds_97 (by decide) ?_
                    exact ih49 i2 i3 i4 x_away x_row x_order x_dones (1 : Int32) (i6 + (1 : Int32)) _ _ _ hP hD hS (lv_sub hl [2, 3, 4, 5, 6, 1, 0] rfl) hf
          exact hL49 300 i2 i3 i4 x_away_o40 (upd x_row ((4 : Int32) + ((3 : Int32) * i1)).toNatClampNeg i4) x_order_o40 x_dones_o40 (1 : Int32) (0 : Int32) _ _ _ hP hD hS (lv_sub hl [2, 3, 4, 5, 6, 1, 0] rfl) hf
    exact hL21 300 r12 (0 : Int32) (0 : Int32) x_away x_row x_order x_dones _ _ _ hP hD hS (lv_sub hl [3, 4, 2, 1, 0] rfl) hf
  · replace hf := ip c5 hf
    refine lv_iconst (v := -1) hx hb dX7_kinds_8 (by decide) ?_
    simp only [Option.some.injEq, Prod.mk.injEq] at hf
    obtain ⟨rfl, rfl, rfl, rfl, rfl⟩ := hf
    exact W.iret hx hb hr (fun t ht hW => ⟨⟨_, (), rfl, rfl, by rw [ht]; exact hP, hD⟩, hS.F ht⟩) hS.2.2 dX7_kinds_9
abbrev rX7_beaten : Room := { frames := 2, cells := 0, slots := 0, locals := 46 }
set_option maxHeartbeats 4000000 in
set_option maxRecDepth 100000 in
theorem c_X7_beaten (l : Launch) (D : va_G) (cyI cyC cyS : ClassId) (sz : Nat) (ax : Nat) (ax_row : Nat) (ax_text : Nat) (ax_read : Nat) (ax_undone : Nat) (ax_order : Nat) (ax_dones : Nat) (ax_aside : Nat) (ax_tapedWho : Nat) (ax_tapedTill : Nat) (ax_kept : Nat) (x_letters : Int32) (x_at : Int32) (x_undos : Int32) (x_away : Int32) (x_bestSet : Int32) (x_taped : Int32) (x_keeps : Int32) (x_row : Nat → Int32) (x_order : Nat → Int32) (i1 : Int32) (i2 : Int32) (i3 : Int32) {r : Int32} {o_x_order : Nat → Int32} (hf : S_X7_beaten i1 i2 i3 x_row x_order = some (r, o_x_order)) : Met l yX7_beaten wsX7_beaten rX7_beaten (Cpre [.ref ax, .int i1, .int i2, .int i3] D cyI cyC cyS sz [(ax, .inr (7, [.ref ax_row, .ref ax_text, .int x_letters, .int x_at, .ref ax_read, .ref ax_undone, .int x_undos, .ref ax_order, .ref ax_dones, .int x_away, .int x_bestSet, .ref ax_aside, .ref ax_tapedWho, .ref ax_tapedTill, .int x_taped, .ref ax_kept, .int x_keeps])), (ax_row, .inl (cyI, 28, .inl x_row)), (ax_order, .inl (cyI, 8, .inl x_order))]) (CQi r D [(ax, .inr (7, [.ref ax_row, .ref ax_text, .int x_letters, .int x_at, .ref ax_read, .ref ax_undone, .int x_undos, .ref ax_order, .ref ax_dones, .int x_away, .int x_bestSet, .ref ax_aside, .ref ax_tapedWho, .ref ax_tapedTill, .int x_taped, .ref ax_kept, .int x_keeps])), (ax_row, .inl (cyI, 28, .inl x_row)), (ax_order, .inl (cyI, 8, .inl o_x_order))] (va_A [(ax, .inr (7, [.ref ax_row, .ref ax_text, .int x_letters, .int x_at, .ref ax_read, .ref ax_undone, .int x_undos, .ref ax_order, .ref ax_dones, .int x_away, .int x_bestSet, .ref ax_aside, .ref ax_tapedWho, .ref ax_tapedTill, .int x_taped, .ref ax_kept, .int x_keeps])), (ax_row, .inl (cyI, 28, .inl x_row)), (ax_order, .inl (cyI, 8, .inl x_order))] sz)) 0 0 (va_A [(ax, .inr (7, [.ref ax_row, .ref ax_text, .int x_letters, .int x_at, .ref ax_read, .ref ax_undone, .int x_undos, .ref ax_order, .ref ax_dones, .int x_away, .int x_bestSet, .ref ax_aside, .ref ax_tapedWho, .ref ax_tapedTill, .int x_taped, .ref ax_kept, .int x_keeps])), (ax_row, .inl (cyI, 28, .inl x_row)), (ax_order, .inl (cyI, 8, .inl x_order))] sz) := by
  refine Met.ofW (cc := cX7_beaten) (maxL := 9) (ret := (some .int)) (by decide) rfl ?_
  intro p e s m args below meth c s₁ B hml hv
  obtain ⟨rfl, hsz, hP, hK, hD0⟩ := hv
  have hx := B.exec
  have hb := B.bytes
  have hr := B.returns
  have hts := atoms_spec (ws := wsX7_beaten) B.pre
  have hown : s.vm.findClass RX7 = some m.cls := findClass_of_methodNamed B.named
  have hlocks := B.notSynchronized
  subst hsz
  have hD := hD0.self (sz := s.heap.size)
  generalize hAe : va_A [(ax, .inr (7, [.ref ax_row, .ref ax_text, .int x_letters, .int x_at, .ref ax_read, .ref ax_undone, .int x_undos, .ref ax_order, .ref ax_dones, .int x_away, .int x_bestSet, .ref ax_aside, .ref ax_tapedWho, .ref ax_tapedTill, .int x_taped, .ref ax_kept, .int x_keeps])), (ax_row, .inl (cyI, 28, .inl x_row)), (ax_order, .inl (cyI, 8, .inl x_order))] s.heap.size = A at hD ⊢
  have hA : ∀ q : Nat, s.heap.size ≤ q → A q := fun q h => by rw [← hAe]; exact Or.inr h
  have hS : va_S A s.heap s.heap [] := va_S.rf
  have hl := lv_entry ([.ref ax, .int i1, .int i2, .int i3]) (n := 9) (Nat.le_of_ble_eq_true rfl)
  rw [lg_entry_eq]
  generalize (lg_sl ([.ref ax, .int i1, .int i2, .int i3]) ++ List.replicate (9 - (lg_sl ([.ref ax, .int i1, .int i2, .int i3])).length) Slot.unset).toArray = ls at hl ⊢
  have hl : lv_has ls 9 [(0, .ref ax), (1, .int i1), (2, .int i2), (3, .int i3)] := hl
  have k181 := hts (.constantLong RX7 181 (10)) (by decide +kernel)
  have f22 := hts (.fieldLink RX7 22 "SecondTillModel" "order" "[I") (by decide +kernel)
  have inX7 : ∀ w ∈ u_ws RX7 TX7 17, w ∈ wsX7_beaten := by decide +kernel
  unfold S_X7_beaten at hf
  have hP : va_P D vwCl [(ax, .inr (7, [.ref ax_row, .ref ax_text, .int x_letters, .int x_at, .ref ax_read, .ref ax_undone, .int x_undos, .ref ax_order, .ref ax_dones, .int x_away, .int x_bestSet, .ref ax_aside, .ref ax_tapedWho, .ref ax_tapedTill, .int x_taped, .ref ax_kept, .int x_keeps])), (ax_row, .inl (cyI, 28, .inl x_row)), (ax_order, .inl (cyI, 8, .inl x_order))] s.heap := hP
  suffices hgo : ∀ (H : Heap) (locs : List Loc), va_P D vwCl [(ax, .inr (7, [.ref ax_row, .ref ax_text, .int x_letters, .int x_at, .ref ax_read, .ref ax_undone, .int x_undos, .ref ax_order, .ref ax_dones, .int x_away, .int x_bestSet, .ref ax_aside, .ref ax_tapedWho, .ref ax_tapedTill, .int x_taped, .ref ax_kept, .int x_keeps])), (ax_row, .inl (cyI, 28, .inl x_row)), (ax_order, .inl (cyI, 8, .inl x_order))] H → va_S A s.heap H locs → W p l e rX7_beaten s m (([.ref ax, .int i1, .int i2, .int i3] : List Value).toArray) below meth c H locs 0 0 (MQ below (CQi r D [(ax, .inr (7, [.ref ax_row, .ref ax_text, .int x_letters, .int x_at, .ref ax_read, .ref ax_undone, .int x_undos, .ref ax_order, .ref ax_dones, .int x_away, .int x_bestSet, .ref ax_aside, .ref ax_tapedWho, .ref ax_tapedTill, .int x_taped, .ref ax_kept, .int x_keeps])), (ax_row, .inl (cyI, 28, .inl x_row)), (ax_order, .inl (cyI, 8, .inl o_x_order))] A) (([.ref ax, .int i1, .int i2, .int i3] : List Value).toArray) s 0 0 A) (F0 m 0 ls []) from hgo _ _ hP hS
  clear hP hS
  intro H locs hP hS
  refine lv_aload_n hx hb dX7_beaten_0 rfl (lv_at hl 0 rfl) ?_
  refine lv_iload_n hx hb dX7_beaten_1 rfl (lv_at hl 1 rfl) ?_
  obtain ⟨r2, q2, hf⟩ := ob hf
  refine k_i (wc := [(ax, .inr (7, [.ref ax_row, .ref ax_text, .int x_letters, .int x_at, .ref ax_read, .ref ax_undone, .int x_undos, .ref ax_order, .ref ax_dones, .int x_away, .int x_bestSet, .ref ax_aside, .ref ax_tapedWho, .ref ax_tapedTill, .int x_taped, .ref ax_kept, .int x_keeps])), (ax_row, .inl (cyI, 28, .inl x_row))]) (wr := [(ax_order, .inl (cyI, 8, .inl x_order))]) (w1 := [(ax, .inr (7, [.ref ax_row, .ref ax_text, .int x_letters, .int x_at, .ref ax_read, .ref ax_undone, .int x_undos, .ref ax_order, .ref ax_dones, .int x_away, .int x_bestSet, .ref ax_aside, .ref ax_tapedWho, .ref ax_tapedTill, .int x_taped, .ref ax_kept, .int x_keeps])), (ax_row, .inl (cyI, 28, .inl x_row))]) (wn := [(ax, .inr (7, [.ref ax_row, .ref ax_text, .int x_letters, .int x_at, .ref ax_read, .ref ax_undone, .int x_undos, .ref ax_order, .ref ax_dones, .int x_away, .int x_bestSet, .ref ax_aside, .ref ax_tapedWho, .ref ax_tapedTill, .int x_taped, .ref ax_kept, .int x_keeps])), (ax_row, .inl (cyI, 28, .inl x_row)), (ax_order, .inl (cyI, 8, .inl x_order))]) (va_runV (As := [.int i1]) (rest := []) ⟨hx, hb, hml, hown, hts⟩ (c_X7_isPerson l D cyI cyC cyS H.size ax ax_row ax_text ax_read ax_undone ax_order ax_dones ax_aside ax_tapedWho ax_tapedTill ax_kept x_letters x_at x_undos x_away x_bestSet x_taped x_keeps x_row i1 q2) (cwV 1 hts gX7_beaten_X7_isPerson rfl rfl rfl (by decide +kernel) ⟨Nat.le_of_ble_eq_true rfl, Nat.le_of_ble_eq_true rfl⟩) (preV (ci := 7) hK (hP.subm (ws' := [(ax, .inr (7, [.ref ax_row, .ref ax_text, .int x_letters, .int x_at, .ref ax_read, .ref ax_undone, .int x_undos, .ref ax_order, .ref ax_dones, .int x_away, .int x_bestSet, .ref ax_aside, .ref ax_tapedWho, .ref ax_tapedTill, .int x_taped, .ref ax_kept, .int x_keeps])), (ax_row, .inl (cyI, 28, .inl x_row))]) [0, 1] rfl) (hD.sub (ws' := [(ax, .inr (7, [.ref ax_row, .ref ax_text, .int x_letters, .int x_at, .ref ax_read, .ref ax_undone, .int x_undos, .ref ax_order, .ref ax_dones, .int x_away, .int x_bestSet, .ref ax_aside, .ref ax_tapedWho, .ref ax_tapedTill, .int x_taped, .ref ax_kept, .int x_keeps])), (ax_row, .inl (cyI, 28, .inl x_row))]) [0, 1] (by decide) rfl) rfl rfl) rfl rfl hl.1 rfl (lv_room (Nat.le_of_ble_eq_true rfl)) dX7_beaten_2 ⟨Nat.le_of_ble_eq_true rfl, Nat.le_of_ble_eq_true rfl⟩) hP hD hS hA [0, 1] [2] [1, 2, 0] rfl rfl rfl (by decide) (by decide) (by decide) (fun H locs hP hD hS => ?_)
  refine lv_if_eq (tgt := 30) hx hb dX7_beaten_5 (by decide) (fun c5 => ?_) (fun c5 => ?_)
  · replace hf := ip c5 hf
    refine lv_iconst (v := -1) hx hb dX7_beaten_30 (by decide) ?_
    simp only [Option.some.injEq, Prod.mk.injEq] at hf
    obtain ⟨rfl, rfl⟩ := hf
    exact W.iret hx hb hr (fun t ht hW => ⟨⟨_, (), rfl, rfl, by rw [ht]; exact hP, hD⟩, hS.F ht⟩) hS.2.2 dX7_beaten_31
  · replace hf := iq c5 hf
    refine lv_iload_n hx hb dX7_beaten_8 rfl (lv_at hl 2 rfl) ?_
    refine lv_i2l (v := i2.toInt64) hx hb dX7_beaten_9 rfl ?_
    refine lv_lconst (v := 0) hx hb dX7_beaten_10 (by decide) ?_
    refine lv_ldc2 hx hb hown k181 dX7_beaten_11 ?_
    obtain ⟨r14, q14, hf⟩ := ob hf
    refine k_i (wc := []) (wr := [(ax, .inr (7, [.ref ax_row, .ref ax_text, .int x_letters, .int x_at, .ref ax_read, .ref ax_undone, .int x_undos, .ref ax_order, .ref ax_dones, .int x_away, .int x_bestSet, .ref ax_aside, .ref ax_tapedWho, .ref ax_tapedTill, .int x_taped, .ref ax_kept, .int x_keeps])), (ax_row, .inl (cyI, 28, .inl x_row)), (ax_order, .inl (cyI, 8, .inl x_order))]) (w1 := []) (wn := [(ax, .inr (7, [.ref ax_row, .ref ax_text, .int x_letters, .int x_at, .ref ax_read, .ref ax_undone, .int x_undos, .ref ax_order, .ref ax_dones, .int x_away, .int x_bestSet, .ref ax_aside, .ref ax_tapedWho, .ref ax_tapedTill, .int x_taped, .ref ax_kept, .int x_keeps])), (ax_row, .inl (cyI, 28, .inl x_row)), (ax_order, .inl (cyI, 8, .inl x_order))]) (va_runS (As := [.long i2.toInt64, .long (0 : Int64), .long (10 : Int64)]) (rest := []) ⟨hx, hb, hml, hown, hts⟩ (c_X7_in l D cyI cyC cyS H.size i2.toInt64 (0 : Int64) (10 : Int64) q14) (va_cwS 3 hts gX7_beaten_X7_in rfl rfl rfl (by decide +kernel) ⟨Nat.le_of_ble_eq_true rfl, Nat.le_of_ble_eq_true rfl⟩) (preS hK (hP.subm (ws' := []) [] rfl) (hD.sub (ws' := []) [] (by decide) rfl)) rfl rfl hl.1 rfl (lv_room (Nat.le_of_ble_eq_true rfl)) dX7_beaten_14 ⟨Nat.le_of_ble_eq_true rfl, Nat.le_of_ble_eq_true rfl⟩) hP hD hS hA [] [0, 1, 2] [0, 1, 2] rfl rfl rfl (by decide) (by decide) (by decide) (fun H locs hP hD hS => ?_)
    refine lv_if_eq (tgt := 30) hx hb dX7_beaten_17 (by decide) (fun c17 => ?_) (fun c17 => ?_)
    · replace hf := ip c17 hf
      refine lv_iconst (v := -1) hx hb dX7_beaten_30 (by decide) ?_
      simp only [Option.some.injEq, Prod.mk.injEq] at hf
      obtain ⟨rfl, rfl⟩ := hf
      exact W.iret hx hb hr (fun t ht hW => ⟨⟨_, (), rfl, rfl, by rw [ht]; exact hP, hD⟩, hS.F ht⟩) hS.2.2 dX7_beaten_31
    · replace hf := iq c17 hf
      refine lv_iload_n hx hb dX7_beaten_20 rfl (lv_at hl 3 rfl) ?_
      refine lv_i2l (v := i3.toInt64) hx hb dX7_beaten_21 rfl ?_
      refine lv_lconst (v := 0) hx hb dX7_beaten_22 (by decide) ?_
      refine lv_lconst (v := 1) hx hb dX7_beaten_23 (by decide) ?_
      obtain ⟨r24, q24, hf⟩ := ob hf
      refine k_i (wc := []) (wr := [(ax, .inr (7, [.ref ax_row, .ref ax_text, .int x_letters, .int x_at, .ref ax_read, .ref ax_undone, .int x_undos, .ref ax_order, .ref ax_dones, .int x_away, .int x_bestSet, .ref ax_aside, .ref ax_tapedWho, .ref ax_tapedTill, .int x_taped, .ref ax_kept, .int x_keeps])), (ax_row, .inl (cyI, 28, .inl x_row)), (ax_order, .inl (cyI, 8, .inl x_order))]) (w1 := []) (wn := [(ax, .inr (7, [.ref ax_row, .ref ax_text, .int x_letters, .int x_at, .ref ax_read, .ref ax_undone, .int x_undos, .ref ax_order, .ref ax_dones, .int x_away, .int x_bestSet, .ref ax_aside, .ref ax_tapedWho, .ref ax_tapedTill, .int x_taped, .ref ax_kept, .int x_keeps])), (ax_row, .inl (cyI, 28, .inl x_row)), (ax_order, .inl (cyI, 8, .inl x_order))]) (va_runS (As := [.long i3.toInt64, .long (0 : Int64), .long (1 : Int64)]) (rest := []) ⟨hx, hb, hml, hown, hts⟩ (c_X7_in l D cyI cyC cyS H.size i3.toInt64 (0 : Int64) (1 : Int64) q24) (va_cwS 3 hts gX7_beaten_X7_in rfl rfl rfl (by decide +kernel) ⟨Nat.le_of_ble_eq_true rfl, Nat.le_of_ble_eq_true rfl⟩) (preS hK (hP.subm (ws' := []) [] rfl) (hD.sub (ws' := []) [] (by decide) rfl)) rfl rfl hl.1 rfl (lv_room (Nat.le_of_ble_eq_true rfl)) dX7_beaten_24 ⟨Nat.le_of_ble_eq_true rfl, Nat.le_of_ble_eq_true rfl⟩) hP hD hS hA [] [0, 1, 2] [0, 1, 2] rfl rfl rfl (by decide) (by decide) (by decide) (fun H locs hP hD hS => ?_)
      refine lv_if_ne (tgt := 32) hx hb dX7_beaten_27 (by decide) (fun c27 => ?_) (fun c27 => ?_)
      · replace hf := iq c27 hf
        refine lv_aload_n hx hb dX7_beaten_32 rfl (lv_at hl 0 rfl) ?_
        obtain ⟨x_order_o33, q33, hf⟩ := ob hf
        refine k_v (wc := [(ax, .inr (7, [.ref ax_row, .ref ax_text, .int x_letters, .int x_at, .ref ax_read, .ref ax_undone, .int x_undos, .ref ax_order, .ref ax_dones, .int x_away, .int x_bestSet, .ref ax_aside, .ref ax_tapedWho, .ref ax_tapedTill, .int x_taped, .ref ax_kept, .int x_keeps])), (ax_row, .inl (cyI, 28, .inl x_row)), (ax_order, .inl (cyI, 8, .inl x_order))]) (wr := []) (w1 := [(ax, .inr (7, [.ref ax_row, .ref ax_text, .int x_letters, .int x_at, .ref ax_read, .ref ax_undone, .int x_undos, .ref ax_order, .ref ax_dones, .int x_away, .int x_bestSet, .ref ax_aside, .ref ax_tapedWho, .ref ax_tapedTill, .int x_taped, .ref ax_kept, .int x_keeps])), (ax_row, .inl (cyI, 28, .inl x_row)), (ax_order, .inl (cyI, 8, .inl x_order_o33))]) (wn := [(ax, .inr (7, [.ref ax_row, .ref ax_text, .int x_letters, .int x_at, .ref ax_read, .ref ax_undone, .int x_undos, .ref ax_order, .ref ax_dones, .int x_away, .int x_bestSet, .ref ax_aside, .ref ax_tapedWho, .ref ax_tapedTill, .int x_taped, .ref ax_kept, .int x_keeps])), (ax_row, .inl (cyI, 28, .inl x_row)), (ax_order, .inl (cyI, 8, .inl x_order_o33))]) (va_runV (As := []) (rest := []) ⟨hx, hb, hml, hown, hts⟩ (c_X7_orders l D cyI cyC cyS H.size ax ax_row ax_text ax_read ax_undone ax_order ax_dones ax_aside ax_tapedWho ax_tapedTill ax_kept x_letters x_at x_undos x_away x_bestSet x_taped x_keeps x_row x_order q33) (cwV 0 hts gX7_beaten_X7_orders rfl rfl rfl (by decide +kernel) ⟨Nat.le_of_ble_eq_true rfl, Nat.le_of_ble_eq_true rfl⟩) (preV (ci := 7) hK (hP.subm (ws' := [(ax, .inr (7, [.ref ax_row, .ref ax_text, .int x_letters, .int x_at, .ref ax_read, .ref ax_undone, .int x_undos, .ref ax_order, .ref ax_dones, .int x_away, .int x_bestSet, .ref ax_aside, .ref ax_tapedWho, .ref ax_tapedTill, .int x_taped, .ref ax_kept, .int x_keeps])), (ax_row, .inl (cyI, 28, .inl x_row)), (ax_order, .inl (cyI, 8, .inl x_order))]) [0, 1, 2] rfl) (hD.sub (ws' := [(ax, .inr (7, [.ref ax_row, .ref ax_text, .int x_letters, .int x_at, .ref ax_read, .ref ax_undone, .int x_undos, .ref ax_order, .ref ax_dones, .int x_away, .int x_bestSet, .ref ax_aside, .ref ax_tapedWho, .ref ax_tapedTill, .int x_taped, .ref ax_kept, .int x_keeps])), (ax_row, .inl (cyI, 28, .inl x_row)), (ax_order, .inl (cyI, 8, .inl x_order))]) [0, 1, 2] (by decide) rfl) rfl rfl) rfl rfl hl.1 rfl (lv_room (Nat.le_of_ble_eq_true rfl)) dX7_beaten_33 ⟨Nat.le_of_ble_eq_true rfl, Nat.le_of_ble_eq_true rfl⟩) hP hD hS hA [0, 1, 2] [] [0, 1, 2] rfl rfl rfl (by decide) (by decide) (by decide) (fun H locs hP hD hS => ?_)
        refine lv_iconst (v := 1) hx hb dX7_beaten_36 (by decide) ?_
        refine lv_istore (lv' := [(4, .int (1 : Int32)), (0, .ref ax), (1, .int i1), (2, .int i2), (3, .int i3)]) hx hb dX7_beaten_37 hl (by decide) rfl (fun ls hl => ?_)
        refine lv_iconst (v := 1) hx hb dX7_beaten_39 (by decide) ?_
        refine lv_istore (lv' := [(5, .int (1 : Int32)), (4, .int (1 : Int32)), (0, .ref ax), (1, .int i1), (2, .int i2), (3, .int i3)]) hx hb dX7_beaten_40 hl (by decide) rfl (fun ls hl => ?_)
        refine lv_iconst (v := 0) hx hb dX7_beaten_42 (by decide) ?_
        refine lv_istore (lv' := [(6, .int (0 : Int32)), (5, .int (1 : Int32)), (4, .int (1 : Int32)), (0, .ref ax), (1, .int i1), (2, .int i2), (3, .int i3)]) hx hb dX7_beaten_43 hl (by decide) rfl (fun ls hl => ?_)
        have hL45 : ∀ (n45 : Nat) (x_order : Nat → Int32) (i4 : Int32) (i5 : Int32) (i6 : Int32) (H : Heap) (locs : List Loc) (ls : Array Slot), va_P D vwCl [(ax, .inr (7, [.ref ax_row, .ref ax_text, .int x_letters, .int x_at, .ref ax_read, .ref ax_undone, .int x_undos, .ref ax_order, .ref ax_dones, .int x_away, .int x_bestSet, .ref ax_aside, .ref ax_tapedWho, .ref ax_tapedTill, .int x_taped, .ref ax_kept, .int x_keeps])), (ax_row, .inl (cyI, 28, .inl x_row)), (ax_order, .inl (cyI, 8, .inl x_order))] H → va_D A [(ax, .inr (7, [.ref ax_row, .ref ax_text, .int x_letters, .int x_at, .ref ax_read, .ref ax_undone, .int x_undos, .ref ax_order, .ref ax_dones, .int x_away, .int x_bestSet, .ref ax_aside, .ref ax_tapedWho, .ref ax_tapedTill, .int x_taped, .ref ax_kept, .int x_keeps])), (ax_row, .inl (cyI, 28, .inl x_row)), (ax_order, .inl (cyI, 8, .inl x_order))] → va_S A s.heap H locs → lv_has ls 9 [(0, .ref ax), (1, .int i1), (2, .int i2), (3, .int i3), (4, .int i4), (5, .int i5), (6, .int i6)] → S_X7_beaten_L45 i1 i2 i3 x_order n45 i4 i5 i6 = some (r, o_x_order) → W p l e rX7_beaten s m (([.ref ax, .int i1, .int i2, .int i3] : List Value).toArray) below meth c H locs 0 0 (MQ below (CQi r D [(ax, .inr (7, [.ref ax_row, .ref ax_text, .int x_letters, .int x_at, .ref ax_read, .ref ax_undone, .int x_undos, .ref ax_order, .ref ax_dones, .int x_away, .int x_bestSet, .ref ax_aside, .ref ax_tapedWho, .ref ax_tapedTill, .int x_taped, .ref ax_kept, .int x_keeps])), (ax_row, .inl (cyI, 28, .inl x_row)), (ax_order, .inl (cyI, 8, .inl o_x_order))] A) (([.ref ax, .int i1, .int i2, .int i3] : List Value).toArray) s 0 0 A) (F0 m 45 ls []) := by
          intro n45
          induction n45 with
          | zero => intro x_order i4 i5 i6 H locs ls hP hD hS hl hf; exact absurd hf (by simp [S_X7_beaten_L45])
          | succ n45 ih45 =>
            intro x_order i4 i5 i6 H locs ls hP hD hS hl hf
            rw [S_X7_beaten_L45] at hf
            refine lv_aload_n hx hb dX7_beaten_45 rfl (lv_at hl 0 rfl) ?_
            refine va_get (C := RX7) (T := TX7) (N := 17) hx hb hts inX7 hown hK.1 hP 0 rfl rfl 7 (by decide) f22 (fun _ h9 => h9) rfl dX7_beaten_46 ?_
            refine lv_iload hx hb dX7_beaten_49 (lv_at hl 6 rfl) ?_
            obtain ⟨z51, hf⟩ := oi hf
            refine a_ild hx hb hK hP 2 rfl z51 i6.toNatClampNeg rfl dX7_beaten_51 ?_
            refine lv_iload_n hx hb dX7_beaten_52 rfl (lv_at hl 1 rfl) ?_
            refine lv_icmp_eq (tgt := 78) hx hb dX7_beaten_53 (by decide) (fun c53 => ?_) (fun c53 => ?_)
            · replace hf := ip c53 hf
              refine lv_iload hx hb dX7_beaten_78 (lv_at hl 4 rfl) ?_
              refine lv_istore (lv' := [(6, .int i4), (0, .ref ax), (1, .int i1), (2, .int i2), (3, .int i3), (4, .int i4), (5, .int i5)]) hx hb dX7_beaten_80 hl (by decide) rfl (fun ls hl => ?_)
              refine lv_iload hx hb dX7_beaten_82 (lv_at hl 6 rfl) ?_
              refine lv_istore (lv' := [(7, .int i5), (6, .int i4), (0, .ref ax), (1, .int i1), (2, .int i2), (3, .int i3), (4, .int i4), (5, .int i5)]) hx hb dX7_beaten_84 hl (by decide) rfl (fun ls hl => ?_)
              have hL86 : ∀ (n86 : Nat) (i4 : Int32) (i5 : Int32) (x_order : Nat → Int32) (i6 : Int32) (i7 : Int32) (H : Heap) (locs : List Loc) (ls : Array Slot), va_P D vwCl [(ax, .inr (7, [.ref ax_row, .ref ax_text, .int x_letters, .int x_at, .ref ax_read, .ref ax_undone, .int x_undos, .ref ax_order, .ref ax_dones, .int x_away, .int x_bestSet, .ref ax_aside, .ref ax_tapedWho, .ref ax_tapedTill, .int x_taped, .ref ax_kept, .int x_keeps])), (ax_row, .inl (cyI, 28, .inl x_row)), (ax_order, .inl (cyI, 8, .inl x_order))] H → va_D A [(ax, .inr (7, [.ref ax_row, .ref ax_text, .int x_letters, .int x_at, .ref ax_read, .ref ax_undone, .int x_undos, .ref ax_order, .ref ax_dones, .int x_away, .int x_bestSet, .ref ax_aside, .ref ax_tapedWho, .ref ax_tapedTill, .int x_taped, .ref ax_kept, .int x_keeps])), (ax_row, .inl (cyI, 28, .inl x_row)), (ax_order, .inl (cyI, 8, .inl x_order))] → va_S A s.heap H locs → lv_has ls 9 [(3, .int i3), (4, .int i4), (5, .int i5), (6, .int i6), (7, .int i7)] → S_X7_beaten_L86 i3 i4 i5 x_order n86 i6 i7 = some (r, o_x_order) → W p l e rX7_beaten s m (([.ref ax, .int i1, .int i2, .int i3] : List Value).toArray) below meth c H locs 0 0 (MQ below (CQi r D [(ax, .inr (7, [.ref ax_row, .ref ax_text, .int x_letters, .int x_at, .ref ax_read, .ref ax_undone, .int x_undos, .ref ax_order, .ref ax_dones, .int x_away, .int x_bestSet, .ref ax_aside, .ref ax_tapedWho, .ref ax_tapedTill, .int x_taped, .ref ax_kept, .int x_keeps])), (ax_row, .inl (cyI, 28, .inl x_row)), (ax_order, .inl (cyI, 8, .inl o_x_order))] A) (([.ref ax, .int i1, .int i2, .int i3] : List Value).toArray) s 0 0 A) (F0 m 86 ls []) := by
                intro n86
                induction n86 with
                | zero => intro i4 i5 x_order i6 i7 H locs ls hP hD hS hl hf; exact absurd hf (by simp [S_X7_beaten_L86])
                | succ n86 ih86 =>
                  intro i4 i5 x_order i6 i7 H locs ls hP hD hS hl hf
                  rw [S_X7_beaten_L86] at hf
                  refine lv_iload hx hb dX7_beaten_86 (lv_at hl 4 rfl) ?_
                  refine lv_if_eq (tgt := 109) hx hb dX7_beaten_88 (by decide) (fun c88 => ?_) (fun c88 => ?_)
                  · replace hf := ip c88 hf
                    refine lv_iload_n hx hb dX7_beaten_109 rfl (lv_at hl 0 rfl) ?_
                    refine lv_if_ne (tgt := 121) hx hb dX7_beaten_110 (by decide) (fun c110 => ?_) (fun c110 => ?_)
                    · replace hf := iq c110 hf
                      refine lv_iload hx hb dX7_beaten_121 (lv_at hl 2 rfl) ?_
                      refine lv_iload hx hb dX7_beaten_123 (lv_at hl 3 rfl) ?_
                      obtain ⟨z125, hf⟩ := oi hf
                      refine lv_idiv hx hb dX7_beaten_125 z125 ?_
                      simp only [Option.some.injEq, Prod.mk.injEq] at hf
                      obtain ⟨rfl, rfl⟩ := hf
                      exact W.iret hx hb hr (fun t ht hW => ⟨⟨_, (), rfl, rfl, by rw [ht]; exact hP, hD⟩, hS.F ht⟩) hS.2.2 dX7_beaten_126
                    · replace hf := ip c110 hf
                      refine lv_iload hx hb dX7_beaten_113 (lv_at hl 1 rfl) ?_
                      refine lv_iload hx hb dX7_beaten_115 (lv_at hl 3 rfl) ?_
                      obtain ⟨z117, hf⟩ := oi hf
                      refine lv_idiv hx hb dX7_beaten_117 z117 ?_
                      refine lv_goto (tgt := 126) hx hb dX7_beaten_118 (by decide) ?_
                      simp only [Option.some.injEq, Prod.mk.injEq] at hf
                      obtain ⟨rfl, rfl⟩ := hf
                      exact W.iret hx hb hr (fun t ht hW => ⟨⟨_, (), rfl, rfl, by rw [ht]; exact hP, hD⟩, hS.F ht⟩) hS.2.2 dX7_beaten_126
                  · replace hf := iq c88 hf
                    refine lv_iload hx hb dX7_beaten_91 (lv_at hl 3 rfl) ?_
                    refine lv_iload hx hb dX7_beaten_93 (lv_at hl 4 rfl) ?_
                    obtain ⟨z95, hf⟩ := oi hf
                    refine lv_irem hx hb dX7_beaten_95 z95 ?_
                    refine lv_istore (lv' := [(8, .int (i6 - i6 / i7 * i7)), (3, .int i3), (4, .int i4), (5, .int i5), (6, .int i6), (7, .int i7)]) hx hb dX7_beaten_96 hl (by decide) rfl (fun ls hl => ?_)
                    refine lv_iload hx hb dX7_beaten_98 (lv_at hl 5 rfl) ?_
                    refine lv_istore (lv' := [(6, .int i7), (8, .int (i6 - i6 / i7 * i7)), (3, .int i3), (4, .int i4), (5, .int i5), (7, .int i7)]) hx hb dX7_beaten_100 hl (by decide) rfl (fun ls hl => ?_)
                    refine lv_iload hx hb dX7_beaten_102 (lv_at hl 1 rfl) ?_
                    refine lv_istore (lv' := [(7, .int (i6 - i6 / i7 * i7)), (6, .int i7), (8, .int (i6 - i6 / i7 * i7)), (3, .int i3), (4, .int i4), (5, .int i5)]) hx hb dX7_beaten_104 hl (by decide) rfl (fun ls hl => ?_)
                    refine lv_goto (tgt := 86) hx hb dX7_beaten_106 (by decide) ?_
                    exact ih86 i4 i5 x_order i7 (i6 - i6 / i7 * i7) _ _ _ hP hD hS (lv_sub hl [3, 4, 5, 1, 0] rfl) hf
              exact hL86 300 i4 i5 x_order i4 i5 _ _ _ hP hD hS (lv_sub hl [5, 6, 7, 1, 0] rfl) hf
            · replace hf := iq c53 hf
              refine lv_iload hx hb dX7_beaten_56 (lv_at hl 4 rfl) ?_
              refine lv_bipush (v := 10) hx hb dX7_beaten_58 (by decide) ?_
              refine lv_iload_n hx hb dX7_beaten_60 rfl (lv_at hl 2 rfl) ?_
              refine lv_isub hx hb dX7_beaten_61 ?_
              refine lv_imul hx hb dX7_beaten_62 ?_
              refine lv_istore (lv' := [(4, .int (i4 * ((10 : Int32) - i2))), (0, .ref ax), (1, .int i1), (2, .int i2), (3, .int i3), (5, .int i5), (6, .int i6)]) hx hb dX7_beaten_63 hl (by decide) rfl (fun ls hl => ?_)
              refine lv_iload hx hb dX7_beaten_65 (lv_at hl 5 rfl) ?_
              refine lv_bipush (v := 10) hx hb dX7_beaten_67 (by decide) ?_
              refine lv_imul hx hb dX7_beaten_69 ?_
              refine lv_istore (lv' := [(5, .int (i5 * (10 : Int32))), (4, .int (i4 * ((10 : Int32) - i2))), (0, .ref ax), (1, .int i1), (2, .int i2), (3, .int i3), (6, .int i6)]) hx hb dX7_beaten_70 hl (by decide) rfl (fun ls hl => ?_)
              refine lv_iinc (v := i6 + (1 : Int32)) (lv' := [(6, .int (i6 + (1 : Int32))), (5, .int (i5 * (10 : Int32))), (4, .int (i4 * ((10 : Int32) - i2))), (0, .ref ax), (1, .int i1), (2, .int i2), (3, .int i3)]) hx hb dX7_beaten_72 hl (k := 6) rfl rfl (by decide) rfl (fun ls hl => ?_)
              refine lv_goto (tgt := 45) hx hb dX7_beaten_75 (by decide) ?_
              exact ih45 x_order (i4 * ((10 : Int32) - i2)) (i5 * (10 : Int32)) (i6 + (1 : Int32)) _ _ _ hP hD hS (lv_sub hl [3, 4, 5, 6, 2, 1, 0] rfl) hf
        exact hL45 300 x_order_o33 (1 : Int32) (1 : Int32) (0 : Int32) _ _ _ hP hD hS (lv_sub hl [3, 4, 5, 6, 2, 1, 0] rfl) hf
      · replace hf := ip c27 hf
        refine lv_iconst (v := -1) hx hb dX7_beaten_30 (by decide) ?_
        simp only [Option.some.injEq, Prod.mk.injEq] at hf
        obtain ⟨rfl, rfl⟩ := hf
        exact W.iret hx hb hr (fun t ht hW => ⟨⟨_, (), rfl, rfl, by rw [ht]; exact hP, hD⟩, hS.F ht⟩) hS.2.2 dX7_beaten_31
abbrev rX7_learner : Room := { frames := 5, cells := 0, slots := 0, locals := 115 }
set_option maxHeartbeats 4000000 in
set_option maxRecDepth 100000 in
theorem c_X7_learner (l : Launch) (D : va_G) (cyI cyC cyS : ClassId) (sz : Nat) (ax : Nat) (ax_row : Nat) (ax_text : Nat) (ax_read : Nat) (ax_undone : Nat) (ax_order : Nat) (ax_dones : Nat) (ax_aside : Nat) (ax_tapedWho : Nat) (ax_tapedTill : Nat) (ax_kept : Nat) (x_letters : Int32) (x_at : Int32) (x_undos : Int32) (x_away : Int32) (x_bestSet : Int32) (x_taped : Int32) (x_keeps : Int32) (x_row : Nat → Int32) (x_order : Nat → Int32) (x_dones : Nat → Int32) {r : Int32} {o_x_away : Int32} {o_x_bestSet : Int32} {o_x_row : Nat → Int32} {o_x_order : Nat → Int32} {o_x_dones : Nat → Int32} (hf : S_X7_learner x_away x_bestSet x_row x_order x_dones = some (r, o_x_away, o_x_bestSet, o_x_row, o_x_order, o_x_dones)) : Met l yX7_learner wsX7_learner rX7_learner (Cpre [.ref ax] D cyI cyC cyS sz [(ax, .inr (7, [.ref ax_row, .ref ax_text, .int x_letters, .int x_at, .ref ax_read, .ref ax_undone, .int x_undos, .ref ax_order, .ref ax_dones, .int x_away, .int x_bestSet, .ref ax_aside, .ref ax_tapedWho, .ref ax_tapedTill, .int x_taped, .ref ax_kept, .int x_keeps])), (ax_row, .inl (cyI, 28, .inl x_row)), (ax_order, .inl (cyI, 8, .inl x_order)), (ax_dones, .inl (cyI, 8, .inl x_dones))]) (CQi r D [(ax, .inr (7, [.ref ax_row, .ref ax_text, .int x_letters, .int x_at, .ref ax_read, .ref ax_undone, .int x_undos, .ref ax_order, .ref ax_dones, .int o_x_away, .int o_x_bestSet, .ref ax_aside, .ref ax_tapedWho, .ref ax_tapedTill, .int x_taped, .ref ax_kept, .int x_keeps])), (ax_row, .inl (cyI, 28, .inl o_x_row)), (ax_order, .inl (cyI, 8, .inl o_x_order)), (ax_dones, .inl (cyI, 8, .inl o_x_dones))] (va_A [(ax, .inr (7, [.ref ax_row, .ref ax_text, .int x_letters, .int x_at, .ref ax_read, .ref ax_undone, .int x_undos, .ref ax_order, .ref ax_dones, .int x_away, .int x_bestSet, .ref ax_aside, .ref ax_tapedWho, .ref ax_tapedTill, .int x_taped, .ref ax_kept, .int x_keeps])), (ax_row, .inl (cyI, 28, .inl x_row)), (ax_order, .inl (cyI, 8, .inl x_order)), (ax_dones, .inl (cyI, 8, .inl x_dones))] sz)) 0 0 (va_A [(ax, .inr (7, [.ref ax_row, .ref ax_text, .int x_letters, .int x_at, .ref ax_read, .ref ax_undone, .int x_undos, .ref ax_order, .ref ax_dones, .int x_away, .int x_bestSet, .ref ax_aside, .ref ax_tapedWho, .ref ax_tapedTill, .int x_taped, .ref ax_kept, .int x_keeps])), (ax_row, .inl (cyI, 28, .inl x_row)), (ax_order, .inl (cyI, 8, .inl x_order)), (ax_dones, .inl (cyI, 8, .inl x_dones))] sz) := by
  refine Met.ofW (cc := cX7_learner) (maxL := 5) (ret := (some .int)) (by decide) rfl ?_
  intro p e s m args below meth c s₁ B hml hv
  obtain ⟨rfl, hsz, hP, hK, hD0⟩ := hv
  have hx := B.exec
  have hb := B.bytes
  have hr := B.returns
  have hts := atoms_spec (ws := wsX7_learner) B.pre
  have hown : s.vm.findClass RX7 = some m.cls := findClass_of_methodNamed B.named
  have hlocks := B.notSynchronized
  subst hsz
  have hD := hD0.self (sz := s.heap.size)
  generalize hAe : va_A [(ax, .inr (7, [.ref ax_row, .ref ax_text, .int x_letters, .int x_at, .ref ax_read, .ref ax_undone, .int x_undos, .ref ax_order, .ref ax_dones, .int x_away, .int x_bestSet, .ref ax_aside, .ref ax_tapedWho, .ref ax_tapedTill, .int x_taped, .ref ax_kept, .int x_keeps])), (ax_row, .inl (cyI, 28, .inl x_row)), (ax_order, .inl (cyI, 8, .inl x_order)), (ax_dones, .inl (cyI, 8, .inl x_dones))] s.heap.size = A at hD ⊢
  have hA : ∀ q : Nat, s.heap.size ≤ q → A q := fun q h => by rw [← hAe]; exact Or.inr h
  have hS : va_S A s.heap s.heap [] := va_S.rf
  have hl := lv_entry ([.ref ax]) (n := 5) (Nat.le_of_ble_eq_true rfl)
  rw [lg_entry_eq]
  generalize (lg_sl ([.ref ax]) ++ List.replicate (5 - (lg_sl ([.ref ax])).length) Slot.unset).toArray = ls at hl ⊢
  have hl : lv_has ls 5 [(0, .ref ax)] := hl
  have f7 := hts (.fieldLink RX7 7 "SecondTillModel" "row" "[I") (by decide +kernel)
  have inX7 : ∀ w ∈ u_ws RX7 TX7 17, w ∈ wsX7_learner := by decide +kernel
  unfold S_X7_learner at hf
  have hP : va_P D vwCl [(ax, .inr (7, [.ref ax_row, .ref ax_text, .int x_letters, .int x_at, .ref ax_read, .ref ax_undone, .int x_undos, .ref ax_order, .ref ax_dones, .int x_away, .int x_bestSet, .ref ax_aside, .ref ax_tapedWho, .ref ax_tapedTill, .int x_taped, .ref ax_kept, .int x_keeps])), (ax_row, .inl (cyI, 28, .inl x_row)), (ax_order, .inl (cyI, 8, .inl x_order)), (ax_dones, .inl (cyI, 8, .inl x_dones))] s.heap := hP
  suffices hgo : ∀ (H : Heap) (locs : List Loc), va_P D vwCl [(ax, .inr (7, [.ref ax_row, .ref ax_text, .int x_letters, .int x_at, .ref ax_read, .ref ax_undone, .int x_undos, .ref ax_order, .ref ax_dones, .int x_away, .int x_bestSet, .ref ax_aside, .ref ax_tapedWho, .ref ax_tapedTill, .int x_taped, .ref ax_kept, .int x_keeps])), (ax_row, .inl (cyI, 28, .inl x_row)), (ax_order, .inl (cyI, 8, .inl x_order)), (ax_dones, .inl (cyI, 8, .inl x_dones))] H → va_S A s.heap H locs → W p l e rX7_learner s m (([.ref ax] : List Value).toArray) below meth c H locs 0 0 (MQ below (CQi r D [(ax, .inr (7, [.ref ax_row, .ref ax_text, .int x_letters, .int x_at, .ref ax_read, .ref ax_undone, .int x_undos, .ref ax_order, .ref ax_dones, .int o_x_away, .int o_x_bestSet, .ref ax_aside, .ref ax_tapedWho, .ref ax_tapedTill, .int x_taped, .ref ax_kept, .int x_keeps])), (ax_row, .inl (cyI, 28, .inl o_x_row)), (ax_order, .inl (cyI, 8, .inl o_x_order)), (ax_dones, .inl (cyI, 8, .inl o_x_dones))] A) (([.ref ax] : List Value).toArray) s 0 0 A) (F0 m 0 ls []) from hgo _ _ hP hS
  clear hP hS
  intro H locs hP hS
  refine lv_aload_n hx hb dX7_learner_0 rfl (lv_at hl 0 rfl) ?_
  refine va_get (C := RX7) (T := TX7) (N := 17) hx hb hts inX7 hown hK.1 hP 0 rfl rfl 0 (by decide) f7 (fun _ h9 => h9) rfl dX7_learner_1 ?_
  refine lv_iconst (v := 2) hx hb dX7_learner_4 (by decide) ?_
  refine a_ild hx hb hK hP 1 rfl (vin (by decide)) 2 (by decide) dX7_learner_5 ?_
  refine lv_istore_n (lv' := [(1, .int (x_row 2)), (0, .ref ax)]) hx hb dX7_learner_6 rfl hl (by decide) rfl (fun ls hl => ?_)
  refine lv_bipush (v := -4) hx hb dX7_learner_7 (by decide) ?_
  refine lv_istore_n (lv' := [(2, .int (-4 : Int32)), (1, .int (x_row 2)), (0, .ref ax)]) hx hb dX7_learner_9 rfl hl (by decide) rfl (fun ls hl => ?_)
  refine lv_iconst (v := 1) hx hb dX7_learner_10 (by decide) ?_
  refine lv_istore_n (lv' := [(3, .int (1 : Int32)), (2, .int (-4 : Int32)), (1, .int (x_row 2)), (0, .ref ax)]) hx hb dX7_learner_11 rfl hl (by decide) rfl (fun ls hl => ?_)
  have hL12 : ∀ (n12 : Nat) (i1 : Int32) (i2 : Int32) (i3 : Int32) (x_away : Int32) (x_bestSet : Int32) (x_row : Nat → Int32) (x_order : Nat → Int32) (x_dones : Nat → Int32) (H : Heap) (locs : List Loc) (ls : Array Slot), va_P D vwCl [(ax, .inr (7, [.ref ax_row, .ref ax_text, .int x_letters, .int x_at, .ref ax_read, .ref ax_undone, .int x_undos, .ref ax_order, .ref ax_dones, .int x_away, .int x_bestSet, .ref ax_aside, .ref ax_tapedWho, .ref ax_tapedTill, .int x_taped, .ref ax_kept, .int x_keeps])), (ax_row, .inl (cyI, 28, .inl x_row)), (ax_order, .inl (cyI, 8, .inl x_order)), (ax_dones, .inl (cyI, 8, .inl x_dones))] H → va_D A [(ax, .inr (7, [.ref ax_row, .ref ax_text, .int x_letters, .int x_at, .ref ax_read, .ref ax_undone, .int x_undos, .ref ax_order, .ref ax_dones, .int x_away, .int x_bestSet, .ref ax_aside, .ref ax_tapedWho, .ref ax_tapedTill, .int x_taped, .ref ax_kept, .int x_keeps])), (ax_row, .inl (cyI, 28, .inl x_row)), (ax_order, .inl (cyI, 8, .inl x_order)), (ax_dones, .inl (cyI, 8, .inl x_dones))] → va_S A s.heap H locs → lv_has ls 5 [(0, .ref ax), (1, .int i1), (2, .int i2), (3, .int i3)] → S_X7_learner_L12 i1 n12 i2 i3 x_away x_bestSet x_row x_order x_dones = some (r, o_x_away, o_x_bestSet, o_x_row, o_x_order, o_x_dones) → W p l e rX7_learner s m (([.ref ax] : List Value).toArray) below meth c H locs 0 0 (MQ below (CQi r D [(ax, .inr (7, [.ref ax_row, .ref ax_text, .int x_letters, .int x_at, .ref ax_read, .ref ax_undone, .int x_undos, .ref ax_order, .ref ax_dones, .int o_x_away, .int o_x_bestSet, .ref ax_aside, .ref ax_tapedWho, .ref ax_tapedTill, .int x_taped, .ref ax_kept, .int x_keeps])), (ax_row, .inl (cyI, 28, .inl o_x_row)), (ax_order, .inl (cyI, 8, .inl o_x_order)), (ax_dones, .inl (cyI, 8, .inl o_x_dones))] A) (([.ref ax] : List Value).toArray) s 0 0 A) (F0 m 12 ls []) := by
    intro n12
    induction n12 with
    | zero => intro i1 i2 i3 x_away x_bestSet x_row x_order x_dones H locs ls hP hD hS hl hf; exact absurd hf (by simp [S_X7_learner_L12])
    | succ n12 ih12 =>
      intro i1 i2 i3 x_away x_bestSet x_row x_order x_dones H locs ls hP hD hS hl hf
      rw [S_X7_learner_L12] at hf
      refine lv_iload_n hx hb dX7_learner_12 rfl (lv_at hl 3 rfl) ?_
      refine lv_bipush (v := 10) hx hb dX7_learner_13 (by decide) ?_
      refine lv_icmp_ge (tgt := 59) hx hb dX7_learner_15 (by decide) (fun c15 => ?_) (fun c15 => ?_)
      · replace hf := ip c15 hf
        refine lv_aload_n hx hb dX7_learner_59 rfl (lv_at hl 0 rfl) ?_
        refine va_get (C := RX7) (T := TX7) (N := 17) hx hb hts inX7 hown hK.1 hP 0 rfl rfl 0 (by decide) f7 (fun _ h9 => h9) rfl dX7_learner_60 ?_
        refine lv_iconst (v := 2) hx hb dX7_learner_63 (by decide) ?_
        refine lv_iload_n hx hb dX7_learner_64 rfl (lv_at hl 1 rfl) ?_
        refine a_ist (wn := [(ax, .inr (7, [.ref ax_row, .ref ax_text, .int x_letters, .int x_at, .ref ax_read, .ref ax_undone, .int x_undos, .ref ax_order, .ref ax_dones, .int x_away, .int x_bestSet, .ref ax_aside, .ref ax_tapedWho, .ref ax_tapedTill, .int x_taped, .ref ax_kept, .int x_keeps])), (ax_row, .inl (cyI, 28, .inl (upd x_row 2 i1))), (ax_order, .inl (cyI, 8, .inl x_order)), (ax_dones, .inl (cyI, 8, .inl x_dones))]) hx hb hK hP hD hS 1 rfl (vin (by decide)) 2 (by decide) rfl dX7_learner_65 (fun H locs hP hD hS => ?_)
        refine lv_iload_n hx hb dX7_learner_66 rfl (lv_at hl 2 rfl) ?_
        simp only [Option.some.injEq, Prod.mk.injEq] at hf
        obtain ⟨rfl, rfl, rfl, rfl, rfl, rfl⟩ := hf
        exact W.iret hx hb hr (fun t ht hW => ⟨⟨_, (), rfl, rfl, by rw [ht]; exact hP, hD⟩, hS.F ht⟩) hS.2.2 dX7_learner_67
      · replace hf := iq c15 hf
        refine lv_aload_n hx hb dX7_learner_18 rfl (lv_at hl 0 rfl) ?_
        refine va_get (C := RX7) (T := TX7) (N := 17) hx hb hts inX7 hown hK.1 hP 0 rfl rfl 0 (by decide) f7 (fun _ h9 => h9) rfl dX7_learner_19 ?_
        refine lv_iconst (v := 2) hx hb dX7_learner_22 (by decide) ?_
        refine lv_iload_n hx hb dX7_learner_23 rfl (lv_at hl 3 rfl) ?_
        refine a_ist (wn := [(ax, .inr (7, [.ref ax_row, .ref ax_text, .int x_letters, .int x_at, .ref ax_read, .ref ax_undone, .int x_undos, .ref ax_order, .ref ax_dones, .int x_away, .int x_bestSet, .ref ax_aside, .ref ax_tapedWho, .ref ax_tapedTill, .int x_taped, .ref ax_kept, .int x_keeps])), (ax_row, .inl (cyI, 28, .inl (upd x_row 2 i3))), (ax_order, .inl (cyI, 8, .inl x_order)), (ax_dones, .inl (cyI, 8, .inl x_dones))]) hx hb hK hP hD hS 1 rfl (vin (by decide)) 2 (by decide) rfl dX7_learner_24 (fun H locs hP hD hS => ?_)
        refine lv_aload_n hx hb dX7_learner_25 rfl (lv_at hl 0 rfl) ?_
        refine lv_iconst (v := 0) hx hb dX7_learner_26 (by decide) ?_
        obtain ⟨⟨x_away_o27, x_order_o27, x_dones_o27⟩, q27, hf⟩ := ob hf
        replace hf : _ = _ := hf
        refine k_v (wc := [(ax, .inr (7, [.ref ax_row, .ref ax_text, .int x_letters, .int x_at, .ref ax_read, .ref ax_undone, .int x_undos, .ref ax_order, .ref ax_dones, .int x_away, .int x_bestSet, .ref ax_aside, .ref ax_tapedWho, .ref ax_tapedTill, .int x_taped, .ref ax_kept, .int x_keeps])), (ax_row, .inl (cyI, 28, .inl (upd x_row 2 i3))), (ax_order, .inl (cyI, 8, .inl x_order)), (ax_dones, .inl (cyI, 8, .inl x_dones))]) (wr := []) (w1 := [(ax, .inr (7, [.ref ax_row, .ref ax_text, .int x_letters, .int x_at, .ref ax_read, .ref ax_undone, .int x_undos, .ref ax_order, .ref ax_dones, .int x_away_o27, .int x_bestSet, .ref ax_aside, .ref ax_tapedWho, .ref ax_tapedTill, .int x_taped, .ref ax_kept, .int x_keeps])), (ax_row, .inl (cyI, 28, .inl (upd x_row 2 i3))), (ax_order, .inl (cyI, 8, .inl x_order_o27)), (ax_dones, .inl (cyI, 8, .inl x_dones_o27))]) (wn := [(ax, .inr (7, [.ref ax_row, .ref ax_text, .int x_letters, .int x_at, .ref ax_read, .ref ax_undone, .int x_undos, .ref ax_order, .ref ax_dones, .int x_away_o27, .int x_bestSet, .ref ax_aside, .ref ax_tapedWho, .ref ax_tapedTill, .int x_taped, .ref ax_kept, .int x_keeps])), (ax_row, .inl (cyI, 28, .inl (upd x_row 2 i3))), (ax_order, .inl (cyI, 8, .inl x_order_o27)), (ax_dones, .inl (cyI, 8, .inl x_dones_o27))]) (va_runV (As := [.int (0 : Int32)]) (rest := []) ⟨hx, hb, hml, hown, hts⟩ (c_X7_sends l D cyI cyC cyS H.size ax ax_row ax_text ax_read ax_undone ax_order ax_dones ax_aside ax_tapedWho ax_tapedTill ax_kept x_letters x_at x_undos x_away x_bestSet x_taped x_keeps (upd x_row 2 i3) x_order x_dones (0 : Int32) q27) (cwV 1 hts gX7_learner_X7_sends rfl rfl rfl (by decide +kernel) ⟨Nat.le_of_ble_eq_true rfl, Nat.le_of_ble_eq_true rfl⟩) (preV (ci := 7) hK (hP.subm (ws' := [(ax, .inr (7, [.ref ax_row, .ref ax_text, .int x_letters, .int x_at, .ref ax_read, .ref ax_undone, .int x_undos, .ref ax_order, .ref ax_dones, .int x_away, .int x_bestSet, .ref ax_aside, .ref ax_tapedWho, .ref ax_tapedTill, .int x_taped, .ref ax_kept, .int x_keeps])), (ax_row, .inl (cyI, 28, .inl (upd x_row 2 i3))), (ax_order, .inl (cyI, 8, .inl x_order)), (ax_dones, .inl (cyI, 8, .inl x_dones))]) [0, 1, 2, 3] rfl) (hD.sub (ws' := [(ax, .inr (7, [.ref ax_row, .ref ax_text, .int x_letters, .int x_at, .ref ax_read, .ref ax_undone, .int x_undos, .ref ax_order, .ref ax_dones, .int x_away, .int x_bestSet, .ref ax_aside, .ref ax_tapedWho, .ref ax_tapedTill, .int x_taped, .ref ax_kept, .int x_keeps])), (ax_row, .inl (cyI, 28, .inl (upd x_row 2 i3))), (ax_order, .inl (cyI, 8, .inl x_order)), (ax_dones, .inl (cyI, 8, .inl x_dones))]) [0, 1, 2, 3] (by decide) rfl) rfl rfl) rfl rfl hl.1 rfl (lv_room (Nat.le_of_ble_eq_true rfl)) dX7_learner_27 ⟨Nat.le_of_ble_eq_true rfl, Nat.le_of_ble_eq_true rfl⟩) hP hD hS hA [0, 1, 2, 3] [] [0, 1, 2, 3] rfl rfl rfl (by decide) (by decide) (by decide) (fun H locs hP hD hS => ?_)
        refine lv_aload_n hx hb dX7_learner_30 rfl (lv_at hl 0 rfl) ?_
        obtain ⟨r31, q31, hf⟩ := ob hf
        refine k_i (wc := [(ax, .inr (7, [.ref ax_row, .ref ax_text, .int x_letters, .int x_at, .ref ax_read, .ref ax_undone, .int x_undos, .ref ax_order, .ref ax_dones, .int x_away_o27, .int x_bestSet, .ref ax_aside, .ref ax_tapedWho, .ref ax_tapedTill, .int x_taped, .ref ax_kept, .int x_keeps])), (ax_row, .inl (cyI, 28, .inl (upd x_row 2 i3))), (ax_dones, .inl (cyI, 8, .inl x_dones_o27))]) (wr := [(ax_order, .inl (cyI, 8, .inl x_order_o27))]) (w1 := [(ax, .inr (7, [.ref ax_row, .ref ax_text, .int x_letters, .int x_at, .ref ax_read, .ref ax_undone, .int x_undos, .ref ax_order, .ref ax_dones, .int x_away_o27, .int x_bestSet, .ref ax_aside, .ref ax_tapedWho, .ref ax_tapedTill, .int x_taped, .ref ax_kept, .int x_keeps])), (ax_row, .inl (cyI, 28, .inl (upd x_row 2 i3))), (ax_dones, .inl (cyI, 8, .inl x_dones_o27))]) (wn := [(ax, .inr (7, [.ref ax_row, .ref ax_text, .int x_letters, .int x_at, .ref ax_read, .ref ax_undone, .int x_undos, .ref ax_order, .ref ax_dones, .int x_away_o27, .int x_bestSet, .ref ax_aside, .ref ax_tapedWho, .ref ax_tapedTill, .int x_taped, .ref ax_kept, .int x_keeps])), (ax_row, .inl (cyI, 28, .inl (upd x_row 2 i3))), (ax_order, .inl (cyI, 8, .inl x_order_o27)), (ax_dones, .inl (cyI, 8, .inl x_dones_o27))]) (va_runV (As := []) (rest := []) ⟨hx, hb, hml, hown, hts⟩ (c_X7_sum l D cyI cyC cyS H.size ax ax_row ax_text ax_read ax_undone ax_order ax_dones ax_aside ax_tapedWho ax_tapedTill ax_kept x_letters x_at x_undos x_away_o27 x_bestSet x_taped x_keeps (upd x_row 2 i3) x_dones_o27 q31) (cwV 0 hts gX7_learner_X7_sum rfl rfl rfl (by decide +kernel) ⟨Nat.le_of_ble_eq_true rfl, Nat.le_of_ble_eq_true rfl⟩) (preV (ci := 7) hK (hP.subm (ws' := [(ax, .inr (7, [.ref ax_row, .ref ax_text, .int x_letters, .int x_at, .ref ax_read, .ref ax_undone, .int x_undos, .ref ax_order, .ref ax_dones, .int x_away_o27, .int x_bestSet, .ref ax_aside, .ref ax_tapedWho, .ref ax_tapedTill, .int x_taped, .ref ax_kept, .int x_keeps])), (ax_row, .inl (cyI, 28, .inl (upd x_row 2 i3))), (ax_dones, .inl (cyI, 8, .inl x_dones_o27))]) [0, 1, 3] rfl) (hD.sub (ws' := [(ax, .inr (7, [.ref ax_row, .ref ax_text, .int x_letters, .int x_at, .ref ax_read, .ref ax_undone, .int x_undos, .ref ax_order, .ref ax_dones, .int x_away_o27, .int x_bestSet, .ref ax_aside, .ref ax_tapedWho, .ref ax_tapedTill, .int x_taped, .ref ax_kept, .int x_keeps])), (ax_row, .inl (cyI, 28, .inl (upd x_row 2 i3))), (ax_dones, .inl (cyI, 8, .inl x_dones_o27))]) [0, 1, 3] (by decide) rfl) rfl rfl) rfl rfl hl.1 rfl (lv_room (Nat.le_of_ble_eq_true rfl)) dX7_learner_31 ⟨Nat.le_of_ble_eq_true rfl, Nat.le_of_ble_eq_true rfl⟩) hP hD hS hA [0, 1, 3] [2] [1, 2, 0, 3] rfl rfl rfl (by decide) (by decide) (by decide) (fun H locs hP hD hS => ?_)
        refine lv_istore (lv' := [(4, .int r31), (0, .ref ax), (1, .int i1), (2, .int i2), (3, .int i3)]) hx hb dX7_learner_34 hl (by decide) rfl (fun ls hl => ?_)
        refine lv_aload_n hx hb dX7_learner_36 rfl (lv_at hl 1 rfl) ?_
        refine lv_iconst (v := 1) hx hb dX7_learner_37 (by decide) ?_
        refine lv_iconst (v := 0) hx hb dX7_learner_38 (by decide) ?_
        obtain ⟨⟨r39, x_away_o39, x_bestSet_o39, x_order_o39, x_dones_o39⟩, q39, hf⟩ := ob hf
        replace hf : _ = _ := hf
        refine k_i (wc := [(ax, .inr (7, [.ref ax_row, .ref ax_text, .int x_letters, .int x_at, .ref ax_read, .ref ax_undone, .int x_undos, .ref ax_order, .ref ax_dones, .int x_away_o27, .int x_bestSet, .ref ax_aside, .ref ax_tapedWho, .ref ax_tapedTill, .int x_taped, .ref ax_kept, .int x_keeps])), (ax_row, .inl (cyI, 28, .inl (upd x_row 2 i3))), (ax_order, .inl (cyI, 8, .inl x_order_o27)), (ax_dones, .inl (cyI, 8, .inl x_dones_o27))]) (wr := []) (w1 := [(ax, .inr (7, [.ref ax_row, .ref ax_text, .int x_letters, .int x_at, .ref ax_read, .ref ax_undone, .int x_undos, .ref ax_order, .ref ax_dones, .int x_away_o39, .int x_bestSet_o39, .ref ax_aside, .ref ax_tapedWho, .ref ax_tapedTill, .int x_taped, .ref ax_kept, .int x_keeps])), (ax_row, .inl (cyI, 28, .inl (upd x_row 2 i3))), (ax_order, .inl (cyI, 8, .inl x_order_o39)), (ax_dones, .inl (cyI, 8, .inl x_dones_o39))]) (wn := [(ax, .inr (7, [.ref ax_row, .ref ax_text, .int x_letters, .int x_at, .ref ax_read, .ref ax_undone, .int x_undos, .ref ax_order, .ref ax_dones, .int x_away_o39, .int x_bestSet_o39, .ref ax_aside, .ref ax_tapedWho, .ref ax_tapedTill, .int x_taped, .ref ax_kept, .int x_keeps])), (ax_row, .inl (cyI, 28, .inl (upd x_row 2 i3))), (ax_order, .inl (cyI, 8, .inl x_order_o39)), (ax_dones, .inl (cyI, 8, .inl x_dones_o39))]) (va_runV (As := [.int (1 : Int32), .int (0 : Int32)]) (rest := []) ⟨hx, hb, hml, hown, hts⟩ (c_X7_leastOf l D cyI cyC cyS H.size ax ax_row ax_text ax_read ax_undone ax_order ax_dones ax_aside ax_tapedWho ax_tapedTill ax_kept x_letters x_at x_undos x_away_o27 x_bestSet x_taped x_keeps (upd x_row 2 i3) x_order_o27 x_dones_o27 (1 : Int32) (0 : Int32) q39) (cwV 2 hts gX7_learner_X7_leastOf rfl rfl rfl (by decide +kernel) ⟨Nat.le_of_ble_eq_true rfl, Nat.le_of_ble_eq_true rfl⟩) (preV (ci := 7) hK (hP.subm (ws' := [(ax, .inr (7, [.ref ax_row, .ref ax_text, .int x_letters, .int x_at, .ref ax_read, .ref ax_undone, .int x_undos, .ref ax_order, .ref ax_dones, .int x_away_o27, .int x_bestSet, .ref ax_aside, .ref ax_tapedWho, .ref ax_tapedTill, .int x_taped, .ref ax_kept, .int x_keeps])), (ax_row, .inl (cyI, 28, .inl (upd x_row 2 i3))), (ax_order, .inl (cyI, 8, .inl x_order_o27)), (ax_dones, .inl (cyI, 8, .inl x_dones_o27))]) [0, 1, 2, 3] rfl) (hD.sub (ws' := [(ax, .inr (7, [.ref ax_row, .ref ax_text, .int x_letters, .int x_at, .ref ax_read, .ref ax_undone, .int x_undos, .ref ax_order, .ref ax_dones, .int x_away_o27, .int x_bestSet, .ref ax_aside, .ref ax_tapedWho, .ref ax_tapedTill, .int x_taped, .ref ax_kept, .int x_keeps])), (ax_row, .inl (cyI, 28, .inl (upd x_row 2 i3))), (ax_order, .inl (cyI, 8, .inl x_order_o27)), (ax_dones, .inl (cyI, 8, .inl x_dones_o27))]) [0, 1, 2, 3] (by decide) rfl) rfl rfl) rfl rfl hl.1 rfl (lv_room (Nat.le_of_ble_eq_true rfl)) dX7_learner_39 ⟨Nat.le_of_ble_eq_true rfl, Nat.le_of_ble_eq_true rfl⟩) hP hD hS hA [0, 1, 2, 3] [] [0, 1, 2, 3] rfl rfl rfl (by decide) (by decide) (by decide) (fun H locs hP hD hS => ?_)
        refine lv_iload hx hb dX7_learner_42 (lv_at hl 0 rfl) ?_
        refine lv_icmp_ge (tgt := 51) hx hb dX7_learner_44 (by decide) (fun c44 => ?_) (fun c44 => ?_)
        · replace hf := ip c44 hf
          refine lv_iload_n hx hb dX7_learner_51 rfl (lv_at hl 3 rfl) ?_
          refine lv_istore_n (lv' := [(2, .int i2), (4, .int r31), (0, .ref ax), (1, .int i1), (3, .int i3)]) hx hb dX7_learner_52 rfl hl (by decide) rfl (fun ls hl => ?_)
          refine lv_iinc (v := i3 + (1 : Int32)) (lv' := [(3, .int (i3 + (1 : Int32))), (2, .int i2), (4, .int r31), (0, .ref ax), (1, .int i1)]) hx hb dX7_learner_53 hl (k := 4) rfl rfl (by decide) rfl (fun ls hl => ?_)
          refine lv_goto (tgt := 12) hx hb dX7_learner_56 (by decide) ?_
          exact ih12 i1 i2 (i3 + (1 : Int32)) x_away_o39 x_bestSet_o39 (upd x_row 2 i3) x_order_o39 x_dones_o39 _ _ _ hP hD hS (lv_sub hl [3, 4, 1, 0] rfl) hf
        · replace hf := iq c44 hf
          refine lv_iload_n hx hb dX7_learner_47 rfl (lv_at hl 4 rfl) ?_
          refine lv_goto (tgt := 52) hx hb dX7_learner_48 (by decide) ?_
          refine lv_istore_n (lv' := [(2, .int i3), (4, .int r31), (0, .ref ax), (1, .int i1), (3, .int i3)]) hx hb dX7_learner_52 rfl hl (by decide) rfl (fun ls hl => ?_)
          refine lv_iinc (v := i3 + (1 : Int32)) (lv' := [(3, .int (i3 + (1 : Int32))), (2, .int i3), (4, .int r31), (0, .ref ax), (1, .int i1)]) hx hb dX7_learner_53 hl (k := 4) rfl rfl (by decide) rfl (fun ls hl => ?_)
          refine lv_goto (tgt := 12) hx hb dX7_learner_56 (by decide) ?_
          exact ih12 i1 i3 (i3 + (1 : Int32)) x_away_o39 x_bestSet_o39 (upd x_row 2 i3) x_order_o39 x_dones_o39 _ _ _ hP hD hS (lv_sub hl [3, 4, 1, 0] rfl) hf
  exact hL12 300 (x_row 2) (-4 : Int32) (1 : Int32) x_away x_bestSet x_row x_order x_dones _ _ _ hP hD hS (lv_sub hl [3, 2, 1, 0] rfl) hf
abbrev rX7_day : Room := { frames := 2, cells := 0, slots := 0, locals := 45 }
set_option maxHeartbeats 4000000 in
set_option maxRecDepth 100000 in
theorem c_X7_day (l : Launch) (D : va_G) (cyI cyC cyS : ClassId) (sz : Nat) (ax : Nat) (ax_row : Nat) (ax_text : Nat) (ax_read : Nat) (ax_undone : Nat) (ax_order : Nat) (ax_dones : Nat) (ax_aside : Nat) (ax_tapedWho : Nat) (ax_tapedTill : Nat) (ax_kept : Nat) (x_letters : Int32) (x_at : Int32) (x_undos : Int32) (x_away : Int32) (x_bestSet : Int32) (x_taped : Int32) (x_keeps : Int32) (x_row : Nat → Int32) (x_aside : Nat → Int32) (i1 : Int32) (i2 : Int32) (i3 : Int32) {r : Int32} {o_x_row : Nat → Int32} {o_x_aside : Nat → Int32} (hf : S_X7_day i1 i2 i3 x_row x_aside = some (r, o_x_row, o_x_aside)) : Met l yX7_day wsX7_day rX7_day (Cpre [.ref ax, .int i1, .int i2, .int i3] D cyI cyC cyS sz [(ax, .inr (7, [.ref ax_row, .ref ax_text, .int x_letters, .int x_at, .ref ax_read, .ref ax_undone, .int x_undos, .ref ax_order, .ref ax_dones, .int x_away, .int x_bestSet, .ref ax_aside, .ref ax_tapedWho, .ref ax_tapedTill, .int x_taped, .ref ax_kept, .int x_keeps])), (ax_row, .inl (cyI, 28, .inl x_row)), (ax_aside, .inl (cyI, 28, .inl x_aside))]) (CQi r D [(ax, .inr (7, [.ref ax_row, .ref ax_text, .int x_letters, .int x_at, .ref ax_read, .ref ax_undone, .int x_undos, .ref ax_order, .ref ax_dones, .int x_away, .int x_bestSet, .ref ax_aside, .ref ax_tapedWho, .ref ax_tapedTill, .int x_taped, .ref ax_kept, .int x_keeps])), (ax_row, .inl (cyI, 28, .inl o_x_row)), (ax_aside, .inl (cyI, 28, .inl o_x_aside))] (va_A [(ax, .inr (7, [.ref ax_row, .ref ax_text, .int x_letters, .int x_at, .ref ax_read, .ref ax_undone, .int x_undos, .ref ax_order, .ref ax_dones, .int x_away, .int x_bestSet, .ref ax_aside, .ref ax_tapedWho, .ref ax_tapedTill, .int x_taped, .ref ax_kept, .int x_keeps])), (ax_row, .inl (cyI, 28, .inl x_row)), (ax_aside, .inl (cyI, 28, .inl x_aside))] sz)) 0 0 (va_A [(ax, .inr (7, [.ref ax_row, .ref ax_text, .int x_letters, .int x_at, .ref ax_read, .ref ax_undone, .int x_undos, .ref ax_order, .ref ax_dones, .int x_away, .int x_bestSet, .ref ax_aside, .ref ax_tapedWho, .ref ax_tapedTill, .int x_taped, .ref ax_kept, .int x_keeps])), (ax_row, .inl (cyI, 28, .inl x_row)), (ax_aside, .inl (cyI, 28, .inl x_aside))] sz) := by
  refine Met.ofW (cc := cX7_day) (maxL := 9) (ret := (some .int)) (by decide) rfl ?_
  intro p e s m args below meth c s₁ B hml hv
  obtain ⟨rfl, hsz, hP, hK, hD0⟩ := hv
  have hx := B.exec
  have hb := B.bytes
  have hr := B.returns
  have hts := atoms_spec (ws := wsX7_day) B.pre
  have hown : s.vm.findClass RX7 = some m.cls := findClass_of_methodNamed B.named
  have hlocks := B.notSynchronized
  subst hsz
  have hD := hD0.self (sz := s.heap.size)
  generalize hAe : va_A [(ax, .inr (7, [.ref ax_row, .ref ax_text, .int x_letters, .int x_at, .ref ax_read, .ref ax_undone, .int x_undos, .ref ax_order, .ref ax_dones, .int x_away, .int x_bestSet, .ref ax_aside, .ref ax_tapedWho, .ref ax_tapedTill, .int x_taped, .ref ax_kept, .int x_keeps])), (ax_row, .inl (cyI, 28, .inl x_row)), (ax_aside, .inl (cyI, 28, .inl x_aside))] s.heap.size = A at hD ⊢
  have hA : ∀ q : Nat, s.heap.size ≤ q → A q := fun q h => by rw [← hAe]; exact Or.inr h
  have hS : va_S A s.heap s.heap [] := va_S.rf
  have hl := lv_entry ([.ref ax, .int i1, .int i2, .int i3]) (n := 9) (Nat.le_of_ble_eq_true rfl)
  rw [lg_entry_eq]
  generalize (lg_sl ([.ref ax, .int i1, .int i2, .int i3]) ++ List.replicate (9 - (lg_sl ([.ref ax, .int i1, .int i2, .int i3])).length) Slot.unset).toArray = ls at hl ⊢
  have hl : lv_has ls 9 [(0, .ref ax), (1, .int i1), (2, .int i2), (3, .int i3)] := hl
  have k183 := hts (.constantLong RX7 183 (9999)) (by decide +kernel)
  have k185 := hts (.constantLong RX7 185 (30)) (by decide +kernel)
  have f7 := hts (.fieldLink RX7 7 "SecondTillModel" "row" "[I") (by decide +kernel)
  have inX7 : ∀ w ∈ u_ws RX7 TX7 17, w ∈ wsX7_day := by decide +kernel
  have k187 := hts (.constantLong RX7 187 (7919)) (by decide +kernel)
  have k189 := hts (.constantLong RX7 189 (6151)) (by decide +kernel)
  have k191 := hts (.constantLong RX7 191 (65521)) (by decide +kernel)
  unfold S_X7_day at hf
  have hP : va_P D vwCl [(ax, .inr (7, [.ref ax_row, .ref ax_text, .int x_letters, .int x_at, .ref ax_read, .ref ax_undone, .int x_undos, .ref ax_order, .ref ax_dones, .int x_away, .int x_bestSet, .ref ax_aside, .ref ax_tapedWho, .ref ax_tapedTill, .int x_taped, .ref ax_kept, .int x_keeps])), (ax_row, .inl (cyI, 28, .inl x_row)), (ax_aside, .inl (cyI, 28, .inl x_aside))] s.heap := hP
  suffices hgo : ∀ (H : Heap) (locs : List Loc), va_P D vwCl [(ax, .inr (7, [.ref ax_row, .ref ax_text, .int x_letters, .int x_at, .ref ax_read, .ref ax_undone, .int x_undos, .ref ax_order, .ref ax_dones, .int x_away, .int x_bestSet, .ref ax_aside, .ref ax_tapedWho, .ref ax_tapedTill, .int x_taped, .ref ax_kept, .int x_keeps])), (ax_row, .inl (cyI, 28, .inl x_row)), (ax_aside, .inl (cyI, 28, .inl x_aside))] H → va_S A s.heap H locs → W p l e rX7_day s m (([.ref ax, .int i1, .int i2, .int i3] : List Value).toArray) below meth c H locs 0 0 (MQ below (CQi r D [(ax, .inr (7, [.ref ax_row, .ref ax_text, .int x_letters, .int x_at, .ref ax_read, .ref ax_undone, .int x_undos, .ref ax_order, .ref ax_dones, .int x_away, .int x_bestSet, .ref ax_aside, .ref ax_tapedWho, .ref ax_tapedTill, .int x_taped, .ref ax_kept, .int x_keeps])), (ax_row, .inl (cyI, 28, .inl o_x_row)), (ax_aside, .inl (cyI, 28, .inl o_x_aside))] A) (([.ref ax, .int i1, .int i2, .int i3] : List Value).toArray) s 0 0 A) (F0 m 0 ls []) from hgo _ _ hP hS
  clear hP hS
  intro H locs hP hS
  refine lv_iload_n hx hb dX7_day_0 rfl (lv_at hl 1 rfl) ?_
  refine lv_i2l (v := i1.toInt64) hx hb dX7_day_1 rfl ?_
  refine lv_lconst (v := 0) hx hb dX7_day_2 (by decide) ?_
  refine lv_ldc2 hx hb hown k183 dX7_day_3 ?_
  obtain ⟨r6, q6, hf⟩ := ob hf
  refine k_i (wc := []) (wr := [(ax, .inr (7, [.ref ax_row, .ref ax_text, .int x_letters, .int x_at, .ref ax_read, .ref ax_undone, .int x_undos, .ref ax_order, .ref ax_dones, .int x_away, .int x_bestSet, .ref ax_aside, .ref ax_tapedWho, .ref ax_tapedTill, .int x_taped, .ref ax_kept, .int x_keeps])), (ax_row, .inl (cyI, 28, .inl x_row)), (ax_aside, .inl (cyI, 28, .inl x_aside))]) (w1 := []) (wn := [(ax, .inr (7, [.ref ax_row, .ref ax_text, .int x_letters, .int x_at, .ref ax_read, .ref ax_undone, .int x_undos, .ref ax_order, .ref ax_dones, .int x_away, .int x_bestSet, .ref ax_aside, .ref ax_tapedWho, .ref ax_tapedTill, .int x_taped, .ref ax_kept, .int x_keeps])), (ax_row, .inl (cyI, 28, .inl x_row)), (ax_aside, .inl (cyI, 28, .inl x_aside))]) (va_runS (As := [.long i1.toInt64, .long (0 : Int64), .long (9999 : Int64)]) (rest := []) ⟨hx, hb, hml, hown, hts⟩ (c_X7_in l D cyI cyC cyS H.size i1.toInt64 (0 : Int64) (9999 : Int64) q6) (va_cwS 3 hts gX7_day_X7_in rfl rfl rfl (by decide +kernel) ⟨Nat.le_of_ble_eq_true rfl, Nat.le_of_ble_eq_true rfl⟩) (preS hK (hP.subm (ws' := []) [] rfl) (hD.sub (ws' := []) [] (by decide) rfl)) rfl rfl hl.1 rfl (lv_room (Nat.le_of_ble_eq_true rfl)) dX7_day_6 ⟨Nat.le_of_ble_eq_true rfl, Nat.le_of_ble_eq_true rfl⟩) hP hD hS hA [] [0, 1, 2] [0, 1, 2] rfl rfl rfl (by decide) (by decide) (by decide) (fun H locs hP hD hS => ?_)
  refine lv_if_eq (tgt := 34) hx hb dX7_day_9 (by decide) (fun c9 => ?_) (fun c9 => ?_)
  · replace hf := ip c9 hf
    refine lv_iconst (v := -1) hx hb dX7_day_34 (by decide) ?_
    simp only [Option.some.injEq, Prod.mk.injEq] at hf
    obtain ⟨rfl, rfl, rfl⟩ := hf
    exact W.iret hx hb hr (fun t ht hW => ⟨⟨_, (), rfl, rfl, by rw [ht]; exact hP, hD⟩, hS.F ht⟩) hS.2.2 dX7_day_35
  · replace hf := iq c9 hf
    refine lv_iload_n hx hb dX7_day_12 rfl (lv_at hl 2 rfl) ?_
    refine lv_i2l (v := i2.toInt64) hx hb dX7_day_13 rfl ?_
    refine lv_lconst (v := 1) hx hb dX7_day_14 (by decide) ?_
    refine lv_ldc2 hx hb hown k185 dX7_day_15 ?_
    obtain ⟨r18, q18, hf⟩ := ob hf
    refine k_i (wc := []) (wr := [(ax, .inr (7, [.ref ax_row, .ref ax_text, .int x_letters, .int x_at, .ref ax_read, .ref ax_undone, .int x_undos, .ref ax_order, .ref ax_dones, .int x_away, .int x_bestSet, .ref ax_aside, .ref ax_tapedWho, .ref ax_tapedTill, .int x_taped, .ref ax_kept, .int x_keeps])), (ax_row, .inl (cyI, 28, .inl x_row)), (ax_aside, .inl (cyI, 28, .inl x_aside))]) (w1 := []) (wn := [(ax, .inr (7, [.ref ax_row, .ref ax_text, .int x_letters, .int x_at, .ref ax_read, .ref ax_undone, .int x_undos, .ref ax_order, .ref ax_dones, .int x_away, .int x_bestSet, .ref ax_aside, .ref ax_tapedWho, .ref ax_tapedTill, .int x_taped, .ref ax_kept, .int x_keeps])), (ax_row, .inl (cyI, 28, .inl x_row)), (ax_aside, .inl (cyI, 28, .inl x_aside))]) (va_runS (As := [.long i2.toInt64, .long (1 : Int64), .long (30 : Int64)]) (rest := []) ⟨hx, hb, hml, hown, hts⟩ (c_X7_in l D cyI cyC cyS H.size i2.toInt64 (1 : Int64) (30 : Int64) q18) (va_cwS 3 hts gX7_day_X7_in rfl rfl rfl (by decide +kernel) ⟨Nat.le_of_ble_eq_true rfl, Nat.le_of_ble_eq_true rfl⟩) (preS hK (hP.subm (ws' := []) [] rfl) (hD.sub (ws' := []) [] (by decide) rfl)) rfl rfl hl.1 rfl (lv_room (Nat.le_of_ble_eq_true rfl)) dX7_day_18 ⟨Nat.le_of_ble_eq_true rfl, Nat.le_of_ble_eq_true rfl⟩) hP hD hS hA [] [0, 1, 2] [0, 1, 2] rfl rfl rfl (by decide) (by decide) (by decide) (fun H locs hP hD hS => ?_)
    refine lv_if_eq (tgt := 34) hx hb dX7_day_21 (by decide) (fun c21 => ?_) (fun c21 => ?_)
    · replace hf := ip c21 hf
      refine lv_iconst (v := -1) hx hb dX7_day_34 (by decide) ?_
      simp only [Option.some.injEq, Prod.mk.injEq] at hf
      obtain ⟨rfl, rfl, rfl⟩ := hf
      exact W.iret hx hb hr (fun t ht hW => ⟨⟨_, (), rfl, rfl, by rw [ht]; exact hP, hD⟩, hS.F ht⟩) hS.2.2 dX7_day_35
    · replace hf := iq c21 hf
      refine lv_iload_n hx hb dX7_day_24 rfl (lv_at hl 3 rfl) ?_
      refine lv_i2l (v := i3.toInt64) hx hb dX7_day_25 rfl ?_
      refine lv_lconst (v := 0) hx hb dX7_day_26 (by decide) ?_
      refine lv_lconst (v := 1) hx hb dX7_day_27 (by decide) ?_
      obtain ⟨r28, q28, hf⟩ := ob hf
      refine k_i (wc := []) (wr := [(ax, .inr (7, [.ref ax_row, .ref ax_text, .int x_letters, .int x_at, .ref ax_read, .ref ax_undone, .int x_undos, .ref ax_order, .ref ax_dones, .int x_away, .int x_bestSet, .ref ax_aside, .ref ax_tapedWho, .ref ax_tapedTill, .int x_taped, .ref ax_kept, .int x_keeps])), (ax_row, .inl (cyI, 28, .inl x_row)), (ax_aside, .inl (cyI, 28, .inl x_aside))]) (w1 := []) (wn := [(ax, .inr (7, [.ref ax_row, .ref ax_text, .int x_letters, .int x_at, .ref ax_read, .ref ax_undone, .int x_undos, .ref ax_order, .ref ax_dones, .int x_away, .int x_bestSet, .ref ax_aside, .ref ax_tapedWho, .ref ax_tapedTill, .int x_taped, .ref ax_kept, .int x_keeps])), (ax_row, .inl (cyI, 28, .inl x_row)), (ax_aside, .inl (cyI, 28, .inl x_aside))]) (va_runS (As := [.long i3.toInt64, .long (0 : Int64), .long (1 : Int64)]) (rest := []) ⟨hx, hb, hml, hown, hts⟩ (c_X7_in l D cyI cyC cyS H.size i3.toInt64 (0 : Int64) (1 : Int64) q28) (va_cwS 3 hts gX7_day_X7_in rfl rfl rfl (by decide +kernel) ⟨Nat.le_of_ble_eq_true rfl, Nat.le_of_ble_eq_true rfl⟩) (preS hK (hP.subm (ws' := []) [] rfl) (hD.sub (ws' := []) [] (by decide) rfl)) rfl rfl hl.1 rfl (lv_room (Nat.le_of_ble_eq_true rfl)) dX7_day_28 ⟨Nat.le_of_ble_eq_true rfl, Nat.le_of_ble_eq_true rfl⟩) hP hD hS hA [] [0, 1, 2] [0, 1, 2] rfl rfl rfl (by decide) (by decide) (by decide) (fun H locs hP hD hS => ?_)
      refine lv_if_ne (tgt := 36) hx hb dX7_day_31 (by decide) (fun c31 => ?_) (fun c31 => ?_)
      · replace hf := iq c31 hf
        refine lv_aload_n hx hb dX7_day_36 rfl (lv_at hl 0 rfl) ?_
        obtain ⟨x_aside_o37, q37, hf⟩ := ob hf
        refine k_v (wc := [(ax, .inr (7, [.ref ax_row, .ref ax_text, .int x_letters, .int x_at, .ref ax_read, .ref ax_undone, .int x_undos, .ref ax_order, .ref ax_dones, .int x_away, .int x_bestSet, .ref ax_aside, .ref ax_tapedWho, .ref ax_tapedTill, .int x_taped, .ref ax_kept, .int x_keeps])), (ax_row, .inl (cyI, 28, .inl x_row)), (ax_aside, .inl (cyI, 28, .inl x_aside))]) (wr := []) (w1 := [(ax, .inr (7, [.ref ax_row, .ref ax_text, .int x_letters, .int x_at, .ref ax_read, .ref ax_undone, .int x_undos, .ref ax_order, .ref ax_dones, .int x_away, .int x_bestSet, .ref ax_aside, .ref ax_tapedWho, .ref ax_tapedTill, .int x_taped, .ref ax_kept, .int x_keeps])), (ax_row, .inl (cyI, 28, .inl x_row)), (ax_aside, .inl (cyI, 28, .inl x_aside_o37))]) (wn := [(ax, .inr (7, [.ref ax_row, .ref ax_text, .int x_letters, .int x_at, .ref ax_read, .ref ax_undone, .int x_undos, .ref ax_order, .ref ax_dones, .int x_away, .int x_bestSet, .ref ax_aside, .ref ax_tapedWho, .ref ax_tapedTill, .int x_taped, .ref ax_kept, .int x_keeps])), (ax_row, .inl (cyI, 28, .inl x_row)), (ax_aside, .inl (cyI, 28, .inl x_aside_o37))]) (va_runV (As := []) (rest := []) ⟨hx, hb, hml, hown, hts⟩ (c_X7_asides l D cyI cyC cyS H.size ax ax_row ax_text ax_read ax_undone ax_order ax_dones ax_aside ax_tapedWho ax_tapedTill ax_kept x_letters x_at x_undos x_away x_bestSet x_taped x_keeps x_row x_aside q37) (cwV 0 hts gX7_day_X7_asides rfl rfl rfl (by decide +kernel) ⟨Nat.le_of_ble_eq_true rfl, Nat.le_of_ble_eq_true rfl⟩) (preV (ci := 7) hK (hP.subm (ws' := [(ax, .inr (7, [.ref ax_row, .ref ax_text, .int x_letters, .int x_at, .ref ax_read, .ref ax_undone, .int x_undos, .ref ax_order, .ref ax_dones, .int x_away, .int x_bestSet, .ref ax_aside, .ref ax_tapedWho, .ref ax_tapedTill, .int x_taped, .ref ax_kept, .int x_keeps])), (ax_row, .inl (cyI, 28, .inl x_row)), (ax_aside, .inl (cyI, 28, .inl x_aside))]) [0, 1, 2] rfl) (hD.sub (ws' := [(ax, .inr (7, [.ref ax_row, .ref ax_text, .int x_letters, .int x_at, .ref ax_read, .ref ax_undone, .int x_undos, .ref ax_order, .ref ax_dones, .int x_away, .int x_bestSet, .ref ax_aside, .ref ax_tapedWho, .ref ax_tapedTill, .int x_taped, .ref ax_kept, .int x_keeps])), (ax_row, .inl (cyI, 28, .inl x_row)), (ax_aside, .inl (cyI, 28, .inl x_aside))]) [0, 1, 2] (by decide) rfl) rfl rfl) rfl rfl hl.1 rfl (lv_room (Nat.le_of_ble_eq_true rfl)) dX7_day_37 ⟨Nat.le_of_ble_eq_true rfl, Nat.le_of_ble_eq_true rfl⟩) hP hD hS hA [0, 1, 2] [] [0, 1, 2] rfl rfl rfl (by decide) (by decide) (by decide) (fun H locs hP hD hS => ?_)
        refine lv_iconst (v := 0) hx hb dX7_day_40 (by decide) ?_
        refine lv_istore (lv' := [(4, .int (0 : Int32)), (0, .ref ax), (1, .int i1), (2, .int i2), (3, .int i3)]) hx hb dX7_day_41 hl (by decide) rfl (fun ls hl => ?_)
        refine lv_iconst (v := 0) hx hb dX7_day_43 (by decide) ?_
        refine lv_istore (lv' := [(5, .int (0 : Int32)), (4, .int (0 : Int32)), (0, .ref ax), (1, .int i1), (2, .int i2), (3, .int i3)]) hx hb dX7_day_44 hl (by decide) rfl (fun ls hl => ?_)
        have hL46 : ∀ (n46 : Nat) (x_aside : Nat → Int32) (i4 : Int32) (i5 : Int32) (x_row : Nat → Int32) (H : Heap) (locs : List Loc) (ls : Array Slot), va_P D vwCl [(ax, .inr (7, [.ref ax_row, .ref ax_text, .int x_letters, .int x_at, .ref ax_read, .ref ax_undone, .int x_undos, .ref ax_order, .ref ax_dones, .int x_away, .int x_bestSet, .ref ax_aside, .ref ax_tapedWho, .ref ax_tapedTill, .int x_taped, .ref ax_kept, .int x_keeps])), (ax_row, .inl (cyI, 28, .inl x_row)), (ax_aside, .inl (cyI, 28, .inl x_aside))] H → va_D A [(ax, .inr (7, [.ref ax_row, .ref ax_text, .int x_letters, .int x_at, .ref ax_read, .ref ax_undone, .int x_undos, .ref ax_order, .ref ax_dones, .int x_away, .int x_bestSet, .ref ax_aside, .ref ax_tapedWho, .ref ax_tapedTill, .int x_taped, .ref ax_kept, .int x_keeps])), (ax_row, .inl (cyI, 28, .inl x_row)), (ax_aside, .inl (cyI, 28, .inl x_aside))] → va_S A s.heap H locs → lv_has ls 9 [(0, .ref ax), (1, .int i1), (2, .int i2), (3, .int i3), (4, .int i4), (5, .int i5)] → S_X7_day_L46 i1 i2 i3 x_aside n46 i4 i5 x_row = some (r, o_x_row, o_x_aside) → W p l e rX7_day s m (([.ref ax, .int i1, .int i2, .int i3] : List Value).toArray) below meth c H locs 0 0 (MQ below (CQi r D [(ax, .inr (7, [.ref ax_row, .ref ax_text, .int x_letters, .int x_at, .ref ax_read, .ref ax_undone, .int x_undos, .ref ax_order, .ref ax_dones, .int x_away, .int x_bestSet, .ref ax_aside, .ref ax_tapedWho, .ref ax_tapedTill, .int x_taped, .ref ax_kept, .int x_keeps])), (ax_row, .inl (cyI, 28, .inl o_x_row)), (ax_aside, .inl (cyI, 28, .inl o_x_aside))] A) (([.ref ax, .int i1, .int i2, .int i3] : List Value).toArray) s 0 0 A) (F0 m 46 ls []) := by
          intro n46
          induction n46 with
          | zero => intro x_aside i4 i5 x_row H locs ls hP hD hS hl hf; exact absurd hf (by simp [S_X7_day_L46])
          | succ n46 ih46 =>
            intro x_aside i4 i5 x_row H locs ls hP hD hS hl hf
            rw [S_X7_day_L46] at hf
            refine lv_iload hx hb dX7_day_46 (lv_at hl 5 rfl) ?_
            refine lv_iload_n hx hb dX7_day_48 rfl (lv_at hl 2 rfl) ?_
            refine lv_icmp_ge (tgt := 142) hx hb dX7_day_49 (by decide) (fun c49 => ?_) (fun c49 => ?_)
            · replace hf := ip c49 hf
              refine lv_aload_n hx hb dX7_day_142 rfl (lv_at hl 0 rfl) ?_
              refine va_get (C := RX7) (T := TX7) (N := 17) hx hb hts inX7 hown hK.1 hP 0 rfl rfl 0 (by decide) f7 (fun _ h9 => h9) rfl dX7_day_143 ?_
              refine lv_iconst (v := 0) hx hb dX7_day_146 (by decide) ?_
              refine a_ild hx hb hK hP 1 rfl (vin (by decide)) 0 (by decide) dX7_day_147 ?_
              refine lv_istore (lv' := [(5, .int (x_row 0)), (0, .ref ax), (1, .int i1), (2, .int i2), (3, .int i3), (4, .int i4)]) hx hb dX7_day_148 hl (by decide) rfl (fun ls hl => ?_)
              refine lv_aload_n hx hb dX7_day_150 rfl (lv_at hl 1 rfl) ?_
              obtain ⟨x_row_o151, q151, hf⟩ := ob hf
              refine k_v (wc := [(ax, .inr (7, [.ref ax_row, .ref ax_text, .int x_letters, .int x_at, .ref ax_read, .ref ax_undone, .int x_undos, .ref ax_order, .ref ax_dones, .int x_away, .int x_bestSet, .ref ax_aside, .ref ax_tapedWho, .ref ax_tapedTill, .int x_taped, .ref ax_kept, .int x_keeps])), (ax_aside, .inl (cyI, 28, .inl x_aside)), (ax_row, .inl (cyI, 28, .inl x_row))]) (wr := []) (w1 := [(ax, .inr (7, [.ref ax_row, .ref ax_text, .int x_letters, .int x_at, .ref ax_read, .ref ax_undone, .int x_undos, .ref ax_order, .ref ax_dones, .int x_away, .int x_bestSet, .ref ax_aside, .ref ax_tapedWho, .ref ax_tapedTill, .int x_taped, .ref ax_kept, .int x_keeps])), (ax_aside, .inl (cyI, 28, .inl x_aside)), (ax_row, .inl (cyI, 28, .inl x_row_o151))]) (wn := [(ax, .inr (7, [.ref ax_row, .ref ax_text, .int x_letters, .int x_at, .ref ax_read, .ref ax_undone, .int x_undos, .ref ax_order, .ref ax_dones, .int x_away, .int x_bestSet, .ref ax_aside, .ref ax_tapedWho, .ref ax_tapedTill, .int x_taped, .ref ax_kept, .int x_keeps])), (ax_row, .inl (cyI, 28, .inl x_row_o151)), (ax_aside, .inl (cyI, 28, .inl x_aside))]) (va_runV (As := []) (rest := []) ⟨hx, hb, hml, hown, hts⟩ (c_X7_backs l D cyI cyC cyS H.size ax ax_row ax_text ax_read ax_undone ax_order ax_dones ax_aside ax_tapedWho ax_tapedTill ax_kept x_letters x_at x_undos x_away x_bestSet x_taped x_keeps x_aside x_row q151) (cwV 0 hts gX7_day_X7_backs rfl rfl rfl (by decide +kernel) ⟨Nat.le_of_ble_eq_true rfl, Nat.le_of_ble_eq_true rfl⟩) (preV (ci := 7) hK (hP.subm (ws' := [(ax, .inr (7, [.ref ax_row, .ref ax_text, .int x_letters, .int x_at, .ref ax_read, .ref ax_undone, .int x_undos, .ref ax_order, .ref ax_dones, .int x_away, .int x_bestSet, .ref ax_aside, .ref ax_tapedWho, .ref ax_tapedTill, .int x_taped, .ref ax_kept, .int x_keeps])), (ax_aside, .inl (cyI, 28, .inl x_aside)), (ax_row, .inl (cyI, 28, .inl x_row))]) [0, 2, 1] rfl) (hD.sub (ws' := [(ax, .inr (7, [.ref ax_row, .ref ax_text, .int x_letters, .int x_at, .ref ax_read, .ref ax_undone, .int x_undos, .ref ax_order, .ref ax_dones, .int x_away, .int x_bestSet, .ref ax_aside, .ref ax_tapedWho, .ref ax_tapedTill, .int x_taped, .ref ax_kept, .int x_keeps])), (ax_aside, .inl (cyI, 28, .inl x_aside)), (ax_row, .inl (cyI, 28, .inl x_row))]) [0, 2, 1] (by decide) rfl) rfl rfl) rfl rfl hl.1 rfl (lv_room (Nat.le_of_ble_eq_true rfl)) dX7_day_151 ⟨Nat.le_of_ble_eq_true rfl, Nat.le_of_ble_eq_true rfl⟩) hP hD hS hA [0, 2, 1] [] [0, 2, 1] rfl rfl rfl (by decide) (by decide) (by decide) (fun H locs hP hD hS => ?_)
              refine lv_iload_n hx hb dX7_day_154 rfl (lv_at hl 4 rfl) ?_
              refine lv_if_ne (tgt := 163) hx hb dX7_day_155 (by decide) (fun c155 => ?_) (fun c155 => ?_)
              · replace hf := iq c155 hf
                refine lv_iload hx hb dX7_day_163 (lv_at hl 0 rfl) ?_
                simp only [Option.some.injEq, Prod.mk.injEq] at hf
                obtain ⟨rfl, rfl, rfl⟩ := hf
                exact W.iret hx hb hr (fun t ht hW => ⟨⟨_, (), rfl, rfl, by rw [ht]; exact hP, hD⟩, hS.F ht⟩) hS.2.2 dX7_day_165
              · replace hf := ip c155 hf
                refine lv_iload hx hb dX7_day_158 (lv_at hl 5 rfl) ?_
                refine lv_goto (tgt := 165) hx hb dX7_day_160 (by decide) ?_
                simp only [Option.some.injEq, Prod.mk.injEq] at hf
                obtain ⟨rfl, rfl, rfl⟩ := hf
                exact W.iret hx hb hr (fun t ht hW => ⟨⟨_, (), rfl, rfl, by rw [ht]; exact hP, hD⟩, hS.F ht⟩) hS.2.2 dX7_day_165
            · replace hf := iq c49 hf
              refine lv_ldc2 hx hb hown k187 dX7_day_52 ?_
              refine lv_iload_n hx hb dX7_day_55 rfl (lv_at hl 1 rfl) ?_
              refine lv_i2l (v := i1.toInt64) hx hb dX7_day_56 rfl ?_
              refine lv_lmul hx hb dX7_day_57 ?_
              refine lv_ldc2 hx hb hown k189 dX7_day_58 ?_
              refine lv_iload hx hb dX7_day_61 (lv_at hl 5 rfl) ?_
              refine lv_i2l (v := i5.toInt64) hx hb dX7_day_63 rfl ?_
              refine lv_lmul hx hb dX7_day_64 ?_
              refine lv_ladd hx hb dX7_day_65 ?_
              refine lv_lconst (v := 1) hx hb dX7_day_66 (by decide) ?_
              refine lv_ladd hx hb dX7_day_67 ?_
              refine lv_topl (fun v68 ev68 => ?_)
              replace hf := nm_h hf v68 ev68
              refine lv_lstore (lv' := [(6, .long v68), (0, .ref ax), (1, .int i1), (2, .int i2), (3, .int i3), (4, .int i4), (5, .int i5)]) hx hb dX7_day_68 hl (by decide) rfl (fun ls hl => ?_)
              refine lv_lload hx hb dX7_day_70 (lv_at hl 0 rfl) ?_
              refine lv_lload hx hb dX7_day_72 (lv_at hl 0 rfl) ?_
              refine lv_lmul hx hb dX7_day_74 ?_
              refine lv_ldc2 hx hb hown k191 dX7_day_75 ?_
              refine lv_lrem hx hb dX7_day_78 (by decide) ?_
              refine lv_l2i (v := ((v68 * v68) - (v68 * v68) / (65521 : Int64) * (65521 : Int64)).toInt32) hx hb dX7_day_79 rfl ?_
              refine lv_topi (fun v80 ev80 => ?_)
              replace hf := nm_h hf v80 ev80
              refine lv_istore (lv' := [(8, .int v80), (6, .long v68), (0, .ref ax), (1, .int i1), (2, .int i2), (3, .int i3), (4, .int i4), (5, .int i5)]) hx hb dX7_day_80 hl (by decide) rfl (fun ls hl => ?_)
              refine lv_aload_n hx hb dX7_day_82 rfl (lv_at hl 2 rfl) ?_
              refine va_get (C := RX7) (T := TX7) (N := 17) hx hb hts inX7 hown hK.1 hP 0 rfl rfl 0 (by decide) f7 (fun _ h9 => h9) rfl dX7_day_83 ?_
              refine lv_iconst (v := 0) hx hb dX7_day_86 (by decide) ?_
              refine a_ild hx hb hK hP 1 rfl (vin (by decide)) 0 (by decide) dX7_day_87 ?_
              refine lv_bipush (v := 8) hx hb dX7_day_88 (by decide) ?_
              have hJ119 : ∀ (x_row_119 : Nat → Int32) (H : Heap) (locs : List Loc) (ls : Array Slot), va_P D vwCl [(ax, .inr (7, [.ref ax_row, .ref ax_text, .int x_letters, .int x_at, .ref ax_read, .ref ax_undone, .int x_undos, .ref ax_order, .ref ax_dones, .int x_away, .int x_bestSet, .ref ax_aside, .ref ax_tapedWho, .ref ax_tapedTill, .int x_taped, .ref ax_kept, .int x_keeps])), (ax_row, .inl (cyI, 28, .inl x_row_119)), (ax_aside, .inl (cyI, 28, .inl x_aside))] H → va_D A [(ax, .inr (7, [.ref ax_row, .ref ax_text, .int x_letters, .int x_at, .ref ax_read, .ref ax_undone, .int x_undos, .ref ax_order, .ref ax_dones, .int x_away, .int x_bestSet, .ref ax_aside, .ref ax_tapedWho, .ref ax_tapedTill, .int x_taped, .ref ax_kept, .int x_keeps])), (ax_row, .inl (cyI, 28, .inl x_row_119)), (ax_aside, .inl (cyI, 28, .inl x_aside))] → va_S A s.heap H locs → lv_has ls 9 [(0, .ref ax), (1, .int i1), (2, .int i2), (3, .int i3), (4, .int i4), (5, .int i5), (8, .int v80)] → (Option.bind (S_X7_goesBy ((v80 / (16 : Int32)) - (v80 / (16 : Int32)) / (20 : Int32) * (20 : Int32)) x_row_119) (fun (r130, x_row_o130) =>
((S_X7_day_L46 i1 i2 i3 x_aside n46) (i4 + r130) (i5 + (1 : Int32)) x_row_o130))) = some (r, o_x_row, o_x_aside) → W p l e rX7_day s m (([.ref ax, .int i1, .int i2, .int i3] : List Value).toArray) below meth c H locs 0 0 (MQ below (CQi r D [(ax, .inr (7, [.ref ax_row, .ref ax_text, .int x_letters, .int x_at, .ref ax_read, .ref ax_undone, .int x_undos, .ref ax_order, .ref ax_dones, .int x_away, .int x_bestSet, .ref ax_aside, .ref ax_tapedWho, .ref ax_tapedTill, .int x_taped, .ref ax_kept, .int x_keeps])), (ax_row, .inl (cyI, 28, .inl o_x_row)), (ax_aside, .inl (cyI, 28, .inl o_x_aside))] A) (([.ref ax, .int i1, .int i2, .int i3] : List Value).toArray) s 0 0 A) (F0 m 119 ls []) := by
                intro x_row_119 H locs ls hP hD hS hl hf
                refine lv_iload hx hb dX7_day_119 (lv_at hl 4 rfl) ?_
                refine lv_aload_n hx hb dX7_day_121 rfl (lv_at hl 0 rfl) ?_
                refine lv_iload hx hb dX7_day_122 (lv_at hl 6 rfl) ?_
                refine lv_bipush (v := 16) hx hb dX7_day_124 (by decide) ?_
                refine lv_idiv hx hb dX7_day_126 (by decide) ?_
                refine lv_bipush (v := 20) hx hb dX7_day_127 (by decide) ?_
                refine lv_irem hx hb dX7_day_129 (by decide) ?_
                obtain ⟨⟨r130, x_row_o130⟩, q130, hf⟩ := ob hf
                replace hf : _ = _ := hf
                refine k_i (wc := [(ax, .inr (7, [.ref ax_row, .ref ax_text, .int x_letters, .int x_at, .ref ax_read, .ref ax_undone, .int x_undos, .ref ax_order, .ref ax_dones, .int x_away, .int x_bestSet, .ref ax_aside, .ref ax_tapedWho, .ref ax_tapedTill, .int x_taped, .ref ax_kept, .int x_keeps])), (ax_row, .inl (cyI, 28, .inl x_row_119))]) (wr := [(ax_aside, .inl (cyI, 28, .inl x_aside))]) (w1 := [(ax, .inr (7, [.ref ax_row, .ref ax_text, .int x_letters, .int x_at, .ref ax_read, .ref ax_undone, .int x_undos, .ref ax_order, .ref ax_dones, .int x_away, .int x_bestSet, .ref ax_aside, .ref ax_tapedWho, .ref ax_tapedTill, .int x_taped, .ref ax_kept, .int x_keeps])), (ax_row, .inl (cyI, 28, .inl x_row_o130))]) (wn := [(ax, .inr (7, [.ref ax_row, .ref ax_text, .int x_letters, .int x_at, .ref ax_read, .ref ax_undone, .int x_undos, .ref ax_order, .ref ax_dones, .int x_away, .int x_bestSet, .ref ax_aside, .ref ax_tapedWho, .ref ax_tapedTill, .int x_taped, .ref ax_kept, .int x_keeps])), (ax_row, .inl (cyI, 28, .inl x_row_o130)), (ax_aside, .inl (cyI, 28, .inl x_aside))]) (va_runV (As := [.int ((v80 / (16 : Int32)) - (v80 / (16 : Int32)) / (20 : Int32) * (20 : Int32))]) (rest := [.int i4]) ⟨hx, hb, hml, hown, hts⟩ (c_X7_goesBy l D cyI cyC cyS H.size ax ax_row ax_text ax_read ax_undone ax_order ax_dones ax_aside ax_tapedWho ax_tapedTill ax_kept x_letters x_at x_undos x_away x_bestSet x_taped x_keeps x_row_119 ((v80 / (16 : Int32)) - (v80 / (16 : Int32)) / (20 : Int32) * (20 : Int32)) q130) (cwV 1 hts gX7_day_X7_goesBy rfl rfl rfl (by decide +kernel) ⟨Nat.le_of_ble_eq_true rfl, Nat.le_of_ble_eq_true rfl⟩) (preV (ci := 7) hK (hP.subm (ws' := [(ax, .inr (7, [.ref ax_row, .ref ax_text, .int x_letters, .int x_at, .ref ax_read, .ref ax_undone, .int x_undos, .ref ax_order, .ref ax_dones, .int x_away, .int x_bestSet, .ref ax_aside, .ref ax_tapedWho, .ref ax_tapedTill, .int x_taped, .ref ax_kept, .int x_keeps])), (ax_row, .inl (cyI, 28, .inl x_row_119))]) [0, 1] rfl) (hD.sub (ws' := [(ax, .inr (7, [.ref ax_row, .ref ax_text, .int x_letters, .int x_at, .ref ax_read, .ref ax_undone, .int x_undos, .ref ax_order, .ref ax_dones, .int x_away, .int x_bestSet, .ref ax_aside, .ref ax_tapedWho, .ref ax_tapedTill, .int x_taped, .ref ax_kept, .int x_keeps])), (ax_row, .inl (cyI, 28, .inl x_row_119))]) [0, 1] (by decide) rfl) rfl rfl) rfl rfl hl.1 rfl (lv_room (Nat.le_of_ble_eq_true rfl)) dX7_day_130 ⟨Nat.le_of_ble_eq_true rfl, Nat.le_of_ble_eq_true rfl⟩) hP hD hS hA [0, 1] [2] [1, 2, 0] rfl rfl rfl (by decide) (by decide) (by decide) (fun H locs hP hD hS => ?_)
                refine lv_iadd hx hb dX7_day_133 ?_
                refine lv_istore (lv' := [(4, .int (i4 + r130)), (0, .ref ax), (1, .int i1), (2, .int i2), (3, .int i3), (5, .int i5), (8, .int v80)]) hx hb dX7_day_134 hl (by decide) rfl (fun ls hl => ?_)
                refine lv_iinc (v := i5 + (1 : Int32)) (lv' := [(5, .int (i5 + (1 : Int32))), (4, .int (i4 + r130)), (0, .ref ax), (1, .int i1), (2, .int i2), (3, .int i3), (8, .int v80)]) hx hb dX7_day_136 hl (k := 5) rfl rfl (by decide) rfl (fun ls hl => ?_)
                refine lv_goto (tgt := 46) hx hb dX7_day_139 (by decide) ?_
                exact ih46 x_aside (i4 + r130) (i5 + (1 : Int32)) x_row_o130 _ _ _ hP hD hS (lv_sub hl [2, 3, 4, 5, 1, 0] rfl) hf
              replace hf := jn_h hf
              refine lv_icmp_ge (tgt := 119) hx hb dX7_day_90 (by decide) (fun c90 => ?_) (fun c90 => ?_)
              · replace hf := ip c90 hf
                exact hJ119 x_row _ _ _ hP hD hS (lv_sub hl [2, 3, 4, 5, 6, 7, 0] rfl) hf
              · replace hf := iq c90 hf
                refine lv_aload_n hx hb dX7_day_93 rfl (lv_at hl 2 rfl) ?_
                refine lv_iload hx hb dX7_day_94 (lv_at hl 0 rfl) ?_
                refine lv_iconst (v := 4) hx hb dX7_day_96 (by decide) ?_
                refine lv_irem hx hb dX7_day_97 (by decide) ?_
                refine lv_iload hx hb dX7_day_98 (lv_at hl 0 rfl) ?_
                refine lv_iconst (v := 4) hx hb dX7_day_100 (by decide) ?_
                refine lv_idiv hx hb dX7_day_101 (by decide) ?_
                refine lv_bipush (v := 9) hx hb dX7_day_102 (by decide) ?_
                refine lv_irem hx hb dX7_day_104 (by decide) ?_
                refine lv_iconst (v := 1) hx hb dX7_day_105 (by decide) ?_
                refine lv_iadd hx hb dX7_day_106 ?_
                refine lv_iload hx hb dX7_day_107 (lv_at hl 0 rfl) ?_
                refine lv_bipush (v := 64) hx hb dX7_day_109 (by decide) ?_
                refine lv_idiv hx hb dX7_day_111 (by decide) ?_
                refine lv_iconst (v := 5) hx hb dX7_day_112 (by decide) ?_
                refine lv_irem hx hb dX7_day_113 (by decide) ?_
                refine lv_iconst (v := 1) hx hb dX7_day_114 (by decide) ?_
                refine lv_iadd hx hb dX7_day_115 ?_
                obtain ⟨x_row_o116, q116, hf⟩ := ob hf
                refine k_v (wc := [(ax, .inr (7, [.ref ax_row, .ref ax_text, .int x_letters, .int x_at, .ref ax_read, .ref ax_undone, .int x_undos, .ref ax_order, .ref ax_dones, .int x_away, .int x_bestSet, .ref ax_aside, .ref ax_tapedWho, .ref ax_tapedTill, .int x_taped, .ref ax_kept, .int x_keeps])), (ax_row, .inl (cyI, 28, .inl x_row))]) (wr := [(ax_aside, .inl (cyI, 28, .inl x_aside))]) (w1 := [(ax, .inr (7, [.ref ax_row, .ref ax_text, .int x_letters, .int x_at, .ref ax_read, .ref ax_undone, .int x_undos, .ref ax_order, .ref ax_dones, .int x_away, .int x_bestSet, .ref ax_aside, .ref ax_tapedWho, .ref ax_tapedTill, .int x_taped, .ref ax_kept, .int x_keeps])), (ax_row, .inl (cyI, 28, .inl x_row_o116))]) (wn := [(ax, .inr (7, [.ref ax_row, .ref ax_text, .int x_letters, .int x_at, .ref ax_read, .ref ax_undone, .int x_undos, .ref ax_order, .ref ax_dones, .int x_away, .int x_bestSet, .ref ax_aside, .ref ax_tapedWho, .ref ax_tapedTill, .int x_taped, .ref ax_kept, .int x_keeps])), (ax_row, .inl (cyI, 28, .inl x_row_o116)), (ax_aside, .inl (cyI, 28, .inl x_aside))]) (va_runV (As := [.int (v80 - v80 / (4 : Int32) * (4 : Int32)), .int (((v80 / (4 : Int32)) - (v80 / (4 : Int32)) / (9 : Int32) * (9 : Int32)) + (1 : Int32)), .int (((v80 / (64 : Int32)) - (v80 / (64 : Int32)) / (5 : Int32) * (5 : Int32)) + (1 : Int32))]) (rest := []) ⟨hx, hb, hml, hown, hts⟩ (c_X7_stands l D cyI cyC cyS H.size ax ax_row ax_text ax_read ax_undone ax_order ax_dones ax_aside ax_tapedWho ax_tapedTill ax_kept x_letters x_at x_undos x_away x_bestSet x_taped x_keeps x_row (v80 - v80 / (4 : Int32) * (4 : Int32)) (((v80 / (4 : Int32)) - (v80 / (4 : Int32)) / (9 : Int32) * (9 : Int32)) + (1 : Int32)) (((v80 / (64 : Int32)) - (v80 / (64 : Int32)) / (5 : Int32) * (5 : Int32)) + (1 : Int32)) q116) (cwV 3 hts gX7_day_X7_stands rfl rfl rfl (by decide +kernel) ⟨Nat.le_of_ble_eq_true rfl, Nat.le_of_ble_eq_true rfl⟩) (preV (ci := 7) hK (hP.subm (ws' := [(ax, .inr (7, [.ref ax_row, .ref ax_text, .int x_letters, .int x_at, .ref ax_read, .ref ax_undone, .int x_undos, .ref ax_order, .ref ax_dones, .int x_away, .int x_bestSet, .ref ax_aside, .ref ax_tapedWho, .ref ax_tapedTill, .int x_taped, .ref ax_kept, .int x_keeps])), (ax_row, .inl (cyI, 28, .inl x_row))]) [0, 1] rfl) (hD.sub (ws' := [(ax, .inr (7, [.ref ax_row, .ref ax_text, .int x_letters, .int x_at, .ref ax_read, .ref ax_undone, .int x_undos, .ref ax_order, .ref ax_dones, .int x_away, .int x_bestSet, .ref ax_aside, .ref ax_tapedWho, .ref ax_tapedTill, .int x_taped, .ref ax_kept, .int x_keeps])), (ax_row, .inl (cyI, 28, .inl x_row))]) [0, 1] (by decide) rfl) rfl rfl) rfl rfl hl.1 rfl (lv_room (Nat.le_of_ble_eq_true rfl)) dX7_day_116 ⟨Nat.le_of_ble_eq_true rfl, Nat.le_of_ble_eq_true rfl⟩) hP hD hS hA [0, 1] [2] [1, 2, 0] rfl rfl rfl (by decide) (by decide) (by decide) (fun H locs hP hD hS => ?_)
                exact hJ119 x_row_o116 _ _ _ hP hD hS (lv_sub hl [2, 3, 4, 5, 6, 7, 0] rfl) hf
        exact hL46 300 x_aside_o37 (0 : Int32) (0 : Int32) x_row _ _ _ hP hD hS (lv_sub hl [2, 3, 4, 5, 1, 0] rfl) hf
      · replace hf := ip c31 hf
        refine lv_iconst (v := -1) hx hb dX7_day_34 (by decide) ?_
        simp only [Option.some.injEq, Prod.mk.injEq] at hf
        obtain ⟨rfl, rfl, rfl⟩ := hf
        exact W.iret hx hb hr (fun t ht hW => ⟨⟨_, (), rfl, rfl, by rw [ht]; exact hP, hD⟩, hS.F ht⟩) hS.2.2 dX7_day_35
abbrev rX7_keep : Room := { frames := 0, cells := 0, slots := 0, locals := 0 }
set_option maxHeartbeats 4000000 in
set_option maxRecDepth 100000 in
theorem c_X7_keep (l : Launch) (D : va_G) (cyI cyC cyS : ClassId) (sz : Nat) (ax : Nat) (ax_row : Nat) (ax_text : Nat) (ax_read : Nat) (ax_undone : Nat) (ax_order : Nat) (ax_dones : Nat) (ax_aside : Nat) (ax_tapedWho : Nat) (ax_tapedTill : Nat) (ax_kept : Nat) (x_letters : Int32) (x_at : Int32) (x_undos : Int32) (x_away : Int32) (x_bestSet : Int32) (x_taped : Int32) (x_keeps : Int32) (x_row : Nat → Int32) (x_kept : Nat → Int32) {r : Int32} {o_x_keeps : Int32} {o_x_kept : Nat → Int32} (hf : S_X7_keep x_keeps x_row x_kept = some (r, o_x_keeps, o_x_kept)) : Met l yX7_keep wsX7_keep rX7_keep (Cpre [.ref ax] D cyI cyC cyS sz [(ax, .inr (7, [.ref ax_row, .ref ax_text, .int x_letters, .int x_at, .ref ax_read, .ref ax_undone, .int x_undos, .ref ax_order, .ref ax_dones, .int x_away, .int x_bestSet, .ref ax_aside, .ref ax_tapedWho, .ref ax_tapedTill, .int x_taped, .ref ax_kept, .int x_keeps])), (ax_row, .inl (cyI, 28, .inl x_row)), (ax_kept, .inl (cyI, 56, .inl x_kept))]) (CQi r D [(ax, .inr (7, [.ref ax_row, .ref ax_text, .int x_letters, .int x_at, .ref ax_read, .ref ax_undone, .int x_undos, .ref ax_order, .ref ax_dones, .int x_away, .int x_bestSet, .ref ax_aside, .ref ax_tapedWho, .ref ax_tapedTill, .int x_taped, .ref ax_kept, .int o_x_keeps])), (ax_row, .inl (cyI, 28, .inl x_row)), (ax_kept, .inl (cyI, 56, .inl o_x_kept))] (va_A [(ax, .inr (7, [.ref ax_row, .ref ax_text, .int x_letters, .int x_at, .ref ax_read, .ref ax_undone, .int x_undos, .ref ax_order, .ref ax_dones, .int x_away, .int x_bestSet, .ref ax_aside, .ref ax_tapedWho, .ref ax_tapedTill, .int x_taped, .ref ax_kept, .int x_keeps])), (ax_row, .inl (cyI, 28, .inl x_row)), (ax_kept, .inl (cyI, 56, .inl x_kept))] sz)) 0 0 (va_A [(ax, .inr (7, [.ref ax_row, .ref ax_text, .int x_letters, .int x_at, .ref ax_read, .ref ax_undone, .int x_undos, .ref ax_order, .ref ax_dones, .int x_away, .int x_bestSet, .ref ax_aside, .ref ax_tapedWho, .ref ax_tapedTill, .int x_taped, .ref ax_kept, .int x_keeps])), (ax_row, .inl (cyI, 28, .inl x_row)), (ax_kept, .inl (cyI, 56, .inl x_kept))] sz) := by
  refine Met.ofW (cc := cX7_keep) (maxL := 2) (ret := (some .int)) (by decide) rfl ?_
  intro p e s m args below meth c s₁ B hml hv
  obtain ⟨rfl, hsz, hP, hK, hD0⟩ := hv
  have hx := B.exec
  have hb := B.bytes
  have hr := B.returns
  have hts := atoms_spec (ws := wsX7_keep) B.pre
  have hown : s.vm.findClass RX7 = some m.cls := findClass_of_methodNamed B.named
  have hlocks := B.notSynchronized
  subst hsz
  have hD := hD0.self (sz := s.heap.size)
  generalize hAe : va_A [(ax, .inr (7, [.ref ax_row, .ref ax_text, .int x_letters, .int x_at, .ref ax_read, .ref ax_undone, .int x_undos, .ref ax_order, .ref ax_dones, .int x_away, .int x_bestSet, .ref ax_aside, .ref ax_tapedWho, .ref ax_tapedTill, .int x_taped, .ref ax_kept, .int x_keeps])), (ax_row, .inl (cyI, 28, .inl x_row)), (ax_kept, .inl (cyI, 56, .inl x_kept))] s.heap.size = A at hD ⊢
  have hA : ∀ q : Nat, s.heap.size ≤ q → A q := fun q h => by rw [← hAe]; exact Or.inr h
  have hS : va_S A s.heap s.heap [] := va_S.rf
  have hl := lv_entry ([.ref ax]) (n := 2) (Nat.le_of_ble_eq_true rfl)
  rw [lg_entry_eq]
  generalize (lg_sl ([.ref ax]) ++ List.replicate (2 - (lg_sl ([.ref ax])).length) Slot.unset).toArray = ls at hl ⊢
  have hl : lv_has ls 2 [(0, .ref ax)] := hl
  have f94 := hts (.fieldLink RX7 94 "SecondTillModel" "keeps" "I") (by decide +kernel)
  have inX7 : ∀ w ∈ u_ws RX7 TX7 17, w ∈ wsX7_keep := by decide +kernel
  have f37 := hts (.fieldLink RX7 37 "SecondTillModel" "kept" "[I") (by decide +kernel)
  have f7 := hts (.fieldLink RX7 7 "SecondTillModel" "row" "[I") (by decide +kernel)
  unfold S_X7_keep at hf
  have hP : va_P D vwCl [(ax, .inr (7, [.ref ax_row, .ref ax_text, .int x_letters, .int x_at, .ref ax_read, .ref ax_undone, .int x_undos, .ref ax_order, .ref ax_dones, .int x_away, .int x_bestSet, .ref ax_aside, .ref ax_tapedWho, .ref ax_tapedTill, .int x_taped, .ref ax_kept, .int x_keeps])), (ax_row, .inl (cyI, 28, .inl x_row)), (ax_kept, .inl (cyI, 56, .inl x_kept))] s.heap := hP
  suffices hgo : ∀ (H : Heap) (locs : List Loc), va_P D vwCl [(ax, .inr (7, [.ref ax_row, .ref ax_text, .int x_letters, .int x_at, .ref ax_read, .ref ax_undone, .int x_undos, .ref ax_order, .ref ax_dones, .int x_away, .int x_bestSet, .ref ax_aside, .ref ax_tapedWho, .ref ax_tapedTill, .int x_taped, .ref ax_kept, .int x_keeps])), (ax_row, .inl (cyI, 28, .inl x_row)), (ax_kept, .inl (cyI, 56, .inl x_kept))] H → va_S A s.heap H locs → W p l e rX7_keep s m (([.ref ax] : List Value).toArray) below meth c H locs 0 0 (MQ below (CQi r D [(ax, .inr (7, [.ref ax_row, .ref ax_text, .int x_letters, .int x_at, .ref ax_read, .ref ax_undone, .int x_undos, .ref ax_order, .ref ax_dones, .int x_away, .int x_bestSet, .ref ax_aside, .ref ax_tapedWho, .ref ax_tapedTill, .int x_taped, .ref ax_kept, .int o_x_keeps])), (ax_row, .inl (cyI, 28, .inl x_row)), (ax_kept, .inl (cyI, 56, .inl o_x_kept))] A) (([.ref ax] : List Value).toArray) s 0 0 A) (F0 m 0 ls []) from hgo _ _ hP hS
  clear hP hS
  intro H locs hP hS
  refine lv_aload_n hx hb dX7_keep_0 rfl (lv_at hl 0 rfl) ?_
  refine va_get (C := RX7) (T := TX7) (N := 17) hx hb hts inX7 hown hK.1 hP 0 rfl rfl 16 (by decide) f94 (fun _ h9 => h9) rfl dX7_keep_1 ?_
  refine lv_iconst (v := 2) hx hb dX7_keep_4 (by decide) ?_
  refine lv_icmp_ne (tgt := 11) hx hb dX7_keep_5 (by decide) (fun c5 => ?_) (fun c5 => ?_)
  · replace hf := iq c5 hf
    refine lv_iconst (v := 0) hx hb dX7_keep_11 (by decide) ?_
    refine lv_istore_n (lv' := [(1, .int (0 : Int32)), (0, .ref ax)]) hx hb dX7_keep_12 rfl hl (by decide) rfl (fun ls hl => ?_)
    have hL13 : ∀ (n13 : Nat) (x_keeps : Int32) (i1 : Int32) (x_kept : Nat → Int32) (H : Heap) (locs : List Loc) (ls : Array Slot), va_P D vwCl [(ax, .inr (7, [.ref ax_row, .ref ax_text, .int x_letters, .int x_at, .ref ax_read, .ref ax_undone, .int x_undos, .ref ax_order, .ref ax_dones, .int x_away, .int x_bestSet, .ref ax_aside, .ref ax_tapedWho, .ref ax_tapedTill, .int x_taped, .ref ax_kept, .int x_keeps])), (ax_row, .inl (cyI, 28, .inl x_row)), (ax_kept, .inl (cyI, 56, .inl x_kept))] H → va_D A [(ax, .inr (7, [.ref ax_row, .ref ax_text, .int x_letters, .int x_at, .ref ax_read, .ref ax_undone, .int x_undos, .ref ax_order, .ref ax_dones, .int x_away, .int x_bestSet, .ref ax_aside, .ref ax_tapedWho, .ref ax_tapedTill, .int x_taped, .ref ax_kept, .int x_keeps])), (ax_row, .inl (cyI, 28, .inl x_row)), (ax_kept, .inl (cyI, 56, .inl x_kept))] → va_S A s.heap H locs → lv_has ls 2 [(0, .ref ax), (1, .int i1)] → S_X7_keep_L13 x_keeps x_row n13 i1 x_kept = some (r, o_x_keeps, o_x_kept) → W p l e rX7_keep s m (([.ref ax] : List Value).toArray) below meth c H locs 0 0 (MQ below (CQi r D [(ax, .inr (7, [.ref ax_row, .ref ax_text, .int x_letters, .int x_at, .ref ax_read, .ref ax_undone, .int x_undos, .ref ax_order, .ref ax_dones, .int x_away, .int x_bestSet, .ref ax_aside, .ref ax_tapedWho, .ref ax_tapedTill, .int x_taped, .ref ax_kept, .int o_x_keeps])), (ax_row, .inl (cyI, 28, .inl x_row)), (ax_kept, .inl (cyI, 56, .inl o_x_kept))] A) (([.ref ax] : List Value).toArray) s 0 0 A) (F0 m 13 ls []) := by
      intro n13
      induction n13 with
      | zero => intro x_keeps i1 x_kept H locs ls hP hD hS hl hf; exact absurd hf (by simp [S_X7_keep_L13])
      | succ n13 ih13 =>
        intro x_keeps i1 x_kept H locs ls hP hD hS hl hf
        rw [S_X7_keep_L13] at hf
        refine lv_iload_n hx hb dX7_keep_13 rfl (lv_at hl 1 rfl) ?_
        refine lv_bipush (v := 28) hx hb dX7_keep_14 (by decide) ?_
        refine lv_icmp_ge (tgt := 45) hx hb dX7_keep_16 (by decide) (fun c16 => ?_) (fun c16 => ?_)
        · replace hf := ip c16 hf
          refine lv_aload_n hx hb dX7_keep_45 rfl (lv_at hl 0 rfl) ?_
          refine lv_dup hx hb dX7_keep_46 rfl ?_
          refine va_get (C := RX7) (T := TX7) (N := 17) hx hb hts inX7 hown hK.1 hP 0 rfl rfl 16 (by decide) f94 (fun _ h9 => h9) rfl dX7_keep_47 ?_
          refine lv_iconst (v := 1) hx hb dX7_keep_50 (by decide) ?_
          refine lv_iadd hx hb dX7_keep_51 ?_
          refine a_put (C := RX7) (T := TX7) (N := 17) (wn := [(ax, .inr (7, [.ref ax_row, .ref ax_text, .int x_letters, .int x_at, .ref ax_read, .ref ax_undone, .int x_undos, .ref ax_order, .ref ax_dones, .int x_away, .int x_bestSet, .ref ax_aside, .ref ax_tapedWho, .ref ax_tapedTill, .int x_taped, .ref ax_kept, .int (x_keeps + (1 : Int32))])), (ax_row, .inl (cyI, 28, .inl x_row)), (ax_kept, .inl (cyI, 56, .inl x_kept))]) hx hb hts inX7 tyX7 tyX7_ok nmX7 hown hK hP hD hS 0 rfl rfl 16 (by decide) f94 (fun _ h9 => h9) rfl rfl (Nat.le_of_ble_eq_true rfl) rfl dX7_keep_52 (fun H locs hP hD hS => ?_)
          refine lv_aload_n hx hb dX7_keep_55 rfl (lv_at hl 0 rfl) ?_
          refine va_get (C := RX7) (T := TX7) (N := 17) hx hb hts inX7 hown hK.1 hP 0 rfl rfl 16 (by decide) f94 (fun _ h9 => h9) rfl dX7_keep_56 ?_
          simp only [Option.some.injEq, Prod.mk.injEq] at hf
          obtain ⟨rfl, rfl, rfl⟩ := hf
          exact W.iret hx hb hr (fun t ht hW => ⟨⟨_, (), rfl, rfl, by rw [ht]; exact hP, hD⟩, hS.F ht⟩) hS.2.2 dX7_keep_59
        · replace hf := iq c16 hf
          refine lv_aload_n hx hb dX7_keep_19 rfl (lv_at hl 0 rfl) ?_
          refine va_get (C := RX7) (T := TX7) (N := 17) hx hb hts inX7 hown hK.1 hP 0 rfl rfl 15 (by decide) f37 (fun _ h9 => h9) rfl dX7_keep_20 ?_
          refine lv_bipush (v := 28) hx hb dX7_keep_23 (by decide) ?_
          refine lv_aload_n hx hb dX7_keep_25 rfl (lv_at hl 0 rfl) ?_
          refine va_get (C := RX7) (T := TX7) (N := 17) hx hb hts inX7 hown hK.1 hP 0 rfl rfl 16 (by decide) f94 (fun _ h9 => h9) rfl dX7_keep_26 ?_
          refine lv_imul hx hb dX7_keep_29 ?_
          refine lv_iload_n hx hb dX7_keep_30 rfl (lv_at hl 1 rfl) ?_
          refine lv_iadd hx hb dX7_keep_31 ?_
          refine lv_aload_n hx hb dX7_keep_32 rfl (lv_at hl 0 rfl) ?_
          refine va_get (C := RX7) (T := TX7) (N := 17) hx hb hts inX7 hown hK.1 hP 0 rfl rfl 0 (by decide) f7 (fun _ h9 => h9) rfl dX7_keep_33 ?_
          refine lv_iload_n hx hb dX7_keep_36 rfl (lv_at hl 1 rfl) ?_
          obtain ⟨z37, hf⟩ := oi hf
          refine a_ild hx hb hK hP 1 rfl z37 i1.toNatClampNeg rfl dX7_keep_37 ?_
          obtain ⟨z38, hf⟩ := oi hf
          refine a_ist (wn := [(ax, .inr (7, [.ref ax_row, .ref ax_text, .int x_letters, .int x_at, .ref ax_read, .ref ax_undone, .int x_undos, .ref ax_order, .ref ax_dones, .int x_away, .int x_bestSet, .ref ax_aside, .ref ax_tapedWho, .ref ax_tapedTill, .int x_taped, .ref ax_kept, .int x_keeps])), (ax_row, .inl (cyI, 28, .inl x_row)), (ax_kept, .inl (cyI, 56, .inl (upd x_kept (((28 : Int32) * x_keeps) + i1).toNatClampNeg (x_row i1.toNatClampNeg))))]) hx hb hK hP hD hS 2 rfl z38 (((28 : Int32) * x_keeps) + i1).toNatClampNeg rfl rfl dX7_keep_38 (fun H locs hP hD hS => ?_)
          refine lv_iinc (v := i1 + (1 : Int32)) (lv' := [(1, .int (i1 + (1 : Int32))), (0, .ref ax)]) hx hb dX7_keep_39 hl (k := 1) rfl rfl (by decide) rfl (fun ls hl => ?_)
          refine lv_goto (tgt := 13) hx hb dX7_keep_42 (by decide) ?_
          exact ih13 x_keeps (i1 + (1 : Int32)) (upd x_kept (((28 : Int32) * x_keeps) + i1).toNatClampNeg (x_row i1.toNatClampNeg)) _ _ _ hP hD hS (lv_sub hl [1, 0] rfl) hf
    exact hL13 300 x_keeps (0 : Int32) x_kept _ _ _ hP hD hS (lv_sub hl [1, 0] rfl) hf
  · replace hf := ip c5 hf
    refine lv_bipush (v := -3) hx hb dX7_keep_8 (by decide) ?_
    simp only [Option.some.injEq, Prod.mk.injEq] at hf
    obtain ⟨rfl, rfl, rfl⟩ := hf
    exact W.iret hx hb hr (fun t ht hW => ⟨⟨_, (), rfl, rfl, by rw [ht]; exact hP, hD⟩, hS.F ht⟩) hS.2.2 dX7_keep_10
abbrev rX7_back : Room := { frames := 0, cells := 0, slots := 0, locals := 0 }
set_option maxHeartbeats 4000000 in
set_option maxRecDepth 100000 in
theorem c_X7_back (l : Launch) (D : va_G) (cyI cyC cyS : ClassId) (sz : Nat) (ax : Nat) (ax_row : Nat) (ax_text : Nat) (ax_read : Nat) (ax_undone : Nat) (ax_order : Nat) (ax_dones : Nat) (ax_aside : Nat) (ax_tapedWho : Nat) (ax_tapedTill : Nat) (ax_kept : Nat) (x_letters : Int32) (x_at : Int32) (x_undos : Int32) (x_away : Int32) (x_bestSet : Int32) (x_taped : Int32) (x_keeps : Int32) (x_kept : Nat → Int32) (x_row : Nat → Int32) {r : Int32} {o_x_undos : Int32} {o_x_taped : Int32} {o_x_keeps : Int32} {o_x_row : Nat → Int32} (hf : S_X7_back x_undos x_taped x_keeps x_kept x_row = some (r, o_x_undos, o_x_taped, o_x_keeps, o_x_row)) : Met l yX7_back wsX7_back rX7_back (Cpre [.ref ax] D cyI cyC cyS sz [(ax, .inr (7, [.ref ax_row, .ref ax_text, .int x_letters, .int x_at, .ref ax_read, .ref ax_undone, .int x_undos, .ref ax_order, .ref ax_dones, .int x_away, .int x_bestSet, .ref ax_aside, .ref ax_tapedWho, .ref ax_tapedTill, .int x_taped, .ref ax_kept, .int x_keeps])), (ax_kept, .inl (cyI, 56, .inl x_kept)), (ax_row, .inl (cyI, 28, .inl x_row))]) (CQi r D [(ax, .inr (7, [.ref ax_row, .ref ax_text, .int x_letters, .int x_at, .ref ax_read, .ref ax_undone, .int o_x_undos, .ref ax_order, .ref ax_dones, .int x_away, .int x_bestSet, .ref ax_aside, .ref ax_tapedWho, .ref ax_tapedTill, .int o_x_taped, .ref ax_kept, .int o_x_keeps])), (ax_kept, .inl (cyI, 56, .inl x_kept)), (ax_row, .inl (cyI, 28, .inl o_x_row))] (va_A [(ax, .inr (7, [.ref ax_row, .ref ax_text, .int x_letters, .int x_at, .ref ax_read, .ref ax_undone, .int x_undos, .ref ax_order, .ref ax_dones, .int x_away, .int x_bestSet, .ref ax_aside, .ref ax_tapedWho, .ref ax_tapedTill, .int x_taped, .ref ax_kept, .int x_keeps])), (ax_kept, .inl (cyI, 56, .inl x_kept)), (ax_row, .inl (cyI, 28, .inl x_row))] sz)) 0 0 (va_A [(ax, .inr (7, [.ref ax_row, .ref ax_text, .int x_letters, .int x_at, .ref ax_read, .ref ax_undone, .int x_undos, .ref ax_order, .ref ax_dones, .int x_away, .int x_bestSet, .ref ax_aside, .ref ax_tapedWho, .ref ax_tapedTill, .int x_taped, .ref ax_kept, .int x_keeps])), (ax_kept, .inl (cyI, 56, .inl x_kept)), (ax_row, .inl (cyI, 28, .inl x_row))] sz) := by
  refine Met.ofW (cc := cX7_back) (maxL := 2) (ret := (some .int)) (by decide) rfl ?_
  intro p e s m args below meth c s₁ B hml hv
  obtain ⟨rfl, hsz, hP, hK, hD0⟩ := hv
  have hx := B.exec
  have hb := B.bytes
  have hr := B.returns
  have hts := atoms_spec (ws := wsX7_back) B.pre
  have hown : s.vm.findClass RX7 = some m.cls := findClass_of_methodNamed B.named
  have hlocks := B.notSynchronized
  subst hsz
  have hD := hD0.self (sz := s.heap.size)
  generalize hAe : va_A [(ax, .inr (7, [.ref ax_row, .ref ax_text, .int x_letters, .int x_at, .ref ax_read, .ref ax_undone, .int x_undos, .ref ax_order, .ref ax_dones, .int x_away, .int x_bestSet, .ref ax_aside, .ref ax_tapedWho, .ref ax_tapedTill, .int x_taped, .ref ax_kept, .int x_keeps])), (ax_kept, .inl (cyI, 56, .inl x_kept)), (ax_row, .inl (cyI, 28, .inl x_row))] s.heap.size = A at hD ⊢
  have hA : ∀ q : Nat, s.heap.size ≤ q → A q := fun q h => by rw [← hAe]; exact Or.inr h
  have hS : va_S A s.heap s.heap [] := va_S.rf
  have hl := lv_entry ([.ref ax]) (n := 2) (Nat.le_of_ble_eq_true rfl)
  rw [lg_entry_eq]
  generalize (lg_sl ([.ref ax]) ++ List.replicate (2 - (lg_sl ([.ref ax])).length) Slot.unset).toArray = ls at hl ⊢
  have hl : lv_has ls 2 [(0, .ref ax)] := hl
  have f94 := hts (.fieldLink RX7 94 "SecondTillModel" "keeps" "I") (by decide +kernel)
  have inX7 : ∀ w ∈ u_ws RX7 TX7 17, w ∈ wsX7_back := by decide +kernel
  have f88 := hts (.fieldLink RX7 88 "SecondTillModel" "taped" "I") (by decide +kernel)
  have f91 := hts (.fieldLink RX7 91 "SecondTillModel" "undos" "I") (by decide +kernel)
  have f7 := hts (.fieldLink RX7 7 "SecondTillModel" "row" "[I") (by decide +kernel)
  have f37 := hts (.fieldLink RX7 37 "SecondTillModel" "kept" "[I") (by decide +kernel)
  unfold S_X7_back at hf
  have hP : va_P D vwCl [(ax, .inr (7, [.ref ax_row, .ref ax_text, .int x_letters, .int x_at, .ref ax_read, .ref ax_undone, .int x_undos, .ref ax_order, .ref ax_dones, .int x_away, .int x_bestSet, .ref ax_aside, .ref ax_tapedWho, .ref ax_tapedTill, .int x_taped, .ref ax_kept, .int x_keeps])), (ax_kept, .inl (cyI, 56, .inl x_kept)), (ax_row, .inl (cyI, 28, .inl x_row))] s.heap := hP
  suffices hgo : ∀ (H : Heap) (locs : List Loc), va_P D vwCl [(ax, .inr (7, [.ref ax_row, .ref ax_text, .int x_letters, .int x_at, .ref ax_read, .ref ax_undone, .int x_undos, .ref ax_order, .ref ax_dones, .int x_away, .int x_bestSet, .ref ax_aside, .ref ax_tapedWho, .ref ax_tapedTill, .int x_taped, .ref ax_kept, .int x_keeps])), (ax_kept, .inl (cyI, 56, .inl x_kept)), (ax_row, .inl (cyI, 28, .inl x_row))] H → va_S A s.heap H locs → W p l e rX7_back s m (([.ref ax] : List Value).toArray) below meth c H locs 0 0 (MQ below (CQi r D [(ax, .inr (7, [.ref ax_row, .ref ax_text, .int x_letters, .int x_at, .ref ax_read, .ref ax_undone, .int o_x_undos, .ref ax_order, .ref ax_dones, .int x_away, .int x_bestSet, .ref ax_aside, .ref ax_tapedWho, .ref ax_tapedTill, .int o_x_taped, .ref ax_kept, .int o_x_keeps])), (ax_kept, .inl (cyI, 56, .inl x_kept)), (ax_row, .inl (cyI, 28, .inl o_x_row))] A) (([.ref ax] : List Value).toArray) s 0 0 A) (F0 m 0 ls []) from hgo _ _ hP hS
  clear hP hS
  intro H locs hP hS
  refine lv_aload_n hx hb dX7_back_0 rfl (lv_at hl 0 rfl) ?_
  refine va_get (C := RX7) (T := TX7) (N := 17) hx hb hts inX7 hown hK.1 hP 0 rfl rfl 16 (by decide) f94 (fun _ h9 => h9) rfl dX7_back_1 ?_
  refine lv_if_ne (tgt := 10) hx hb dX7_back_4 (by decide) (fun c4 => ?_) (fun c4 => ?_)
  · replace hf := iq c4 hf
    refine lv_aload_n hx hb dX7_back_10 rfl (lv_at hl 0 rfl) ?_
    refine lv_dup hx hb dX7_back_11 rfl ?_
    refine va_get (C := RX7) (T := TX7) (N := 17) hx hb hts inX7 hown hK.1 hP 0 rfl rfl 16 (by decide) f94 (fun _ h9 => h9) rfl dX7_back_12 ?_
    refine lv_iconst (v := 1) hx hb dX7_back_15 (by decide) ?_
    refine lv_isub hx hb dX7_back_16 ?_
    refine a_put (C := RX7) (T := TX7) (N := 17) (wn := [(ax, .inr (7, [.ref ax_row, .ref ax_text, .int x_letters, .int x_at, .ref ax_read, .ref ax_undone, .int x_undos, .ref ax_order, .ref ax_dones, .int x_away, .int x_bestSet, .ref ax_aside, .ref ax_tapedWho, .ref ax_tapedTill, .int x_taped, .ref ax_kept, .int (x_keeps - (1 : Int32))])), (ax_kept, .inl (cyI, 56, .inl x_kept)), (ax_row, .inl (cyI, 28, .inl x_row))]) hx hb hts inX7 tyX7 tyX7_ok nmX7 hown hK hP hD hS 0 rfl rfl 16 (by decide) f94 (fun _ h9 => h9) rfl rfl (Nat.le_of_ble_eq_true rfl) rfl dX7_back_17 (fun H locs hP hD hS => ?_)
    refine lv_iconst (v := 0) hx hb dX7_back_20 (by decide) ?_
    refine lv_istore_n (lv' := [(1, .int (0 : Int32)), (0, .ref ax)]) hx hb dX7_back_21 rfl hl (by decide) rfl (fun ls hl => ?_)
    have hL22 : ∀ (n22 : Nat) (x_undos : Int32) (x_taped : Int32) (x_keeps : Int32) (i1 : Int32) (x_row : Nat → Int32) (H : Heap) (locs : List Loc) (ls : Array Slot), va_P D vwCl [(ax, .inr (7, [.ref ax_row, .ref ax_text, .int x_letters, .int x_at, .ref ax_read, .ref ax_undone, .int x_undos, .ref ax_order, .ref ax_dones, .int x_away, .int x_bestSet, .ref ax_aside, .ref ax_tapedWho, .ref ax_tapedTill, .int x_taped, .ref ax_kept, .int x_keeps])), (ax_kept, .inl (cyI, 56, .inl x_kept)), (ax_row, .inl (cyI, 28, .inl x_row))] H → va_D A [(ax, .inr (7, [.ref ax_row, .ref ax_text, .int x_letters, .int x_at, .ref ax_read, .ref ax_undone, .int x_undos, .ref ax_order, .ref ax_dones, .int x_away, .int x_bestSet, .ref ax_aside, .ref ax_tapedWho, .ref ax_tapedTill, .int x_taped, .ref ax_kept, .int x_keeps])), (ax_kept, .inl (cyI, 56, .inl x_kept)), (ax_row, .inl (cyI, 28, .inl x_row))] → va_S A s.heap H locs → lv_has ls 2 [(0, .ref ax), (1, .int i1)] → S_X7_back_L22 x_keeps x_kept n22 i1 x_row = some (r, o_x_undos, o_x_taped, o_x_keeps, o_x_row) → W p l e rX7_back s m (([.ref ax] : List Value).toArray) below meth c H locs 0 0 (MQ below (CQi r D [(ax, .inr (7, [.ref ax_row, .ref ax_text, .int x_letters, .int x_at, .ref ax_read, .ref ax_undone, .int o_x_undos, .ref ax_order, .ref ax_dones, .int x_away, .int x_bestSet, .ref ax_aside, .ref ax_tapedWho, .ref ax_tapedTill, .int o_x_taped, .ref ax_kept, .int o_x_keeps])), (ax_kept, .inl (cyI, 56, .inl x_kept)), (ax_row, .inl (cyI, 28, .inl o_x_row))] A) (([.ref ax] : List Value).toArray) s 0 0 A) (F0 m 22 ls []) := by
      intro n22
      induction n22 with
      | zero => intro x_undos x_taped x_keeps i1 x_row H locs ls hP hD hS hl hf; exact absurd hf (by simp [S_X7_back_L22])
      | succ n22 ih22 =>
        intro x_undos x_taped x_keeps i1 x_row H locs ls hP hD hS hl hf
        rw [S_X7_back_L22] at hf
        refine lv_iload_n hx hb dX7_back_22 rfl (lv_at hl 1 rfl) ?_
        refine lv_bipush (v := 28) hx hb dX7_back_23 (by decide) ?_
        refine lv_icmp_ge (tgt := 54) hx hb dX7_back_25 (by decide) (fun c25 => ?_) (fun c25 => ?_)
        · replace hf := ip c25 hf
          refine lv_aload_n hx hb dX7_back_54 rfl (lv_at hl 0 rfl) ?_
          refine lv_iconst (v := 0) hx hb dX7_back_55 (by decide) ?_
          refine a_put (C := RX7) (T := TX7) (N := 17) (wn := [(ax, .inr (7, [.ref ax_row, .ref ax_text, .int x_letters, .int x_at, .ref ax_read, .ref ax_undone, .int x_undos, .ref ax_order, .ref ax_dones, .int x_away, .int x_bestSet, .ref ax_aside, .ref ax_tapedWho, .ref ax_tapedTill, .int (0 : Int32), .ref ax_kept, .int x_keeps])), (ax_kept, .inl (cyI, 56, .inl x_kept)), (ax_row, .inl (cyI, 28, .inl x_row))]) hx hb hts inX7 tyX7 tyX7_ok nmX7 hown hK hP hD hS 0 rfl rfl 14 (by decide) f88 (fun _ h9 => h9) rfl rfl (Nat.le_of_ble_eq_true rfl) rfl dX7_back_56 (fun H locs hP hD hS => ?_)
          refine lv_aload_n hx hb dX7_back_59 rfl (lv_at hl 0 rfl) ?_
          refine lv_iconst (v := 0) hx hb dX7_back_60 (by decide) ?_
          refine a_put (C := RX7) (T := TX7) (N := 17) (wn := [(ax, .inr (7, [.ref ax_row, .ref ax_text, .int x_letters, .int x_at, .ref ax_read, .ref ax_undone, .int (0 : Int32), .ref ax_order, .ref ax_dones, .int x_away, .int x_bestSet, .ref ax_aside, .ref ax_tapedWho, .ref ax_tapedTill, .int (0 : Int32), .ref ax_kept, .int x_keeps])), (ax_kept, .inl (cyI, 56, .inl x_kept)), (ax_row, .inl (cyI, 28, .inl x_row))]) hx hb hts inX7 tyX7 tyX7_ok nmX7 hown hK hP hD hS 0 rfl rfl 6 (by decide) f91 (fun _ h9 => h9) rfl rfl (Nat.le_of_ble_eq_true rfl) rfl dX7_back_61 (fun H locs hP hD hS => ?_)
          refine lv_aload_n hx hb dX7_back_64 rfl (lv_at hl 0 rfl) ?_
          refine va_get (C := RX7) (T := TX7) (N := 17) hx hb hts inX7 hown hK.1 hP 0 rfl rfl 16 (by decide) f94 (fun _ h9 => h9) rfl dX7_back_65 ?_
          simp only [Option.some.injEq, Prod.mk.injEq] at hf
          obtain ⟨rfl, rfl, rfl, rfl, rfl⟩ := hf
          exact W.iret hx hb hr (fun t ht hW => ⟨⟨_, (), rfl, rfl, by rw [ht]; exact hP, hD⟩, hS.F ht⟩) hS.2.2 dX7_back_68
        · replace hf := iq c25 hf
          refine lv_aload_n hx hb dX7_back_28 rfl (lv_at hl 0 rfl) ?_
          refine va_get (C := RX7) (T := TX7) (N := 17) hx hb hts inX7 hown hK.1 hP 0 rfl rfl 0 (by decide) f7 (fun _ h9 => h9) rfl dX7_back_29 ?_
          refine lv_iload_n hx hb dX7_back_32 rfl (lv_at hl 1 rfl) ?_
          refine lv_aload_n hx hb dX7_back_33 rfl (lv_at hl 0 rfl) ?_
          refine va_get (C := RX7) (T := TX7) (N := 17) hx hb hts inX7 hown hK.1 hP 0 rfl rfl 15 (by decide) f37 (fun _ h9 => h9) rfl dX7_back_34 ?_
          refine lv_bipush (v := 28) hx hb dX7_back_37 (by decide) ?_
          refine lv_aload_n hx hb dX7_back_39 rfl (lv_at hl 0 rfl) ?_
          refine va_get (C := RX7) (T := TX7) (N := 17) hx hb hts inX7 hown hK.1 hP 0 rfl rfl 16 (by decide) f94 (fun _ h9 => h9) rfl dX7_back_40 ?_
          refine lv_imul hx hb dX7_back_43 ?_
          refine lv_iload_n hx hb dX7_back_44 rfl (lv_at hl 1 rfl) ?_
          refine lv_iadd hx hb dX7_back_45 ?_
          obtain ⟨z46, hf⟩ := oi hf
          refine a_ild hx hb hK hP 1 rfl z46 (((28 : Int32) * x_keeps) + i1).toNatClampNeg rfl dX7_back_46 ?_
          obtain ⟨z47, hf⟩ := oi hf
          refine a_ist (wn := [(ax, .inr (7, [.ref ax_row, .ref ax_text, .int x_letters, .int x_at, .ref ax_read, .ref ax_undone, .int x_undos, .ref ax_order, .ref ax_dones, .int x_away, .int x_bestSet, .ref ax_aside, .ref ax_tapedWho, .ref ax_tapedTill, .int x_taped, .ref ax_kept, .int x_keeps])), (ax_kept, .inl (cyI, 56, .inl x_kept)), (ax_row, .inl (cyI, 28, .inl (upd x_row i1.toNatClampNeg (x_kept (((28 : Int32) * x_keeps) + i1).toNatClampNeg))))]) hx hb hK hP hD hS 2 rfl z47 i1.toNatClampNeg rfl rfl dX7_back_47 (fun H locs hP hD hS => ?_)
          refine lv_iinc (v := i1 + (1 : Int32)) (lv' := [(1, .int (i1 + (1 : Int32))), (0, .ref ax)]) hx hb dX7_back_48 hl (k := 1) rfl rfl (by decide) rfl (fun ls hl => ?_)
          refine lv_goto (tgt := 22) hx hb dX7_back_51 (by decide) ?_
          exact ih22 x_undos x_taped x_keeps (i1 + (1 : Int32)) (upd x_row i1.toNatClampNeg (x_kept (((28 : Int32) * x_keeps) + i1).toNatClampNeg)) _ _ _ hP hD hS (lv_sub hl [1, 0] rfl) hf
    exact hL22 300 x_undos x_taped (x_keeps - (1 : Int32)) (0 : Int32) x_row _ _ _ hP hD hS (lv_sub hl [1, 0] rfl) hf
  · replace hf := ip c4 hf
    refine lv_bipush (v := -2) hx hb dX7_back_7 (by decide) ?_
    simp only [Option.some.injEq, Prod.mk.injEq] at hf
    obtain ⟨rfl, rfl, rfl, rfl, rfl⟩ := hf
    exact W.iret hx hb hr (fun t ht hW => ⟨⟨_, (), rfl, rfl, by rw [ht]; exact hP, hD⟩, hS.F ht⟩) hS.2.2 dX7_back_9
abbrev rX7_count : Room := { frames := 0, cells := 0, slots := 0, locals := 0 }
set_option maxHeartbeats 4000000 in
set_option maxRecDepth 100000 in
theorem c_X7_count (l : Launch) (D : va_G) (cyI cyC cyS : ClassId) (sz : Nat) (ax : Nat) (ax_row : Nat) (ax_text : Nat) (ax_read : Nat) (ax_undone : Nat) (ax_order : Nat) (ax_dones : Nat) (ax_aside : Nat) (ax_tapedWho : Nat) (ax_tapedTill : Nat) (ax_kept : Nat) (x_letters : Int32) (x_at : Int32) (x_undos : Int32) (x_away : Int32) (x_bestSet : Int32) (x_taped : Int32) (x_keeps : Int32) (x_row : Nat → Int32) (i1 : Int32) {r : Int32} (hf : S_X7_count i1 x_letters x_undos x_taped x_keeps x_row = some r) : Met l yX7_count wsX7_count rX7_count (Cpre [.ref ax, .int i1] D cyI cyC cyS sz [(ax, .inr (7, [.ref ax_row, .ref ax_text, .int x_letters, .int x_at, .ref ax_read, .ref ax_undone, .int x_undos, .ref ax_order, .ref ax_dones, .int x_away, .int x_bestSet, .ref ax_aside, .ref ax_tapedWho, .ref ax_tapedTill, .int x_taped, .ref ax_kept, .int x_keeps])), (ax_row, .inl (cyI, 28, .inl x_row))]) (CQi r D [(ax, .inr (7, [.ref ax_row, .ref ax_text, .int x_letters, .int x_at, .ref ax_read, .ref ax_undone, .int x_undos, .ref ax_order, .ref ax_dones, .int x_away, .int x_bestSet, .ref ax_aside, .ref ax_tapedWho, .ref ax_tapedTill, .int x_taped, .ref ax_kept, .int x_keeps])), (ax_row, .inl (cyI, 28, .inl x_row))] (va_A [(ax, .inr (7, [.ref ax_row, .ref ax_text, .int x_letters, .int x_at, .ref ax_read, .ref ax_undone, .int x_undos, .ref ax_order, .ref ax_dones, .int x_away, .int x_bestSet, .ref ax_aside, .ref ax_tapedWho, .ref ax_tapedTill, .int x_taped, .ref ax_kept, .int x_keeps])), (ax_row, .inl (cyI, 28, .inl x_row))] sz)) 0 0 (va_A [(ax, .inr (7, [.ref ax_row, .ref ax_text, .int x_letters, .int x_at, .ref ax_read, .ref ax_undone, .int x_undos, .ref ax_order, .ref ax_dones, .int x_away, .int x_bestSet, .ref ax_aside, .ref ax_tapedWho, .ref ax_tapedTill, .int x_taped, .ref ax_kept, .int x_keeps])), (ax_row, .inl (cyI, 28, .inl x_row))] sz) := by
  refine Met.ofW (cc := cX7_count) (maxL := 2) (ret := (some .int)) (by decide) rfl ?_
  intro p e s m args below meth c s₁ B hml hv
  obtain ⟨rfl, hsz, hP, hK, hD0⟩ := hv
  have hx := B.exec
  have hb := B.bytes
  have hr := B.returns
  have hts := atoms_spec (ws := wsX7_count) B.pre
  have hown : s.vm.findClass RX7 = some m.cls := findClass_of_methodNamed B.named
  have hlocks := B.notSynchronized
  subst hsz
  have hD := hD0.self (sz := s.heap.size)
  generalize hAe : va_A [(ax, .inr (7, [.ref ax_row, .ref ax_text, .int x_letters, .int x_at, .ref ax_read, .ref ax_undone, .int x_undos, .ref ax_order, .ref ax_dones, .int x_away, .int x_bestSet, .ref ax_aside, .ref ax_tapedWho, .ref ax_tapedTill, .int x_taped, .ref ax_kept, .int x_keeps])), (ax_row, .inl (cyI, 28, .inl x_row))] s.heap.size = A at hD ⊢
  have hA : ∀ q : Nat, s.heap.size ≤ q → A q := fun q h => by rw [← hAe]; exact Or.inr h
  have hS : va_S A s.heap s.heap [] := va_S.rf
  have hl := lv_entry ([.ref ax, .int i1]) (n := 2) (Nat.le_of_ble_eq_true rfl)
  rw [lg_entry_eq]
  generalize (lg_sl ([.ref ax, .int i1]) ++ List.replicate (2 - (lg_sl ([.ref ax, .int i1])).length) Slot.unset).toArray = ls at hl ⊢
  have hl : lv_has ls 2 [(0, .ref ax), (1, .int i1)] := hl
  have f7 := hts (.fieldLink RX7 7 "SecondTillModel" "row" "[I") (by decide +kernel)
  have inX7 : ∀ w ∈ u_ws RX7 TX7 17, w ∈ wsX7_count := by decide +kernel
  have f88 := hts (.fieldLink RX7 88 "SecondTillModel" "taped" "I") (by decide +kernel)
  have f91 := hts (.fieldLink RX7 91 "SecondTillModel" "undos" "I") (by decide +kernel)
  have f94 := hts (.fieldLink RX7 94 "SecondTillModel" "keeps" "I") (by decide +kernel)
  have f62 := hts (.fieldLink RX7 62 "SecondTillModel" "letters" "I") (by decide +kernel)
  unfold S_X7_count at hf
  have hP : va_P D vwCl [(ax, .inr (7, [.ref ax_row, .ref ax_text, .int x_letters, .int x_at, .ref ax_read, .ref ax_undone, .int x_undos, .ref ax_order, .ref ax_dones, .int x_away, .int x_bestSet, .ref ax_aside, .ref ax_tapedWho, .ref ax_tapedTill, .int x_taped, .ref ax_kept, .int x_keeps])), (ax_row, .inl (cyI, 28, .inl x_row))] s.heap := hP
  suffices hgo : ∀ (H : Heap) (locs : List Loc), va_P D vwCl [(ax, .inr (7, [.ref ax_row, .ref ax_text, .int x_letters, .int x_at, .ref ax_read, .ref ax_undone, .int x_undos, .ref ax_order, .ref ax_dones, .int x_away, .int x_bestSet, .ref ax_aside, .ref ax_tapedWho, .ref ax_tapedTill, .int x_taped, .ref ax_kept, .int x_keeps])), (ax_row, .inl (cyI, 28, .inl x_row))] H → va_S A s.heap H locs → W p l e rX7_count s m (([.ref ax, .int i1] : List Value).toArray) below meth c H locs 0 0 (MQ below (CQi r D [(ax, .inr (7, [.ref ax_row, .ref ax_text, .int x_letters, .int x_at, .ref ax_read, .ref ax_undone, .int x_undos, .ref ax_order, .ref ax_dones, .int x_away, .int x_bestSet, .ref ax_aside, .ref ax_tapedWho, .ref ax_tapedTill, .int x_taped, .ref ax_kept, .int x_keeps])), (ax_row, .inl (cyI, 28, .inl x_row))] A) (([.ref ax, .int i1] : List Value).toArray) s 0 0 A) (F0 m 0 ls []) from hgo _ _ hP hS
  clear hP hS
  intro H locs hP hS
  refine lv_iload_n hx hb dX7_count_0 rfl (lv_at hl 1 rfl) ?_
  by_cases c1_0 : i1 = 0
  · replace hf := ip c1_0 hf
    refine lv_tableIn (off := 47) (tgt := 48) hx hb dX7_count_1 (by rw [c1_0]; decide) (by rw [c1_0]; decide) (by rw [c1_0]; rfl) (by decide) ?_
    refine lv_aload_n hx hb dX7_count_48 rfl (lv_at hl 0 rfl) ?_
    refine va_get (C := RX7) (T := TX7) (N := 17) hx hb hts inX7 hown hK.1 hP 0 rfl rfl 0 (by decide) f7 (fun _ h9 => h9) rfl dX7_count_49 ?_
    refine lv_iload_n hx hb dX7_count_52 rfl (lv_at hl 1 rfl) ?_
    obtain ⟨z53, hf⟩ := oi hf
    refine a_ild hx hb hK hP 1 rfl z53 i1.toNatClampNeg rfl dX7_count_53 ?_
    obtain rfl := Option.some.inj hf
    exact W.iret hx hb hr (fun t ht hW => ⟨⟨_, (), rfl, rfl, by rw [ht]; exact hP, hD⟩, hS.F ht⟩) hS.2.2 dX7_count_54
  replace hf := iq c1_0 hf
  by_cases c1_1 : i1 = 1
  · replace hf := ip c1_1 hf
    refine lv_tableIn (off := 47) (tgt := 48) hx hb dX7_count_1 (by rw [c1_1]; decide) (by rw [c1_1]; decide) (by rw [c1_1]; rfl) (by decide) ?_
    refine lv_aload_n hx hb dX7_count_48 rfl (lv_at hl 0 rfl) ?_
    refine va_get (C := RX7) (T := TX7) (N := 17) hx hb hts inX7 hown hK.1 hP 0 rfl rfl 0 (by decide) f7 (fun _ h9 => h9) rfl dX7_count_49 ?_
    refine lv_iload_n hx hb dX7_count_52 rfl (lv_at hl 1 rfl) ?_
    obtain ⟨z53, hf⟩ := oi hf
    refine a_ild hx hb hK hP 1 rfl z53 i1.toNatClampNeg rfl dX7_count_53 ?_
    obtain rfl := Option.some.inj hf
    exact W.iret hx hb hr (fun t ht hW => ⟨⟨_, (), rfl, rfl, by rw [ht]; exact hP, hD⟩, hS.F ht⟩) hS.2.2 dX7_count_54
  replace hf := iq c1_1 hf
  by_cases c1_2 : i1 = 2
  · replace hf := ip c1_2 hf
    refine lv_tableIn (off := 47) (tgt := 48) hx hb dX7_count_1 (by rw [c1_2]; decide) (by rw [c1_2]; decide) (by rw [c1_2]; rfl) (by decide) ?_
    refine lv_aload_n hx hb dX7_count_48 rfl (lv_at hl 0 rfl) ?_
    refine va_get (C := RX7) (T := TX7) (N := 17) hx hb hts inX7 hown hK.1 hP 0 rfl rfl 0 (by decide) f7 (fun _ h9 => h9) rfl dX7_count_49 ?_
    refine lv_iload_n hx hb dX7_count_52 rfl (lv_at hl 1 rfl) ?_
    obtain ⟨z53, hf⟩ := oi hf
    refine a_ild hx hb hK hP 1 rfl z53 i1.toNatClampNeg rfl dX7_count_53 ?_
    obtain rfl := Option.some.inj hf
    exact W.iret hx hb hr (fun t ht hW => ⟨⟨_, (), rfl, rfl, by rw [ht]; exact hP, hD⟩, hS.F ht⟩) hS.2.2 dX7_count_54
  replace hf := iq c1_2 hf
  by_cases c1_3 : i1 = 3
  · replace hf := ip c1_3 hf
    refine lv_tableIn (off := 47) (tgt := 48) hx hb dX7_count_1 (by rw [c1_3]; decide) (by rw [c1_3]; decide) (by rw [c1_3]; rfl) (by decide) ?_
    refine lv_aload_n hx hb dX7_count_48 rfl (lv_at hl 0 rfl) ?_
    refine va_get (C := RX7) (T := TX7) (N := 17) hx hb hts inX7 hown hK.1 hP 0 rfl rfl 0 (by decide) f7 (fun _ h9 => h9) rfl dX7_count_49 ?_
    refine lv_iload_n hx hb dX7_count_52 rfl (lv_at hl 1 rfl) ?_
    obtain ⟨z53, hf⟩ := oi hf
    refine a_ild hx hb hK hP 1 rfl z53 i1.toNatClampNeg rfl dX7_count_53 ?_
    obtain rfl := Option.some.inj hf
    exact W.iret hx hb hr (fun t ht hW => ⟨⟨_, (), rfl, rfl, by rw [ht]; exact hP, hD⟩, hS.F ht⟩) hS.2.2 dX7_count_54
  replace hf := iq c1_3 hf
  by_cases c1_4 : i1 = 4
  · replace hf := ip c1_4 hf
    refine lv_tableIn (off := 54) (tgt := 55) hx hb dX7_count_1 (by rw [c1_4]; decide) (by rw [c1_4]; decide) (by rw [c1_4]; rfl) (by decide) ?_
    refine lv_aload_n hx hb dX7_count_55 rfl (lv_at hl 0 rfl) ?_
    refine va_get (C := RX7) (T := TX7) (N := 17) hx hb hts inX7 hown hK.1 hP 0 rfl rfl 14 (by decide) f88 (fun _ h9 => h9) rfl dX7_count_56 ?_
    obtain rfl := Option.some.inj hf
    exact W.iret hx hb hr (fun t ht hW => ⟨⟨_, (), rfl, rfl, by rw [ht]; exact hP, hD⟩, hS.F ht⟩) hS.2.2 dX7_count_59
  replace hf := iq c1_4 hf
  by_cases c1_5 : i1 = 5
  · replace hf := ip c1_5 hf
    refine lv_tableIn (off := 59) (tgt := 60) hx hb dX7_count_1 (by rw [c1_5]; decide) (by rw [c1_5]; decide) (by rw [c1_5]; rfl) (by decide) ?_
    refine lv_aload_n hx hb dX7_count_60 rfl (lv_at hl 0 rfl) ?_
    refine va_get (C := RX7) (T := TX7) (N := 17) hx hb hts inX7 hown hK.1 hP 0 rfl rfl 6 (by decide) f91 (fun _ h9 => h9) rfl dX7_count_61 ?_
    obtain rfl := Option.some.inj hf
    exact W.iret hx hb hr (fun t ht hW => ⟨⟨_, (), rfl, rfl, by rw [ht]; exact hP, hD⟩, hS.F ht⟩) hS.2.2 dX7_count_64
  replace hf := iq c1_5 hf
  by_cases c1_6 : i1 = 6
  · replace hf := ip c1_6 hf
    refine lv_tableIn (off := 64) (tgt := 65) hx hb dX7_count_1 (by rw [c1_6]; decide) (by rw [c1_6]; decide) (by rw [c1_6]; rfl) (by decide) ?_
    refine lv_aload_n hx hb dX7_count_65 rfl (lv_at hl 0 rfl) ?_
    refine va_get (C := RX7) (T := TX7) (N := 17) hx hb hts inX7 hown hK.1 hP 0 rfl rfl 16 (by decide) f94 (fun _ h9 => h9) rfl dX7_count_66 ?_
    obtain rfl := Option.some.inj hf
    exact W.iret hx hb hr (fun t ht hW => ⟨⟨_, (), rfl, rfl, by rw [ht]; exact hP, hD⟩, hS.F ht⟩) hS.2.2 dX7_count_69
  replace hf := iq c1_6 hf
  by_cases c1_7 : i1 = 7
  · replace hf := ip c1_7 hf
    refine lv_tableIn (off := 69) (tgt := 70) hx hb dX7_count_1 (by rw [c1_7]; decide) (by rw [c1_7]; decide) (by rw [c1_7]; rfl) (by decide) ?_
    refine lv_aload_n hx hb dX7_count_70 rfl (lv_at hl 0 rfl) ?_
    refine va_get (C := RX7) (T := TX7) (N := 17) hx hb hts inX7 hown hK.1 hP 0 rfl rfl 2 (by decide) f62 (fun _ h9 => h9) rfl dX7_count_71 ?_
    obtain rfl := Option.some.inj hf
    exact W.iret hx hb hr (fun t ht hW => ⟨⟨_, (), rfl, rfl, by rw [ht]; exact hP, hD⟩, hS.F ht⟩) hS.2.2 dX7_count_74
  replace hf := iq c1_7 hf
  refine lv_tableOut (tgt := 75) hx hb dX7_count_1 (by have n0 := lv_neT (a := 0) c1_0 rfl; have n1 := lv_neT (a := 1) c1_1 rfl; have n2 := lv_neT (a := 2) c1_2 rfl; have n3 := lv_neT (a := 3) c1_3 rfl; have n4 := lv_neT (a := 4) c1_4 rfl; have n5 := lv_neT (a := 5) c1_5 rfl; have n6 := lv_neT (a := 6) c1_6 rfl; have n7 := lv_neT (a := 7) c1_7 rfl; omega) (by decide) ?_
  refine lv_iconst (v := -1) hx hb dX7_count_75 (by decide) ?_
  obtain rfl := Option.some.inj hf
  exact W.iret hx hb hr (fun t ht hW => ⟨⟨_, (), rfl, rfl, by rw [ht]; exact hP, hD⟩, hS.F ht⟩) hS.2.2 dX7_count_76
