abbrev rX7_orders : Room := { frames := 1, cells := 0, slots := 0, locals := 21 }
set_option maxHeartbeats 4000000 in
set_option maxRecDepth 100000 in
theorem c_X7_orders (l : Launch) (D : va_G) (cyI cyC cyS : ClassId) (sz : Nat) (ax : Nat) (ax_row : Nat) (ax_text : Nat) (ax_read : Nat) (ax_undone : Nat) (ax_order : Nat) (ax_dones : Nat) (ax_aside : Nat) (ax_tapedWho : Nat) (ax_tapedTill : Nat) (ax_kept : Nat) (x_letters : Int32) (x_at : Int32) (x_undos : Int32) (x_away : Int32) (x_bestSet : Int32) (x_taped : Int32) (x_keeps : Int32) (x_row : Nat → Int32) (x_order : Nat → Int32) {o_x_order : Nat → Int32} (hf : S_X7_orders x_row x_order = some o_x_order) : Met l yX7_orders wsX7_orders rX7_orders (Cpre [.ref ax] D cyI cyC cyS sz [(ax, .inr (7, [.ref ax_row, .ref ax_text, .int x_letters, .int x_at, .ref ax_read, .ref ax_undone, .int x_undos, .ref ax_order, .ref ax_dones, .int x_away, .int x_bestSet, .ref ax_aside, .ref ax_tapedWho, .ref ax_tapedTill, .int x_taped, .ref ax_kept, .int x_keeps])), (ax_row, .inl (cyI, 28, .inl x_row)), (ax_order, .inl (cyI, 8, .inl x_order))]) (CQv D [(ax, .inr (7, [.ref ax_row, .ref ax_text, .int x_letters, .int x_at, .ref ax_read, .ref ax_undone, .int x_undos, .ref ax_order, .ref ax_dones, .int x_away, .int x_bestSet, .ref ax_aside, .ref ax_tapedWho, .ref ax_tapedTill, .int x_taped, .ref ax_kept, .int x_keeps])), (ax_row, .inl (cyI, 28, .inl x_row)), (ax_order, .inl (cyI, 8, .inl o_x_order))] (va_A [(ax, .inr (7, [.ref ax_row, .ref ax_text, .int x_letters, .int x_at, .ref ax_read, .ref ax_undone, .int x_undos, .ref ax_order, .ref ax_dones, .int x_away, .int x_bestSet, .ref ax_aside, .ref ax_tapedWho, .ref ax_tapedTill, .int x_taped, .ref ax_kept, .int x_keeps])), (ax_row, .inl (cyI, 28, .inl x_row)), (ax_order, .inl (cyI, 8, .inl x_order))] sz)) 0 0 (va_A [(ax, .inr (7, [.ref ax_row, .ref ax_text, .int x_letters, .int x_at, .ref ax_read, .ref ax_undone, .int x_undos, .ref ax_order, .ref ax_dones, .int x_away, .int x_bestSet, .ref ax_aside, .ref ax_tapedWho, .ref ax_tapedTill, .int x_taped, .ref ax_kept, .int x_keeps])), (ax_row, .inl (cyI, 28, .inl x_row)), (ax_order, .inl (cyI, 8, .inl x_order))] sz) := by
  refine Met.ofW (cc := cX7_orders) (maxL := 5) (ret := none) (by decide) rfl ?_
  intro p e s m args below meth c s₁ B hml hv
  obtain ⟨rfl, hsz, hP, hK, hD0⟩ := hv
  have hx := B.exec
  have hb := B.bytes
  have hr := B.returns
  have hts := atoms_spec (ws := wsX7_orders) B.pre
  have hown : s.vm.findClass RX7 = some m.cls := findClass_of_methodNamed B.named
  have hlocks := B.notSynchronized
  subst hsz
  have hD := hD0.self (sz := s.heap.size)
  generalize hAe : va_A [(ax, .inr (7, [.ref ax_row, .ref ax_text, .int x_letters, .int x_at, .ref ax_read, .ref ax_undone, .int x_undos, .ref ax_order, .ref ax_dones, .int x_away, .int x_bestSet, .ref ax_aside, .ref ax_tapedWho, .ref ax_tapedTill, .int x_taped, .ref ax_kept, .int x_keeps])), (ax_row, .inl (cyI, 28, .inl x_row)), (ax_order, .inl (cyI, 8, .inl x_order))] s.heap.size = A at hD ⊢
  have hA : ∀ q : Nat, s.heap.size ≤ q → A q := fun q h => by rw [← hAe]; exact Or.inr h
  have hS : va_S A s.heap s.heap [] := va_S.rf
  have hl := lv_entry ([.ref ax]) (n := 5) (Nat.le_of_ble_eq_true rfl)
  rw [lg_entry_eq]
  generalize (lg_sl ([.ref ax]) ++ List.replicate (5 - (lg_sl ([.ref ax])).length) Slot.unset).toArray = ls at hl ⊢
  have hl : lv_has ls 5 [(0, .ref ax)] := hl
  have f7 := hts (.fieldLink RX7 7 "SecondTillModel" "row" "[I") (by decide +kernel)
  have inX7 : ∀ w ∈ u_ws RX7 TX7 17, w ∈ wsX7_orders := by decide +kernel
  have f22 := hts (.fieldLink RX7 22 "SecondTillModel" "order" "[I") (by decide +kernel)
  unfold S_X7_orders at hf
  have hP : va_P D vwCl [(ax, .inr (7, [.ref ax_row, .ref ax_text, .int x_letters, .int x_at, .ref ax_read, .ref ax_undone, .int x_undos, .ref ax_order, .ref ax_dones, .int x_away, .int x_bestSet, .ref ax_aside, .ref ax_tapedWho, .ref ax_tapedTill, .int x_taped, .ref ax_kept, .int x_keeps])), (ax_row, .inl (cyI, 28, .inl x_row)), (ax_order, .inl (cyI, 8, .inl x_order))] s.heap := hP
  suffices hgo : ∀ (H : Heap) (locs : List Loc), va_P D vwCl [(ax, .inr (7, [.ref ax_row, .ref ax_text, .int x_letters, .int x_at, .ref ax_read, .ref ax_undone, .int x_undos, .ref ax_order, .ref ax_dones, .int x_away, .int x_bestSet, .ref ax_aside, .ref ax_tapedWho, .ref ax_tapedTill, .int x_taped, .ref ax_kept, .int x_keeps])), (ax_row, .inl (cyI, 28, .inl x_row)), (ax_order, .inl (cyI, 8, .inl x_order))] H → va_S A s.heap H locs → W p l e rX7_orders s m (([.ref ax] : List Value).toArray) below meth c H locs 0 0 (MQ below (CQv D [(ax, .inr (7, [.ref ax_row, .ref ax_text, .int x_letters, .int x_at, .ref ax_read, .ref ax_undone, .int x_undos, .ref ax_order, .ref ax_dones, .int x_away, .int x_bestSet, .ref ax_aside, .ref ax_tapedWho, .ref ax_tapedTill, .int x_taped, .ref ax_kept, .int x_keeps])), (ax_row, .inl (cyI, 28, .inl x_row)), (ax_order, .inl (cyI, 8, .inl o_x_order))] A) (([.ref ax] : List Value).toArray) s 0 0 A) (F0 m 0 ls []) from hgo _ _ hP hS
  clear hP hS
  intro H locs hP hS
  refine lv_iconst (v := 0) hx hb dX7_orders_0 (by decide) ?_
  refine lv_istore_n (lv' := [(1, .int (0 : Int32)), (0, .ref ax)]) hx hb dX7_orders_1 rfl hl (by decide) rfl (fun ls hl => ?_)
  have hL2 : ∀ (n2 : Nat) (i1 : Int32) (x_order : Nat → Int32) (H : Heap) (locs : List Loc) (ls : Array Slot), va_P D vwCl [(ax, .inr (7, [.ref ax_row, .ref ax_text, .int x_letters, .int x_at, .ref ax_read, .ref ax_undone, .int x_undos, .ref ax_order, .ref ax_dones, .int x_away, .int x_bestSet, .ref ax_aside, .ref ax_tapedWho, .ref ax_tapedTill, .int x_taped, .ref ax_kept, .int x_keeps])), (ax_row, .inl (cyI, 28, .inl x_row)), (ax_order, .inl (cyI, 8, .inl x_order))] H → va_D A [(ax, .inr (7, [.ref ax_row, .ref ax_text, .int x_letters, .int x_at, .ref ax_read, .ref ax_undone, .int x_undos, .ref ax_order, .ref ax_dones, .int x_away, .int x_bestSet, .ref ax_aside, .ref ax_tapedWho, .ref ax_tapedTill, .int x_taped, .ref ax_kept, .int x_keeps])), (ax_row, .inl (cyI, 28, .inl x_row)), (ax_order, .inl (cyI, 8, .inl x_order))] → va_S A s.heap H locs → lv_has ls 5 [(0, .ref ax), (1, .int i1)] → S_X7_orders_L2 x_row n2 i1 x_order = some o_x_order → W p l e rX7_orders s m (([.ref ax] : List Value).toArray) below meth c H locs 0 0 (MQ below (CQv D [(ax, .inr (7, [.ref ax_row, .ref ax_text, .int x_letters, .int x_at, .ref ax_read, .ref ax_undone, .int x_undos, .ref ax_order, .ref ax_dones, .int x_away, .int x_bestSet, .ref ax_aside, .ref ax_tapedWho, .ref ax_tapedTill, .int x_taped, .ref ax_kept, .int x_keeps])), (ax_row, .inl (cyI, 28, .inl x_row)), (ax_order, .inl (cyI, 8, .inl o_x_order))] A) (([.ref ax] : List Value).toArray) s 0 0 A) (F0 m 2 ls []) := by
    intro n2
    induction n2 with
    | zero => intro i1 x_order H locs ls hP hD hS hl hf; exact absurd hf (by simp [S_X7_orders_L2])
    | succ n2 ih2 =>
      intro i1 x_order H locs ls hP hD hS hl hf
      rw [S_X7_orders_L2] at hf
      refine lv_iload_n hx hb dX7_orders_2 rfl (lv_at hl 1 rfl) ?_
      refine lv_aload_n hx hb dX7_orders_3 rfl (lv_at hl 0 rfl) ?_
      refine va_get (C := RX7) (T := TX7) (N := 17) hx hb hts inX7 hown hK.1 hP 0 rfl rfl 0 (by decide) f7 (fun _ h9 => h9) rfl dX7_orders_4 ?_
      refine lv_iconst (v := 0) hx hb dX7_orders_7 (by decide) ?_
      refine a_ild hx hb hK hP 1 rfl (vin (by decide)) 0 (by decide) dX7_orders_8 ?_
      refine lv_icmp_ge (tgt := 96) hx hb dX7_orders_9 (by decide) (fun c9 => ?_) (fun c9 => ?_)
      · replace hf := ip c9 hf
        obtain rfl := Option.some.inj hf
        exact W.vret hx hb hr (fun t ht hW => ⟨⟨(), rfl, trivial, by rw [ht]; exact hP, hD⟩, hS.F ht⟩) hS.2.2 dX7_orders_96
      · replace hf := iq c9 hf
        refine lv_iconst (v := 0) hx hb dX7_orders_12 (by decide) ?_
        refine lv_istore_n (lv' := [(2, .int (0 : Int32)), (0, .ref ax), (1, .int i1)]) hx hb dX7_orders_13 rfl hl (by decide) rfl (fun ls hl => ?_)
        refine lv_iconst (v := 0) hx hb dX7_orders_14 (by decide) ?_
        refine lv_istore_n (lv' := [(3, .int (0 : Int32)), (2, .int (0 : Int32)), (0, .ref ax), (1, .int i1)]) hx hb dX7_orders_15 rfl hl (by decide) rfl (fun ls hl => ?_)
        have hL16 : ∀ (n16 : Nat) (i1 : Int32) (x_order : Nat → Int32) (i2 : Int32) (i3 : Int32) (H : Heap) (locs : List Loc) (ls : Array Slot), va_P D vwCl [(ax, .inr (7, [.ref ax_row, .ref ax_text, .int x_letters, .int x_at, .ref ax_read, .ref ax_undone, .int x_undos, .ref ax_order, .ref ax_dones, .int x_away, .int x_bestSet, .ref ax_aside, .ref ax_tapedWho, .ref ax_tapedTill, .int x_taped, .ref ax_kept, .int x_keeps])), (ax_row, .inl (cyI, 28, .inl x_row)), (ax_order, .inl (cyI, 8, .inl x_order))] H → va_D A [(ax, .inr (7, [.ref ax_row, .ref ax_text, .int x_letters, .int x_at, .ref ax_read, .ref ax_undone, .int x_undos, .ref ax_order, .ref ax_dones, .int x_away, .int x_bestSet, .ref ax_aside, .ref ax_tapedWho, .ref ax_tapedTill, .int x_taped, .ref ax_kept, .int x_keeps])), (ax_row, .inl (cyI, 28, .inl x_row)), (ax_order, .inl (cyI, 8, .inl x_order))] → va_S A s.heap H locs → lv_has ls 5 [(0, .ref ax), (1, .int i1), (2, .int i2), (3, .int i3)] → S_X7_orders_L16 (S_X7_orders_L2 x_row n2) i1 x_order x_row n16 i2 i3 = some o_x_order → W p l e rX7_orders s m (([.ref ax] : List Value).toArray) below meth c H locs 0 0 (MQ below (CQv D [(ax, .inr (7, [.ref ax_row, .ref ax_text, .int x_letters, .int x_at, .ref ax_read, .ref ax_undone, .int x_undos, .ref ax_order, .ref ax_dones, .int x_away, .int x_bestSet, .ref ax_aside, .ref ax_tapedWho, .ref ax_tapedTill, .int x_taped, .ref ax_kept, .int x_keeps])), (ax_row, .inl (cyI, 28, .inl x_row)), (ax_order, .inl (cyI, 8, .inl o_x_order))] A) (([.ref ax] : List Value).toArray) s 0 0 A) (F0 m 16 ls []) := by
          intro n16
          induction n16 with
          | zero => intro i1 x_order i2 i3 H locs ls hP hD hS hl hf; exact absurd hf (by simp [S_X7_orders_L16])
          | succ n16 ih16 =>
            intro i1 x_order i2 i3 H locs ls hP hD hS hl hf
            rw [S_X7_orders_L16] at hf
            refine lv_iload_n hx hb dX7_orders_16 rfl (lv_at hl 3 rfl) ?_
            refine lv_aload_n hx hb dX7_orders_17 rfl (lv_at hl 0 rfl) ?_
            refine va_get (C := RX7) (T := TX7) (N := 17) hx hb hts inX7 hown hK.1 hP 0 rfl rfl 0 (by decide) f7 (fun _ h9 => h9) rfl dX7_orders_18 ?_
            refine lv_iconst (v := 0) hx hb dX7_orders_21 (by decide) ?_
            refine a_ild hx hb hK hP 1 rfl (vin (by decide)) 0 (by decide) dX7_orders_22 ?_
            refine lv_icmp_ge (tgt := 83) hx hb dX7_orders_23 (by decide) (fun c23 => ?_) (fun c23 => ?_)
            · replace hf := ip c23 hf
              refine lv_aload_n hx hb dX7_orders_83 rfl (lv_at hl 0 rfl) ?_
              refine va_get (C := RX7) (T := TX7) (N := 17) hx hb hts inX7 hown hK.1 hP 0 rfl rfl 7 (by decide) f22 (fun _ h9 => h9) rfl dX7_orders_84 ?_
              refine lv_iload_n hx hb dX7_orders_87 rfl (lv_at hl 2 rfl) ?_
              refine lv_iload_n hx hb dX7_orders_88 rfl (lv_at hl 1 rfl) ?_
              obtain ⟨z89, hf⟩ := oi hf
              refine a_ist (wn := [(ax, .inr (7, [.ref ax_row, .ref ax_text, .int x_letters, .int x_at, .ref ax_read, .ref ax_undone, .int x_undos, .ref ax_order, .ref ax_dones, .int x_away, .int x_bestSet, .ref ax_aside, .ref ax_tapedWho, .ref ax_tapedTill, .int x_taped, .ref ax_kept, .int x_keeps])), (ax_row, .inl (cyI, 28, .inl x_row)), (ax_order, .inl (cyI, 8, .inl (upd x_order i2.toNatClampNeg i1)))]) hx hb hK hP hD hS 2 rfl z89 i2.toNatClampNeg rfl rfl dX7_orders_89 (fun H locs hP hD hS => ?_)
              refine lv_iinc (v := i1 + (1 : Int32)) (lv' := [(1, .int (i1 + (1 : Int32))), (0, .ref ax), (2, .int i2), (3, .int i3)]) hx hb dX7_orders_90 hl (k := 1) rfl rfl (by decide) rfl (fun ls hl => ?_)
              refine lv_goto (tgt := 2) hx hb dX7_orders_93 (by decide) ?_
              exact ih2 (i1 + (1 : Int32)) (upd x_order i2.toNatClampNeg i1) _ _ _ hP hD hS (lv_sub hl [1, 0] rfl) hf
            · replace hf := iq c23 hf
              refine lv_aload_n hx hb dX7_orders_26 rfl (lv_at hl 0 rfl) ?_
              refine lv_iload_n hx hb dX7_orders_27 rfl (lv_at hl 3 rfl) ?_
              obtain ⟨r28, q28, hf⟩ := ob hf
              refine k_i (wc := [(ax, .inr (7, [.ref ax_row, .ref ax_text, .int x_letters, .int x_at, .ref ax_read, .ref ax_undone, .int x_undos, .ref ax_order, .ref ax_dones, .int x_away, .int x_bestSet, .ref ax_aside, .ref ax_tapedWho, .ref ax_tapedTill, .int x_taped, .ref ax_kept, .int x_keeps])), (ax_row, .inl (cyI, 28, .inl x_row))]) (wr := [(ax_order, .inl (cyI, 8, .inl x_order))]) (w1 := [(ax, .inr (7, [.ref ax_row, .ref ax_text, .int x_letters, .int x_at, .ref ax_read, .ref ax_undone, .int x_undos, .ref ax_order, .ref ax_dones, .int x_away, .int x_bestSet, .ref ax_aside, .ref ax_tapedWho, .ref ax_tapedTill, .int x_taped, .ref ax_kept, .int x_keeps])), (ax_row, .inl (cyI, 28, .inl x_row))]) (wn := [(ax, .inr (7, [.ref ax_row, .ref ax_text, .int x_letters, .int x_at, .ref ax_read, .ref ax_undone, .int x_undos, .ref ax_order, .ref ax_dones, .int x_away, .int x_bestSet, .ref ax_aside, .ref ax_tapedWho, .ref ax_tapedTill, .int x_taped, .ref ax_kept, .int x_keeps])), (ax_row, .inl (cyI, 28, .inl x_row)), (ax_order, .inl (cyI, 8, .inl x_order))]) (va_runV (As := [.int i3]) (rest := []) ⟨hx, hb, hml, hown, hts⟩ (c_X7_walk l D cyI cyC cyS H.size ax ax_row ax_text ax_read ax_undone ax_order ax_dones ax_aside ax_tapedWho ax_tapedTill ax_kept x_letters x_at x_undos x_away x_bestSet x_taped x_keeps x_row i3 q28) (cwV 1 hts gX7_orders_X7_walk rfl rfl rfl (by decide +kernel) ⟨Nat.le_of_ble_eq_true rfl, Nat.le_of_ble_eq_true rfl⟩) (preV (ci := 7) hK (hP.subm (ws' := [(ax, .inr (7, [.ref ax_row, .ref ax_text, .int x_letters, .int x_at, .ref ax_read, .ref ax_undone, .int x_undos, .ref ax_order, .ref ax_dones, .int x_away, .int x_bestSet, .ref ax_aside, .ref ax_tapedWho, .ref ax_tapedTill, .int x_taped, .ref ax_kept, .int x_keeps])), (ax_row, .inl (cyI, 28, .inl x_row))]) [0, 1] rfl) (hD.sub (ws' := [(ax, .inr (7, [.ref ax_row, .ref ax_text, .int x_letters, .int x_at, .ref ax_read, .ref ax_undone, .int x_undos, .ref ax_order, .ref ax_dones, .int x_away, .int x_bestSet, .ref ax_aside, .ref ax_tapedWho, .ref ax_tapedTill, .int x_taped, .ref ax_kept, .int x_keeps])), (ax_row, .inl (cyI, 28, .inl x_row))]) [0, 1] (by decide) rfl) rfl rfl) rfl rfl hl.1 rfl (lv_room (Nat.le_of_ble_eq_true rfl)) dX7_orders_28 ⟨Nat.le_of_ble_eq_true rfl, Nat.le_of_ble_eq_true rfl⟩) hP hD hS hA [0, 1] [2] [1, 2, 0] rfl rfl rfl (by decide) (by decide) (by decide) (fun H locs hP hD hS => ?_)
              refine lv_aload_n hx hb dX7_orders_31 rfl (lv_at hl 0 rfl) ?_
              refine lv_iload_n hx hb dX7_orders_32 rfl (lv_at hl 1 rfl) ?_
              obtain ⟨r33, q33, hf⟩ := ob hf
              refine k_i (wc := [(ax, .inr (7, [.ref ax_row, .ref ax_text, .int x_letters, .int x_at, .ref ax_read, .ref ax_undone, .int x_undos, .ref ax_order, .ref ax_dones, .int x_away, .int x_bestSet, .ref ax_aside, .ref ax_tapedWho, .ref ax_tapedTill, .int x_taped, .ref ax_kept, .int x_keeps])), (ax_row, .inl (cyI, 28, .inl x_row))]) (wr := [(ax_order, .inl (cyI, 8, .inl x_order))]) (w1 := [(ax, .inr (7, [.ref ax_row, .ref ax_text, .int x_letters, .int x_at, .ref ax_read, .ref ax_undone, .int x_undos, .ref ax_order, .ref ax_dones, .int x_away, .int x_bestSet, .ref ax_aside, .ref ax_tapedWho, .ref ax_tapedTill, .int x_taped, .ref ax_kept, .int x_keeps])), (ax_row, .inl (cyI, 28, .inl x_row))]) (wn := [(ax, .inr (7, [.ref ax_row, .ref ax_text, .int x_letters, .int x_at, .ref ax_read, .ref ax_undone, .int x_undos, .ref ax_order, .ref ax_dones, .int x_away, .int x_bestSet, .ref ax_aside, .ref ax_tapedWho, .ref ax_tapedTill, .int x_taped, .ref ax_kept, .int x_keeps])), (ax_row, .inl (cyI, 28, .inl x_row)), (ax_order, .inl (cyI, 8, .inl x_order))]) (va_runV (As := [.int i1]) (rest := [.int r28]) ⟨hx, hb, hml, hown, hts⟩ (c_X7_walk l D cyI cyC cyS H.size ax ax_row ax_text ax_read ax_undone ax_order ax_dones ax_aside ax_tapedWho ax_tapedTill ax_kept x_letters x_at x_undos x_away x_bestSet x_taped x_keeps x_row i1 q33) (cwV 1 hts gX7_orders_X7_walk rfl rfl rfl (by decide +kernel) ⟨Nat.le_of_ble_eq_true rfl, Nat.le_of_ble_eq_true rfl⟩) (preV (ci := 7) hK (hP.subm (ws' := [(ax, .inr (7, [.ref ax_row, .ref ax_text, .int x_letters, .int x_at, .ref ax_read, .ref ax_undone, .int x_undos, .ref ax_order, .ref ax_dones, .int x_away, .int x_bestSet, .ref ax_aside, .ref ax_tapedWho, .ref ax_tapedTill, .int x_taped, .ref ax_kept, .int x_keeps])), (ax_row, .inl (cyI, 28, .inl x_row))]) [0, 1] rfl) (hD.sub (ws' := [(ax, .inr (7, [.ref ax_row, .ref ax_text, .int x_letters, .int x_at, .ref ax_read, .ref ax_undone, .int x_undos, .ref ax_order, .ref ax_dones, .int x_away, .int x_bestSet, .ref ax_aside, .ref ax_tapedWho, .ref ax_tapedTill, .int x_taped, .ref ax_kept, .int x_keeps])), (ax_row, .inl (cyI, 28, .inl x_row))]) [0, 1] (by decide) rfl) rfl rfl) rfl rfl hl.1 rfl (lv_room (Nat.le_of_ble_eq_true rfl)) dX7_orders_33 ⟨Nat.le_of_ble_eq_true rfl, Nat.le_of_ble_eq_true rfl⟩) hP hD hS hA [0, 1] [2] [1, 2, 0] rfl rfl rfl (by decide) (by decide) (by decide) (fun H locs hP hD hS => ?_)
              have hJ62 : ∀ (s0_62 : Int32) (H : Heap) (locs : List Loc) (ls : Array Slot), va_P D vwCl [(ax, .inr (7, [.ref ax_row, .ref ax_text, .int x_letters, .int x_at, .ref ax_read, .ref ax_undone, .int x_undos, .ref ax_order, .ref ax_dones, .int x_away, .int x_bestSet, .ref ax_aside, .ref ax_tapedWho, .ref ax_tapedTill, .int x_taped, .ref ax_kept, .int x_keeps])), (ax_row, .inl (cyI, 28, .inl x_row)), (ax_order, .inl (cyI, 8, .inl x_order))] H → va_D A [(ax, .inr (7, [.ref ax_row, .ref ax_text, .int x_letters, .int x_at, .ref ax_read, .ref ax_undone, .int x_undos, .ref ax_order, .ref ax_dones, .int x_away, .int x_bestSet, .ref ax_aside, .ref ax_tapedWho, .ref ax_tapedTill, .int x_taped, .ref ax_kept, .int x_keeps])), (ax_row, .inl (cyI, 28, .inl x_row)), (ax_order, .inl (cyI, 8, .inl x_order))] → va_S A s.heap H locs → lv_has ls 5 [(0, .ref ax), (1, .int i1), (2, .int i2), (3, .int i3)] → (if s0_62 = 0 then
((S_X7_orders_L16 (S_X7_orders_L2 x_row n2) i1 x_order x_row n16) (i2 + (0 : Int32)) (i3 + (1 : Int32))) else
((S_X7_orders_L16 (S_X7_orders_L2 x_row n2) i1 x_order x_row n16) (i2 + (1 : Int32)) (i3 + (1 : Int32)))) = some o_x_order → W p l e rX7_orders s m (([.ref ax] : List Value).toArray) below meth c H locs 0 0 (MQ below (CQv D [(ax, .inr (7, [.ref ax_row, .ref ax_text, .int x_letters, .int x_at, .ref ax_read, .ref ax_undone, .int x_undos, .ref ax_order, .ref ax_dones, .int x_away, .int x_bestSet, .ref ax_aside, .ref ax_tapedWho, .ref ax_tapedTill, .int x_taped, .ref ax_kept, .int x_keeps])), (ax_row, .inl (cyI, 28, .inl x_row)), (ax_order, .inl (cyI, 8, .inl o_x_order))] A) (([.ref ax] : List Value).toArray) s 0 0 A) (F0 m 62 ls [.int s0_62]) := by
                intro s0_62 H locs ls hP hD hS hl hf
                refine lv_istore (lv' := [(4, .int s0_62), (0, .ref ax), (1, .int i1), (2, .int i2), (3, .int i3)]) hx hb dX7_orders_62 hl (by decide) rfl (fun ls hl => ?_)
                refine lv_iload_n hx hb dX7_orders_64 rfl (lv_at hl 3 rfl) ?_
                refine lv_iload hx hb dX7_orders_65 (lv_at hl 0 rfl) ?_
                refine lv_if_eq (tgt := 74) hx hb dX7_orders_67 (by decide) (fun c67 => ?_) (fun c67 => ?_)
                · replace hf := ip c67 hf
                  refine lv_iconst (v := 0) hx hb dX7_orders_74 (by decide) ?_
                  refine lv_iadd hx hb dX7_orders_75 ?_
                  refine lv_istore_n (lv' := [(2, .int (i2 + (0 : Int32))), (4, .int s0_62), (0, .ref ax), (1, .int i1), (3, .int i3)]) hx hb dX7_orders_76 rfl hl (by decide) rfl (fun ls hl => ?_)
                  refine lv_iinc (v := i3 + (1 : Int32)) (lv' := [(3, .int (i3 + (1 : Int32))), (2, .int (i2 + (0 : Int32))), (4, .int s0_62), (0, .ref ax), (1, .int i1)]) hx hb dX7_orders_77 hl (k := 4) rfl rfl (by decide) rfl (fun ls hl => ?_)
                  refine lv_goto (tgt := 16) hx hb dX7_orders_80 (by decide) ?_
                  exact ih16 i1 x_order (i2 + (0 : Int32)) (i3 + (1 : Int32)) _ _ _ hP hD hS (lv_sub hl [3, 4, 1, 0] rfl) hf
                · replace hf := iq c67 hf
                  refine lv_iconst (v := 1) hx hb dX7_orders_70 (by decide) ?_
                  refine lv_goto (tgt := 75) hx hb dX7_orders_71 (by decide) ?_
                  refine lv_iadd hx hb dX7_orders_75 ?_
                  refine lv_istore_n (lv' := [(2, .int (i2 + (1 : Int32))), (4, .int s0_62), (0, .ref ax), (1, .int i1), (3, .int i3)]) hx hb dX7_orders_76 rfl hl (by decide) rfl (fun ls hl => ?_)
                  refine lv_iinc (v := i3 + (1 : Int32)) (lv' := [(3, .int (i3 + (1 : Int32))), (2, .int (i2 + (1 : Int32))), (4, .int s0_62), (0, .ref ax), (1, .int i1)]) hx hb dX7_orders_77 hl (k := 4) rfl rfl (by decide) rfl (fun ls hl => ?_)
                  refine lv_goto (tgt := 16) hx hb dX7_orders_80 (by decide) ?_
                  exact ih16 i1 x_order (i2 + (1 : Int32)) (i3 + (1 : Int32)) _ _ _ hP hD hS (lv_sub hl [3, 4, 1, 0] rfl) hf
              replace hf := jn_h hf
              have hJ57 : ∀ (H : Heap) (locs : List Loc) (ls : Array Slot), va_P D vwCl [(ax, .inr (7, [.ref ax_row, .ref ax_text, .int x_letters, .int x_at, .ref ax_read, .ref ax_undone, .int x_undos, .ref ax_order, .ref ax_dones, .int x_away, .int x_bestSet, .ref ax_aside, .ref ax_tapedWho, .ref ax_tapedTill, .int x_taped, .ref ax_kept, .int x_keeps])), (ax_row, .inl (cyI, 28, .inl x_row)), (ax_order, .inl (cyI, 8, .inl x_order))] H → va_D A [(ax, .inr (7, [.ref ax_row, .ref ax_text, .int x_letters, .int x_at, .ref ax_read, .ref ax_undone, .int x_undos, .ref ax_order, .ref ax_dones, .int x_away, .int x_bestSet, .ref ax_aside, .ref ax_tapedWho, .ref ax_tapedTill, .int x_taped, .ref ax_kept, .int x_keeps])), (ax_row, .inl (cyI, 28, .inl x_row)), (ax_order, .inl (cyI, 8, .inl x_order))] → va_S A s.heap H locs → lv_has ls 5 [(0, .ref ax), (1, .int i1), (2, .int i2), (3, .int i3)] → ((fun (s0_62 : Int32) => (if s0_62 = 0 then ((S_X7_orders_L16 (S_X7_orders_L2 x_row n2) i1 x_order x_row n16) (i2 + (0 : Int32)) (i3 + (1 : Int32))) else ((S_X7_orders_L16 (S_X7_orders_L2 x_row n2) i1 x_order x_row n16) (i2 + (1 : Int32)) (i3 + (1 : Int32))))) (1 : Int32)) = some o_x_order → W p l e rX7_orders s m (([.ref ax] : List Value).toArray) below meth c H locs 0 0 (MQ below (CQv D [(ax, .inr (7, [.ref ax_row, .ref ax_text, .int x_letters, .int x_at, .ref ax_read, .ref ax_undone, .int x_undos, .ref ax_order, .ref ax_dones, .int x_away, .int x_bestSet, .ref ax_aside, .ref ax_tapedWho, .ref ax_tapedTill, .int x_taped, .ref ax_kept, .int x_keeps])), (ax_row, .inl (cyI, 28, .inl x_row)), (ax_order, .inl (cyI, 8, .inl o_x_order))] A) (([.ref ax] : List Value).toArray) s 0 0 A) (F0 m 57 ls []) := by
                intro  H locs ls hP hD hS hl hf
                refine lv_iconst (v := 1) hx hb dX7_orders_57 (by decide) ?_
                refine lv_goto (tgt := 62) hx hb dX7_orders_58 (by decide) ?_
                exact hJ62 (1 : Int32) _ _ _ hP hD hS (lv_sub hl [0, 1, 2, 3] rfl) hf
              replace hf := jn_h hf
              refine lv_icmp_lt (tgt := 57) hx hb dX7_orders_36 (by decide) (fun c36 => ?_) (fun c36 => ?_)
              · replace hf := ip c36 hf
                exact hJ57 _ _ _ hP hD hS (lv_sub hl [0, 1, 2, 3] rfl) hf
              · replace hf := iq c36 hf
                refine lv_aload_n hx hb dX7_orders_39 rfl (lv_at hl 0 rfl) ?_
                refine lv_iload_n hx hb dX7_orders_40 rfl (lv_at hl 3 rfl) ?_
                obtain ⟨r41, q41, hf⟩ := ob hf
                refine k_i (wc := [(ax, .inr (7, [.ref ax_row, .ref ax_text, .int x_letters, .int x_at, .ref ax_read, .ref ax_undone, .int x_undos, .ref ax_order, .ref ax_dones, .int x_away, .int x_bestSet, .ref ax_aside, .ref ax_tapedWho, .ref ax_tapedTill, .int x_taped, .ref ax_kept, .int x_keeps])), (ax_row, .inl (cyI, 28, .inl x_row))]) (wr := [(ax_order, .inl (cyI, 8, .inl x_order))]) (w1 := [(ax, .inr (7, [.ref ax_row, .ref ax_text, .int x_letters, .int x_at, .ref ax_read, .ref ax_undone, .int x_undos, .ref ax_order, .ref ax_dones, .int x_away, .int x_bestSet, .ref ax_aside, .ref ax_tapedWho, .ref ax_tapedTill, .int x_taped, .ref ax_kept, .int x_keeps])), (ax_row, .inl (cyI, 28, .inl x_row))]) (wn := [(ax, .inr (7, [.ref ax_row, .ref ax_text, .int x_letters, .int x_at, .ref ax_read, .ref ax_undone, .int x_undos, .ref ax_order, .ref ax_dones, .int x_away, .int x_bestSet, .ref ax_aside, .ref ax_tapedWho, .ref ax_tapedTill, .int x_taped, .ref ax_kept, .int x_keeps])), (ax_row, .inl (cyI, 28, .inl x_row)), (ax_order, .inl (cyI, 8, .inl x_order))]) (va_runV (As := [.int i3]) (rest := []) ⟨hx, hb, hml, hown, hts⟩ (c_X7_walk l D cyI cyC cyS H.size ax ax_row ax_text ax_read ax_undone ax_order ax_dones ax_aside ax_tapedWho ax_tapedTill ax_kept x_letters x_at x_undos x_away x_bestSet x_taped x_keeps x_row i3 q41) (cwV 1 hts gX7_orders_X7_walk rfl rfl rfl (by decide +kernel) ⟨Nat.le_of_ble_eq_true rfl, Nat.le_of_ble_eq_true rfl⟩) (preV (ci := 7) hK (hP.subm (ws' := [(ax, .inr (7, [.ref ax_row, .ref ax_text, .int x_letters, .int x_at, .ref ax_read, .ref ax_undone, .int x_undos, .ref ax_order, .ref ax_dones, .int x_away, .int x_bestSet, .ref ax_aside, .ref ax_tapedWho, .ref ax_tapedTill, .int x_taped, .ref ax_kept, .int x_keeps])), (ax_row, .inl (cyI, 28, .inl x_row))]) [0, 1] rfl) (hD.sub (ws' := [(ax, .inr (7, [.ref ax_row, .ref ax_text, .int x_letters, .int x_at, .ref ax_read, .ref ax_undone, .int x_undos, .ref ax_order, .ref ax_dones, .int x_away, .int x_bestSet, .ref ax_aside, .ref ax_tapedWho, .ref ax_tapedTill, .int x_taped, .ref ax_kept, .int x_keeps])), (ax_row, .inl (cyI, 28, .inl x_row))]) [0, 1] (by decide) rfl) rfl rfl) rfl rfl hl.1 rfl (lv_room (Nat.le_of_ble_eq_true rfl)) dX7_orders_41 ⟨Nat.le_of_ble_eq_true rfl, Nat.le_of_ble_eq_true rfl⟩) hP hD hS hA [0, 1] [2] [1, 2, 0] rfl rfl rfl (by decide) (by decide) (by decide) (fun H locs hP hD hS => ?_)
                refine lv_aload_n hx hb dX7_orders_44 rfl (lv_at hl 0 rfl) ?_
                refine lv_iload_n hx hb dX7_orders_45 rfl (lv_at hl 1 rfl) ?_
                obtain ⟨r46, q46, hf⟩ := ob hf
                refine k_i (wc := [(ax, .inr (7, [.ref ax_row, .ref ax_text, .int x_letters, .int x_at, .ref ax_read, .ref ax_undone, .int x_undos, .ref ax_order, .ref ax_dones, .int x_away, .int x_bestSet, .ref ax_aside, .ref ax_tapedWho, .ref ax_tapedTill, .int x_taped, .ref ax_kept, .int x_keeps])), (ax_row, .inl (cyI, 28, .inl x_row))]) (wr := [(ax_order, .inl (cyI, 8, .inl x_order))]) (w1 := [(ax, .inr (7, [.ref ax_row, .ref ax_text, .int x_letters, .int x_at, .ref ax_read, .ref ax_undone, .int x_undos, .ref ax_order, .ref ax_dones, .int x_away, .int x_bestSet, .ref ax_aside, .ref ax_tapedWho, .ref ax_tapedTill, .int x_taped, .ref ax_kept, .int x_keeps])), (ax_row, .inl (cyI, 28, .inl x_row))]) (wn := [(ax, .inr (7, [.ref ax_row, .ref ax_text, .int x_letters, .int x_at, .ref ax_read, .ref ax_undone, .int x_undos, .ref ax_order, .ref ax_dones, .int x_away, .int x_bestSet, .ref ax_aside, .ref ax_tapedWho, .ref ax_tapedTill, .int x_taped, .ref ax_kept, .int x_keeps])), (ax_row, .inl (cyI, 28, .inl x_row)), (ax_order, .inl (cyI, 8, .inl x_order))]) (va_runV (As := [.int i1]) (rest := [.int r41]) ⟨hx, hb, hml, hown, hts⟩ (c_X7_walk l D cyI cyC cyS H.size ax ax_row ax_text ax_read ax_undone ax_order ax_dones ax_aside ax_tapedWho ax_tapedTill ax_kept x_letters x_at x_undos x_away x_bestSet x_taped x_keeps x_row i1 q46) (cwV 1 hts gX7_orders_X7_walk rfl rfl rfl (by decide +kernel) ⟨Nat.le_of_ble_eq_true rfl, Nat.le_of_ble_eq_true rfl⟩) (preV (ci := 7) hK (hP.subm (ws' := [(ax, .inr (7, [.ref ax_row, .ref ax_text, .int x_letters, .int x_at, .ref ax_read, .ref ax_undone, .int x_undos, .ref ax_order, .ref ax_dones, .int x_away, .int x_bestSet, .ref ax_aside, .ref ax_tapedWho, .ref ax_tapedTill, .int x_taped, .ref ax_kept, .int x_keeps])), (ax_row, .inl (cyI, 28, .inl x_row))]) [0, 1] rfl) (hD.sub (ws' := [(ax, .inr (7, [.ref ax_row, .ref ax_text, .int x_letters, .int x_at, .ref ax_read, .ref ax_undone, .int x_undos, .ref ax_order, .ref ax_dones, .int x_away, .int x_bestSet, .ref ax_aside, .ref ax_tapedWho, .ref ax_tapedTill, .int x_taped, .ref ax_kept, .int x_keeps])), (ax_row, .inl (cyI, 28, .inl x_row))]) [0, 1] (by decide) rfl) rfl rfl) rfl rfl hl.1 rfl (lv_room (Nat.le_of_ble_eq_true rfl)) dX7_orders_46 ⟨Nat.le_of_ble_eq_true rfl, Nat.le_of_ble_eq_true rfl⟩) hP hD hS hA [0, 1] [2] [1, 2, 0] rfl rfl rfl (by decide) (by decide) (by decide) (fun H locs hP hD hS => ?_)
                refine lv_icmp_ne (tgt := 61) hx hb dX7_orders_49 (by decide) (fun c49 => ?_) (fun c49 => ?_)
                · replace hf := iq c49 hf
                  refine lv_iconst (v := 0) hx hb dX7_orders_61 (by decide) ?_
                  exact hJ62 (0 : Int32) _ _ _ hP hD hS (lv_sub hl [0, 1, 2, 3] rfl) hf
                · replace hf := ip c49 hf
                  refine lv_iload_n hx hb dX7_orders_52 rfl (lv_at hl 3 rfl) ?_
                  refine lv_iload_n hx hb dX7_orders_53 rfl (lv_at hl 1 rfl) ?_
                  refine lv_icmp_le (tgt := 61) hx hb dX7_orders_54 (by decide) (fun c54 => ?_) (fun c54 => ?_)
                  · replace hf := ip c54 hf
                    refine lv_iconst (v := 0) hx hb dX7_orders_61 (by decide) ?_
                    exact hJ62 (0 : Int32) _ _ _ hP hD hS (lv_sub hl [0, 1, 2, 3] rfl) hf
                  · replace hf := iq c54 hf
                    exact hJ57 _ _ _ hP hD hS (lv_sub hl [0, 1, 2, 3] rfl) hf
        exact hL16 300 i1 x_order (0 : Int32) (0 : Int32) _ _ _ hP hD hS (lv_sub hl [2, 3, 1, 0] rfl) hf
  exact hL2 300 (0 : Int32) x_order _ _ _ hP hD hS (lv_sub hl [1, 0] rfl) hf
abbrev rX7_inRow : Room := { frames := 1, cells := 0, slots := 0, locals := 21 }
set_option maxHeartbeats 4000000 in
set_option maxRecDepth 100000 in
theorem c_X7_inRow (l : Launch) (D : va_G) (cyI cyC cyS : ClassId) (sz : Nat) (ax : Nat) (ax_row : Nat) (ax_text : Nat) (ax_read : Nat) (ax_undone : Nat) (ax_order : Nat) (ax_dones : Nat) (ax_aside : Nat) (ax_tapedWho : Nat) (ax_tapedTill : Nat) (ax_kept : Nat) (x_letters : Int32) (x_at : Int32) (x_undos : Int32) (x_away : Int32) (x_bestSet : Int32) (x_taped : Int32) (x_keeps : Int32) (x_row : Nat → Int32) (i1 : Int32) (i2 : Int32) {r : Int32} (hf : S_X7_inRow i1 i2 x_row = some r) : Met l yX7_inRow wsX7_inRow rX7_inRow (Cpre [.ref ax, .int i1, .int i2] D cyI cyC cyS sz [(ax, .inr (7, [.ref ax_row, .ref ax_text, .int x_letters, .int x_at, .ref ax_read, .ref ax_undone, .int x_undos, .ref ax_order, .ref ax_dones, .int x_away, .int x_bestSet, .ref ax_aside, .ref ax_tapedWho, .ref ax_tapedTill, .int x_taped, .ref ax_kept, .int x_keeps])), (ax_row, .inl (cyI, 28, .inl x_row))]) (CQi r D [(ax, .inr (7, [.ref ax_row, .ref ax_text, .int x_letters, .int x_at, .ref ax_read, .ref ax_undone, .int x_undos, .ref ax_order, .ref ax_dones, .int x_away, .int x_bestSet, .ref ax_aside, .ref ax_tapedWho, .ref ax_tapedTill, .int x_taped, .ref ax_kept, .int x_keeps])), (ax_row, .inl (cyI, 28, .inl x_row))] (va_A [(ax, .inr (7, [.ref ax_row, .ref ax_text, .int x_letters, .int x_at, .ref ax_read, .ref ax_undone, .int x_undos, .ref ax_order, .ref ax_dones, .int x_away, .int x_bestSet, .ref ax_aside, .ref ax_tapedWho, .ref ax_tapedTill, .int x_taped, .ref ax_kept, .int x_keeps])), (ax_row, .inl (cyI, 28, .inl x_row))] sz)) 0 0 (va_A [(ax, .inr (7, [.ref ax_row, .ref ax_text, .int x_letters, .int x_at, .ref ax_read, .ref ax_undone, .int x_undos, .ref ax_order, .ref ax_dones, .int x_away, .int x_bestSet, .ref ax_aside, .ref ax_tapedWho, .ref ax_tapedTill, .int x_taped, .ref ax_kept, .int x_keeps])), (ax_row, .inl (cyI, 28, .inl x_row))] sz) := by
  refine Met.ofW (cc := cX7_inRow) (maxL := 5) (ret := (some .int)) (by decide) rfl ?_
  intro p e s m args below meth c s₁ B hml hv
  obtain ⟨rfl, hsz, hP, hK, hD0⟩ := hv
  have hx := B.exec
  have hb := B.bytes
  have hr := B.returns
  have hts := atoms_spec (ws := wsX7_inRow) B.pre
  have hown : s.vm.findClass RX7 = some m.cls := findClass_of_methodNamed B.named
  have hlocks := B.notSynchronized
  subst hsz
  have hD := hD0.self (sz := s.heap.size)
  generalize hAe : va_A [(ax, .inr (7, [.ref ax_row, .ref ax_text, .int x_letters, .int x_at, .ref ax_read, .ref ax_undone, .int x_undos, .ref ax_order, .ref ax_dones, .int x_away, .int x_bestSet, .ref ax_aside, .ref ax_tapedWho, .ref ax_tapedTill, .int x_taped, .ref ax_kept, .int x_keeps])), (ax_row, .inl (cyI, 28, .inl x_row))] s.heap.size = A at hD ⊢
  have hA : ∀ q : Nat, s.heap.size ≤ q → A q := fun q h => by rw [← hAe]; exact Or.inr h
  have hS : va_S A s.heap s.heap [] := va_S.rf
  have hl := lv_entry ([.ref ax, .int i1, .int i2]) (n := 5) (Nat.le_of_ble_eq_true rfl)
  rw [lg_entry_eq]
  generalize (lg_sl ([.ref ax, .int i1, .int i2]) ++ List.replicate (5 - (lg_sl ([.ref ax, .int i1, .int i2])).length) Slot.unset).toArray = ls at hl ⊢
  have hl : lv_has ls 5 [(0, .ref ax), (1, .int i1), (2, .int i2)] := hl
  have f7 := hts (.fieldLink RX7 7 "SecondTillModel" "row" "[I") (by decide +kernel)
  have inX7 : ∀ w ∈ u_ws RX7 TX7 17, w ∈ wsX7_inRow := by decide +kernel
  unfold S_X7_inRow at hf
  have hP : va_P D vwCl [(ax, .inr (7, [.ref ax_row, .ref ax_text, .int x_letters, .int x_at, .ref ax_read, .ref ax_undone, .int x_undos, .ref ax_order, .ref ax_dones, .int x_away, .int x_bestSet, .ref ax_aside, .ref ax_tapedWho, .ref ax_tapedTill, .int x_taped, .ref ax_kept, .int x_keeps])), (ax_row, .inl (cyI, 28, .inl x_row))] s.heap := hP
  suffices hgo : ∀ (H : Heap) (locs : List Loc), va_P D vwCl [(ax, .inr (7, [.ref ax_row, .ref ax_text, .int x_letters, .int x_at, .ref ax_read, .ref ax_undone, .int x_undos, .ref ax_order, .ref ax_dones, .int x_away, .int x_bestSet, .ref ax_aside, .ref ax_tapedWho, .ref ax_tapedTill, .int x_taped, .ref ax_kept, .int x_keeps])), (ax_row, .inl (cyI, 28, .inl x_row))] H → va_S A s.heap H locs → W p l e rX7_inRow s m (([.ref ax, .int i1, .int i2] : List Value).toArray) below meth c H locs 0 0 (MQ below (CQi r D [(ax, .inr (7, [.ref ax_row, .ref ax_text, .int x_letters, .int x_at, .ref ax_read, .ref ax_undone, .int x_undos, .ref ax_order, .ref ax_dones, .int x_away, .int x_bestSet, .ref ax_aside, .ref ax_tapedWho, .ref ax_tapedTill, .int x_taped, .ref ax_kept, .int x_keeps])), (ax_row, .inl (cyI, 28, .inl x_row))] A) (([.ref ax, .int i1, .int i2] : List Value).toArray) s 0 0 A) (F0 m 0 ls []) from hgo _ _ hP hS
  clear hP hS
  intro H locs hP hS
  refine lv_aload_n hx hb dX7_inRow_0 rfl (lv_at hl 0 rfl) ?_
  refine lv_iload_n hx hb dX7_inRow_1 rfl (lv_at hl 1 rfl) ?_
  obtain ⟨r2, q2, hf⟩ := ob hf
  refine k_i (wc := [(ax, .inr (7, [.ref ax_row, .ref ax_text, .int x_letters, .int x_at, .ref ax_read, .ref ax_undone, .int x_undos, .ref ax_order, .ref ax_dones, .int x_away, .int x_bestSet, .ref ax_aside, .ref ax_tapedWho, .ref ax_tapedTill, .int x_taped, .ref ax_kept, .int x_keeps])), (ax_row, .inl (cyI, 28, .inl x_row))]) (wr := []) (w1 := [(ax, .inr (7, [.ref ax_row, .ref ax_text, .int x_letters, .int x_at, .ref ax_read, .ref ax_undone, .int x_undos, .ref ax_order, .ref ax_dones, .int x_away, .int x_bestSet, .ref ax_aside, .ref ax_tapedWho, .ref ax_tapedTill, .int x_taped, .ref ax_kept, .int x_keeps])), (ax_row, .inl (cyI, 28, .inl x_row))]) (wn := [(ax, .inr (7, [.ref ax_row, .ref ax_text, .int x_letters, .int x_at, .ref ax_read, .ref ax_undone, .int x_undos, .ref ax_order, .ref ax_dones, .int x_away, .int x_bestSet, .ref ax_aside, .ref ax_tapedWho, .ref ax_tapedTill, .int x_taped, .ref ax_kept, .int x_keeps])), (ax_row, .inl (cyI, 28, .inl x_row))]) (va_runV (As := [.int i1]) (rest := []) ⟨hx, hb, hml, hown, hts⟩ (c_X7_things l D cyI cyC cyS H.size ax ax_row ax_text ax_read ax_undone ax_order ax_dones ax_aside ax_tapedWho ax_tapedTill ax_kept x_letters x_at x_undos x_away x_bestSet x_taped x_keeps x_row i1 q2) (cwV 1 hts gX7_inRow_X7_things rfl rfl rfl (by decide +kernel) ⟨Nat.le_of_ble_eq_true rfl, Nat.le_of_ble_eq_true rfl⟩) (preV (ci := 7) hK (hP.subm (ws' := [(ax, .inr (7, [.ref ax_row, .ref ax_text, .int x_letters, .int x_at, .ref ax_read, .ref ax_undone, .int x_undos, .ref ax_order, .ref ax_dones, .int x_away, .int x_bestSet, .ref ax_aside, .ref ax_tapedWho, .ref ax_tapedTill, .int x_taped, .ref ax_kept, .int x_keeps])), (ax_row, .inl (cyI, 28, .inl x_row))]) [0, 1] rfl) (hD.sub (ws' := [(ax, .inr (7, [.ref ax_row, .ref ax_text, .int x_letters, .int x_at, .ref ax_read, .ref ax_undone, .int x_undos, .ref ax_order, .ref ax_dones, .int x_away, .int x_bestSet, .ref ax_aside, .ref ax_tapedWho, .ref ax_tapedTill, .int x_taped, .ref ax_kept, .int x_keeps])), (ax_row, .inl (cyI, 28, .inl x_row))]) [0, 1] (by decide) rfl) rfl rfl) rfl rfl hl.1 rfl (lv_room (Nat.le_of_ble_eq_true rfl)) dX7_inRow_2 ⟨Nat.le_of_ble_eq_true rfl, Nat.le_of_ble_eq_true rfl⟩) hP hD hS hA [0, 1] [] [0, 1] rfl rfl rfl (by decide) (by decide) (by decide) (fun H locs hP hD hS => ?_)
  refine lv_istore_n (lv' := [(3, .int r2), (0, .ref ax), (1, .int i1), (2, .int i2)]) hx hb dX7_inRow_5 rfl hl (by decide) rfl (fun ls hl => ?_)
  refine lv_iconst (v := 0) hx hb dX7_inRow_6 (by decide) ?_
  refine lv_istore (lv' := [(4, .int (0 : Int32)), (3, .int r2), (0, .ref ax), (1, .int i1), (2, .int i2)]) hx hb dX7_inRow_7 hl (by decide) rfl (fun ls hl => ?_)
  have hL9 : ∀ (n9 : Nat) (i3 : Int32) (i4 : Int32) (H : Heap) (locs : List Loc) (ls : Array Slot), va_P D vwCl [(ax, .inr (7, [.ref ax_row, .ref ax_text, .int x_letters, .int x_at, .ref ax_read, .ref ax_undone, .int x_undos, .ref ax_order, .ref ax_dones, .int x_away, .int x_bestSet, .ref ax_aside, .ref ax_tapedWho, .ref ax_tapedTill, .int x_taped, .ref ax_kept, .int x_keeps])), (ax_row, .inl (cyI, 28, .inl x_row))] H → va_D A [(ax, .inr (7, [.ref ax_row, .ref ax_text, .int x_letters, .int x_at, .ref ax_read, .ref ax_undone, .int x_undos, .ref ax_order, .ref ax_dones, .int x_away, .int x_bestSet, .ref ax_aside, .ref ax_tapedWho, .ref ax_tapedTill, .int x_taped, .ref ax_kept, .int x_keeps])), (ax_row, .inl (cyI, 28, .inl x_row))] → va_S A s.heap H locs → lv_has ls 5 [(0, .ref ax), (1, .int i1), (2, .int i2), (3, .int i3), (4, .int i4)] → S_X7_inRow_L9 i1 i2 x_row n9 i3 i4 = some r → W p l e rX7_inRow s m (([.ref ax, .int i1, .int i2] : List Value).toArray) below meth c H locs 0 0 (MQ below (CQi r D [(ax, .inr (7, [.ref ax_row, .ref ax_text, .int x_letters, .int x_at, .ref ax_read, .ref ax_undone, .int x_undos, .ref ax_order, .ref ax_dones, .int x_away, .int x_bestSet, .ref ax_aside, .ref ax_tapedWho, .ref ax_tapedTill, .int x_taped, .ref ax_kept, .int x_keeps])), (ax_row, .inl (cyI, 28, .inl x_row))] A) (([.ref ax, .int i1, .int i2] : List Value).toArray) s 0 0 A) (F0 m 9 ls []) := by
    intro n9
    induction n9 with
    | zero => intro i3 i4 H locs ls hP hD hS hl hf; exact absurd hf (by simp [S_X7_inRow_L9])
    | succ n9 ih9 =>
      intro i3 i4 H locs ls hP hD hS hl hf
      rw [S_X7_inRow_L9] at hf
      refine lv_iload hx hb dX7_inRow_9 (lv_at hl 4 rfl) ?_
      refine lv_iload_n hx hb dX7_inRow_11 rfl (lv_at hl 1 rfl) ?_
      refine lv_icmp_ge (tgt := 43) hx hb dX7_inRow_12 (by decide) (fun c12 => ?_) (fun c12 => ?_)
      · replace hf := ip c12 hf
        refine lv_aload_n hx hb dX7_inRow_43 rfl (lv_at hl 0 rfl) ?_
        refine va_get (C := RX7) (T := TX7) (N := 17) hx hb hts inX7 hown hK.1 hP 0 rfl rfl 0 (by decide) f7 (fun _ h9 => h9) rfl dX7_inRow_44 ?_
        refine lv_iconst (v := 1) hx hb dX7_inRow_47 (by decide) ?_
        refine a_ild hx hb hK hP 1 rfl (vin (by decide)) 1 (by decide) dX7_inRow_48 ?_
        refine lv_iload_n hx hb dX7_inRow_49 rfl (lv_at hl 3 rfl) ?_
        refine lv_imul hx hb dX7_inRow_50 ?_
        obtain rfl := Option.some.inj hf
        exact W.iret hx hb hr (fun t ht hW => ⟨⟨_, (), rfl, rfl, by rw [ht]; exact hP, hD⟩, hS.F ht⟩) hS.2.2 dX7_inRow_51
      · replace hf := iq c12 hf
        refine lv_iload_n hx hb dX7_inRow_15 rfl (lv_at hl 3 rfl) ?_
        refine lv_iload_n hx hb dX7_inRow_16 rfl (lv_at hl 2 rfl) ?_
        refine lv_iload hx hb dX7_inRow_17 (lv_at hl 4 rfl) ?_
        refine lv_ishr hx hb dX7_inRow_19 ?_
        refine lv_iconst (v := 1) hx hb dX7_inRow_20 (by decide) ?_
        refine lv_iand hx hb dX7_inRow_21 ?_
        refine lv_if_ne (tgt := 34) hx hb dX7_inRow_22 (by decide) (fun c22 => ?_) (fun c22 => ?_)
        · replace hf := iq c22 hf
          refine lv_iconst (v := 0) hx hb dX7_inRow_34 (by decide) ?_
          refine lv_iadd hx hb dX7_inRow_35 ?_
          refine lv_istore_n (lv' := [(3, .int (i3 + (0 : Int32))), (0, .ref ax), (1, .int i1), (2, .int i2), (4, .int i4)]) hx hb dX7_inRow_36 rfl hl (by decide) rfl (fun ls hl => ?_)
          refine lv_iinc (v := i4 + (1 : Int32)) (lv' := [(4, .int (i4 + (1 : Int32))), (3, .int (i3 + (0 : Int32))), (0, .ref ax), (1, .int i1), (2, .int i2)]) hx hb dX7_inRow_37 hl (k := 4) rfl rfl (by decide) rfl (fun ls hl => ?_)
          refine lv_goto (tgt := 9) hx hb dX7_inRow_40 (by decide) ?_
          exact ih9 (i3 + (0 : Int32)) (i4 + (1 : Int32)) _ _ _ hP hD hS (lv_sub hl [2, 3, 4, 1, 0] rfl) hf
        · replace hf := ip c22 hf
          refine lv_aload_n hx hb dX7_inRow_25 rfl (lv_at hl 0 rfl) ?_
          refine lv_iload hx hb dX7_inRow_26 (lv_at hl 4 rfl) ?_
          obtain ⟨r28, q28, hf⟩ := ob hf
          refine k_i (wc := [(ax, .inr (7, [.ref ax_row, .ref ax_text, .int x_letters, .int x_at, .ref ax_read, .ref ax_undone, .int x_undos, .ref ax_order, .ref ax_dones, .int x_away, .int x_bestSet, .ref ax_aside, .ref ax_tapedWho, .ref ax_tapedTill, .int x_taped, .ref ax_kept, .int x_keeps])), (ax_row, .inl (cyI, 28, .inl x_row))]) (wr := []) (w1 := [(ax, .inr (7, [.ref ax_row, .ref ax_text, .int x_letters, .int x_at, .ref ax_read, .ref ax_undone, .int x_undos, .ref ax_order, .ref ax_dones, .int x_away, .int x_bestSet, .ref ax_aside, .ref ax_tapedWho, .ref ax_tapedTill, .int x_taped, .ref ax_kept, .int x_keeps])), (ax_row, .inl (cyI, 28, .inl x_row))]) (wn := [(ax, .inr (7, [.ref ax_row, .ref ax_text, .int x_letters, .int x_at, .ref ax_read, .ref ax_undone, .int x_undos, .ref ax_order, .ref ax_dones, .int x_away, .int x_bestSet, .ref ax_aside, .ref ax_tapedWho, .ref ax_tapedTill, .int x_taped, .ref ax_kept, .int x_keeps])), (ax_row, .inl (cyI, 28, .inl x_row))]) (va_runV (As := [.int i4]) (rest := [.int i3]) ⟨hx, hb, hml, hown, hts⟩ (c_X7_things l D cyI cyC cyS H.size ax ax_row ax_text ax_read ax_undone ax_order ax_dones ax_aside ax_tapedWho ax_tapedTill ax_kept x_letters x_at x_undos x_away x_bestSet x_taped x_keeps x_row i4 q28) (cwV 1 hts gX7_inRow_X7_things rfl rfl rfl (by decide +kernel) ⟨Nat.le_of_ble_eq_true rfl, Nat.le_of_ble_eq_true rfl⟩) (preV (ci := 7) hK (hP.subm (ws' := [(ax, .inr (7, [.ref ax_row, .ref ax_text, .int x_letters, .int x_at, .ref ax_read, .ref ax_undone, .int x_undos, .ref ax_order, .ref ax_dones, .int x_away, .int x_bestSet, .ref ax_aside, .ref ax_tapedWho, .ref ax_tapedTill, .int x_taped, .ref ax_kept, .int x_keeps])), (ax_row, .inl (cyI, 28, .inl x_row))]) [0, 1] rfl) (hD.sub (ws' := [(ax, .inr (7, [.ref ax_row, .ref ax_text, .int x_letters, .int x_at, .ref ax_read, .ref ax_undone, .int x_undos, .ref ax_order, .ref ax_dones, .int x_away, .int x_bestSet, .ref ax_aside, .ref ax_tapedWho, .ref ax_tapedTill, .int x_taped, .ref ax_kept, .int x_keeps])), (ax_row, .inl (cyI, 28, .inl x_row))]) [0, 1] (by decide) rfl) rfl rfl) rfl rfl hl.1 rfl (lv_room (Nat.le_of_ble_eq_true rfl)) dX7_inRow_28 ⟨Nat.le_of_ble_eq_true rfl, Nat.le_of_ble_eq_true rfl⟩) hP hD hS hA [0, 1] [] [0, 1] rfl rfl rfl (by decide) (by decide) (by decide) (fun H locs hP hD hS => ?_)
          refine lv_goto (tgt := 35) hx hb dX7_inRow_31 (by decide) ?_
          refine lv_iadd hx hb dX7_inRow_35 ?_
          refine lv_istore_n (lv' := [(3, .int (i3 + r28)), (0, .ref ax), (1, .int i1), (2, .int i2), (4, .int i4)]) hx hb dX7_inRow_36 rfl hl (by decide) rfl (fun ls hl => ?_)
          refine lv_iinc (v := i4 + (1 : Int32)) (lv' := [(4, .int (i4 + (1 : Int32))), (3, .int (i3 + r28)), (0, .ref ax), (1, .int i1), (2, .int i2)]) hx hb dX7_inRow_37 hl (k := 4) rfl rfl (by decide) rfl (fun ls hl => ?_)
          refine lv_goto (tgt := 9) hx hb dX7_inRow_40 (by decide) ?_
          exact ih9 (i3 + r28) (i4 + (1 : Int32)) _ _ _ hP hD hS (lv_sub hl [2, 3, 4, 1, 0] rfl) hf
  exact hL9 300 r2 (0 : Int32) _ _ _ hP hD hS (lv_sub hl [2, 3, 4, 1, 0] rfl) hf
abbrev rX7_there : Room := { frames := 1, cells := 0, slots := 0, locals := 21 }
set_option maxHeartbeats 4000000 in
set_option maxRecDepth 100000 in
theorem c_X7_there (l : Launch) (D : va_G) (cyI cyC cyS : ClassId) (sz : Nat) (ax : Nat) (ax_row : Nat) (ax_text : Nat) (ax_read : Nat) (ax_undone : Nat) (ax_order : Nat) (ax_dones : Nat) (ax_aside : Nat) (ax_tapedWho : Nat) (ax_tapedTill : Nat) (ax_kept : Nat) (x_letters : Int32) (x_at : Int32) (x_undos : Int32) (x_away : Int32) (x_bestSet : Int32) (x_taped : Int32) (x_keeps : Int32) (x_row : Nat → Int32) (i1 : Int32) (i2 : Int32) {r : Int32} (hf : S_X7_there i1 i2 x_row = some r) : Met l yX7_there wsX7_there rX7_there (Cpre [.ref ax, .int i1, .int i2] D cyI cyC cyS sz [(ax, .inr (7, [.ref ax_row, .ref ax_text, .int x_letters, .int x_at, .ref ax_read, .ref ax_undone, .int x_undos, .ref ax_order, .ref ax_dones, .int x_away, .int x_bestSet, .ref ax_aside, .ref ax_tapedWho, .ref ax_tapedTill, .int x_taped, .ref ax_kept, .int x_keeps])), (ax_row, .inl (cyI, 28, .inl x_row))]) (CQi r D [(ax, .inr (7, [.ref ax_row, .ref ax_text, .int x_letters, .int x_at, .ref ax_read, .ref ax_undone, .int x_undos, .ref ax_order, .ref ax_dones, .int x_away, .int x_bestSet, .ref ax_aside, .ref ax_tapedWho, .ref ax_tapedTill, .int x_taped, .ref ax_kept, .int x_keeps])), (ax_row, .inl (cyI, 28, .inl x_row))] (va_A [(ax, .inr (7, [.ref ax_row, .ref ax_text, .int x_letters, .int x_at, .ref ax_read, .ref ax_undone, .int x_undos, .ref ax_order, .ref ax_dones, .int x_away, .int x_bestSet, .ref ax_aside, .ref ax_tapedWho, .ref ax_tapedTill, .int x_taped, .ref ax_kept, .int x_keeps])), (ax_row, .inl (cyI, 28, .inl x_row))] sz)) 0 0 (va_A [(ax, .inr (7, [.ref ax_row, .ref ax_text, .int x_letters, .int x_at, .ref ax_read, .ref ax_undone, .int x_undos, .ref ax_order, .ref ax_dones, .int x_away, .int x_bestSet, .ref ax_aside, .ref ax_tapedWho, .ref ax_tapedTill, .int x_taped, .ref ax_kept, .int x_keeps])), (ax_row, .inl (cyI, 28, .inl x_row))] sz) := by
  refine Met.ofW (cc := cX7_there) (maxL := 3) (ret := (some .int)) (by decide) rfl ?_
  intro p e s m args below meth c s₁ B hml hv
  obtain ⟨rfl, hsz, hP, hK, hD0⟩ := hv
  have hx := B.exec
  have hb := B.bytes
  have hr := B.returns
  have hts := atoms_spec (ws := wsX7_there) B.pre
  have hown : s.vm.findClass RX7 = some m.cls := findClass_of_methodNamed B.named
  have hlocks := B.notSynchronized
  subst hsz
  have hD := hD0.self (sz := s.heap.size)
  generalize hAe : va_A [(ax, .inr (7, [.ref ax_row, .ref ax_text, .int x_letters, .int x_at, .ref ax_read, .ref ax_undone, .int x_undos, .ref ax_order, .ref ax_dones, .int x_away, .int x_bestSet, .ref ax_aside, .ref ax_tapedWho, .ref ax_tapedTill, .int x_taped, .ref ax_kept, .int x_keeps])), (ax_row, .inl (cyI, 28, .inl x_row))] s.heap.size = A at hD ⊢
  have hA : ∀ q : Nat, s.heap.size ≤ q → A q := fun q h => by rw [← hAe]; exact Or.inr h
  have hS : va_S A s.heap s.heap [] := va_S.rf
  have hl := lv_entry ([.ref ax, .int i1, .int i2]) (n := 3) (Nat.le_of_ble_eq_true rfl)
  rw [lg_entry_eq]
  generalize (lg_sl ([.ref ax, .int i1, .int i2]) ++ List.replicate (3 - (lg_sl ([.ref ax, .int i1, .int i2])).length) Slot.unset).toArray = ls at hl ⊢
  have hl : lv_has ls 3 [(0, .ref ax), (1, .int i1), (2, .int i2)] := hl
  have f7 := hts (.fieldLink RX7 7 "SecondTillModel" "row" "[I") (by decide +kernel)
  have inX7 : ∀ w ∈ u_ws RX7 TX7 17, w ∈ wsX7_there := by decide +kernel
  unfold S_X7_there at hf
  have hP : va_P D vwCl [(ax, .inr (7, [.ref ax_row, .ref ax_text, .int x_letters, .int x_at, .ref ax_read, .ref ax_undone, .int x_undos, .ref ax_order, .ref ax_dones, .int x_away, .int x_bestSet, .ref ax_aside, .ref ax_tapedWho, .ref ax_tapedTill, .int x_taped, .ref ax_kept, .int x_keeps])), (ax_row, .inl (cyI, 28, .inl x_row))] s.heap := hP
  suffices hgo : ∀ (H : Heap) (locs : List Loc), va_P D vwCl [(ax, .inr (7, [.ref ax_row, .ref ax_text, .int x_letters, .int x_at, .ref ax_read, .ref ax_undone, .int x_undos, .ref ax_order, .ref ax_dones, .int x_away, .int x_bestSet, .ref ax_aside, .ref ax_tapedWho, .ref ax_tapedTill, .int x_taped, .ref ax_kept, .int x_keeps])), (ax_row, .inl (cyI, 28, .inl x_row))] H → va_S A s.heap H locs → W p l e rX7_there s m (([.ref ax, .int i1, .int i2] : List Value).toArray) below meth c H locs 0 0 (MQ below (CQi r D [(ax, .inr (7, [.ref ax_row, .ref ax_text, .int x_letters, .int x_at, .ref ax_read, .ref ax_undone, .int x_undos, .ref ax_order, .ref ax_dones, .int x_away, .int x_bestSet, .ref ax_aside, .ref ax_tapedWho, .ref ax_tapedTill, .int x_taped, .ref ax_kept, .int x_keeps])), (ax_row, .inl (cyI, 28, .inl x_row))] A) (([.ref ax, .int i1, .int i2] : List Value).toArray) s 0 0 A) (F0 m 0 ls []) from hgo _ _ hP hS
  clear hP hS
  intro H locs hP hS
  refine lv_aload_n hx hb dX7_there_0 rfl (lv_at hl 0 rfl) ?_
  refine lv_iload_n hx hb dX7_there_1 rfl (lv_at hl 1 rfl) ?_
  obtain ⟨r2, q2, hf⟩ := ob hf
  refine k_i (wc := [(ax, .inr (7, [.ref ax_row, .ref ax_text, .int x_letters, .int x_at, .ref ax_read, .ref ax_undone, .int x_undos, .ref ax_order, .ref ax_dones, .int x_away, .int x_bestSet, .ref ax_aside, .ref ax_tapedWho, .ref ax_tapedTill, .int x_taped, .ref ax_kept, .int x_keeps])), (ax_row, .inl (cyI, 28, .inl x_row))]) (wr := []) (w1 := [(ax, .inr (7, [.ref ax_row, .ref ax_text, .int x_letters, .int x_at, .ref ax_read, .ref ax_undone, .int x_undos, .ref ax_order, .ref ax_dones, .int x_away, .int x_bestSet, .ref ax_aside, .ref ax_tapedWho, .ref ax_tapedTill, .int x_taped, .ref ax_kept, .int x_keeps])), (ax_row, .inl (cyI, 28, .inl x_row))]) (wn := [(ax, .inr (7, [.ref ax_row, .ref ax_text, .int x_letters, .int x_at, .ref ax_read, .ref ax_undone, .int x_undos, .ref ax_order, .ref ax_dones, .int x_away, .int x_bestSet, .ref ax_aside, .ref ax_tapedWho, .ref ax_tapedTill, .int x_taped, .ref ax_kept, .int x_keeps])), (ax_row, .inl (cyI, 28, .inl x_row))]) (va_runV (As := [.int i1]) (rest := []) ⟨hx, hb, hml, hown, hts⟩ (c_X7_walk l D cyI cyC cyS H.size ax ax_row ax_text ax_read ax_undone ax_order ax_dones ax_aside ax_tapedWho ax_tapedTill ax_kept x_letters x_at x_undos x_away x_bestSet x_taped x_keeps x_row i1 q2) (cwV 1 hts gX7_there_X7_walk rfl rfl rfl (by decide +kernel) ⟨Nat.le_of_ble_eq_true rfl, Nat.le_of_ble_eq_true rfl⟩) (preV (ci := 7) hK (hP.subm (ws' := [(ax, .inr (7, [.ref ax_row, .ref ax_text, .int x_letters, .int x_at, .ref ax_read, .ref ax_undone, .int x_undos, .ref ax_order, .ref ax_dones, .int x_away, .int x_bestSet, .ref ax_aside, .ref ax_tapedWho, .ref ax_tapedTill, .int x_taped, .ref ax_kept, .int x_keeps])), (ax_row, .inl (cyI, 28, .inl x_row))]) [0, 1] rfl) (hD.sub (ws' := [(ax, .inr (7, [.ref ax_row, .ref ax_text, .int x_letters, .int x_at, .ref ax_read, .ref ax_undone, .int x_undos, .ref ax_order, .ref ax_dones, .int x_away, .int x_bestSet, .ref ax_aside, .ref ax_tapedWho, .ref ax_tapedTill, .int x_taped, .ref ax_kept, .int x_keeps])), (ax_row, .inl (cyI, 28, .inl x_row))]) [0, 1] (by decide) rfl) rfl rfl) rfl rfl hl.1 rfl (lv_room (Nat.le_of_ble_eq_true rfl)) dX7_there_2 ⟨Nat.le_of_ble_eq_true rfl, Nat.le_of_ble_eq_true rfl⟩) hP hD hS hA [0, 1] [] [0, 1] rfl rfl rfl (by decide) (by decide) (by decide) (fun H locs hP hD hS => ?_)
  refine lv_iload_n hx hb dX7_there_5 rfl (lv_at hl 2 rfl) ?_
  have hJ18 : ∀ (s0_18 : Int32) (H : Heap) (locs : List Loc) (ls : Array Slot), va_P D vwCl [(ax, .inr (7, [.ref ax_row, .ref ax_text, .int x_letters, .int x_at, .ref ax_read, .ref ax_undone, .int x_undos, .ref ax_order, .ref ax_dones, .int x_away, .int x_bestSet, .ref ax_aside, .ref ax_tapedWho, .ref ax_tapedTill, .int x_taped, .ref ax_kept, .int x_keeps])), (ax_row, .inl (cyI, 28, .inl x_row))] H → va_D A [(ax, .inr (7, [.ref ax_row, .ref ax_text, .int x_letters, .int x_at, .ref ax_read, .ref ax_undone, .int x_undos, .ref ax_order, .ref ax_dones, .int x_away, .int x_bestSet, .ref ax_aside, .ref ax_tapedWho, .ref ax_tapedTill, .int x_taped, .ref ax_kept, .int x_keeps])), (ax_row, .inl (cyI, 28, .inl x_row))] → va_S A s.heap H locs → lv_has ls 3 [(0, .ref ax), (1, .int i1)] → (Option.bind (S_X7_things i1 x_row) (fun r26 =>
some (s0_18 + ((x_row 2) * r26)))) = some r → W p l e rX7_there s m (([.ref ax, .int i1, .int i2] : List Value).toArray) below meth c H locs 0 0 (MQ below (CQi r D [(ax, .inr (7, [.ref ax_row, .ref ax_text, .int x_letters, .int x_at, .ref ax_read, .ref ax_undone, .int x_undos, .ref ax_order, .ref ax_dones, .int x_away, .int x_bestSet, .ref ax_aside, .ref ax_tapedWho, .ref ax_tapedTill, .int x_taped, .ref ax_kept, .int x_keeps])), (ax_row, .inl (cyI, 28, .inl x_row))] A) (([.ref ax, .int i1, .int i2] : List Value).toArray) s 0 0 A) (F0 m 18 ls [.int s0_18]) := by
    intro s0_18 H locs ls hP hD hS hl hf
    refine lv_aload_n hx hb dX7_there_18 rfl (lv_at hl 0 rfl) ?_
    refine va_get (C := RX7) (T := TX7) (N := 17) hx hb hts inX7 hown hK.1 hP 0 rfl rfl 0 (by decide) f7 (fun _ h9 => h9) rfl dX7_there_19 ?_
    refine lv_iconst (v := 2) hx hb dX7_there_22 (by decide) ?_
    refine a_ild hx hb hK hP 1 rfl (vin (by decide)) 2 (by decide) dX7_there_23 ?_
    refine lv_aload_n hx hb dX7_there_24 rfl (lv_at hl 0 rfl) ?_
    refine lv_iload_n hx hb dX7_there_25 rfl (lv_at hl 1 rfl) ?_
    obtain ⟨r26, q26, hf⟩ := ob hf
    refine k_i (wc := [(ax, .inr (7, [.ref ax_row, .ref ax_text, .int x_letters, .int x_at, .ref ax_read, .ref ax_undone, .int x_undos, .ref ax_order, .ref ax_dones, .int x_away, .int x_bestSet, .ref ax_aside, .ref ax_tapedWho, .ref ax_tapedTill, .int x_taped, .ref ax_kept, .int x_keeps])), (ax_row, .inl (cyI, 28, .inl x_row))]) (wr := []) (w1 := [(ax, .inr (7, [.ref ax_row, .ref ax_text, .int x_letters, .int x_at, .ref ax_read, .ref ax_undone, .int x_undos, .ref ax_order, .ref ax_dones, .int x_away, .int x_bestSet, .ref ax_aside, .ref ax_tapedWho, .ref ax_tapedTill, .int x_taped, .ref ax_kept, .int x_keeps])), (ax_row, .inl (cyI, 28, .inl x_row))]) (wn := [(ax, .inr (7, [.ref ax_row, .ref ax_text, .int x_letters, .int x_at, .ref ax_read, .ref ax_undone, .int x_undos, .ref ax_order, .ref ax_dones, .int x_away, .int x_bestSet, .ref ax_aside, .ref ax_tapedWho, .ref ax_tapedTill, .int x_taped, .ref ax_kept, .int x_keeps])), (ax_row, .inl (cyI, 28, .inl x_row))]) (va_runV (As := [.int i1]) (rest := [.int (x_row 2), .int s0_18]) ⟨hx, hb, hml, hown, hts⟩ (c_X7_things l D cyI cyC cyS H.size ax ax_row ax_text ax_read ax_undone ax_order ax_dones ax_aside ax_tapedWho ax_tapedTill ax_kept x_letters x_at x_undos x_away x_bestSet x_taped x_keeps x_row i1 q26) (cwV 1 hts gX7_there_X7_things rfl rfl rfl (by decide +kernel) ⟨Nat.le_of_ble_eq_true rfl, Nat.le_of_ble_eq_true rfl⟩) (preV (ci := 7) hK (hP.subm (ws' := [(ax, .inr (7, [.ref ax_row, .ref ax_text, .int x_letters, .int x_at, .ref ax_read, .ref ax_undone, .int x_undos, .ref ax_order, .ref ax_dones, .int x_away, .int x_bestSet, .ref ax_aside, .ref ax_tapedWho, .ref ax_tapedTill, .int x_taped, .ref ax_kept, .int x_keeps])), (ax_row, .inl (cyI, 28, .inl x_row))]) [0, 1] rfl) (hD.sub (ws' := [(ax, .inr (7, [.ref ax_row, .ref ax_text, .int x_letters, .int x_at, .ref ax_read, .ref ax_undone, .int x_undos, .ref ax_order, .ref ax_dones, .int x_away, .int x_bestSet, .ref ax_aside, .ref ax_tapedWho, .ref ax_tapedTill, .int x_taped, .ref ax_kept, .int x_keeps])), (ax_row, .inl (cyI, 28, .inl x_row))]) [0, 1] (by decide) rfl) rfl rfl) rfl rfl hl.1 rfl (lv_room (Nat.le_of_ble_eq_true rfl)) dX7_there_26 ⟨Nat.le_of_ble_eq_true rfl, Nat.le_of_ble_eq_true rfl⟩) hP hD hS hA [0, 1] [] [0, 1] rfl rfl rfl (by decide) (by decide) (by decide) (fun H locs hP hD hS => ?_)
    refine lv_imul hx hb dX7_there_29 ?_
    refine lv_iadd hx hb dX7_there_30 ?_
    obtain rfl := Option.some.inj hf
    exact W.iret hx hb hr (fun t ht hW => ⟨⟨_, (), rfl, rfl, by rw [ht]; exact hP, hD⟩, hS.F ht⟩) hS.2.2 dX7_there_31
  replace hf := jn_h hf
  refine lv_icmp_le (tgt := 17) hx hb dX7_there_6 (by decide) (fun c6 => ?_) (fun c6 => ?_)
  · replace hf := ip c6 hf
    refine lv_iload_n hx hb dX7_there_17 rfl (lv_at hl 2 rfl) ?_
    exact hJ18 i2 _ _ _ hP hD hS (lv_sub hl [0, 1] rfl) hf
  · replace hf := iq c6 hf
    refine lv_aload_n hx hb dX7_there_9 rfl (lv_at hl 0 rfl) ?_
    refine lv_iload_n hx hb dX7_there_10 rfl (lv_at hl 1 rfl) ?_
    obtain ⟨r11, q11, hf⟩ := ob hf
    refine k_i (wc := [(ax, .inr (7, [.ref ax_row, .ref ax_text, .int x_letters, .int x_at, .ref ax_read, .ref ax_undone, .int x_undos, .ref ax_order, .ref ax_dones, .int x_away, .int x_bestSet, .ref ax_aside, .ref ax_tapedWho, .ref ax_tapedTill, .int x_taped, .ref ax_kept, .int x_keeps])), (ax_row, .inl (cyI, 28, .inl x_row))]) (wr := []) (w1 := [(ax, .inr (7, [.ref ax_row, .ref ax_text, .int x_letters, .int x_at, .ref ax_read, .ref ax_undone, .int x_undos, .ref ax_order, .ref ax_dones, .int x_away, .int x_bestSet, .ref ax_aside, .ref ax_tapedWho, .ref ax_tapedTill, .int x_taped, .ref ax_kept, .int x_keeps])), (ax_row, .inl (cyI, 28, .inl x_row))]) (wn := [(ax, .inr (7, [.ref ax_row, .ref ax_text, .int x_letters, .int x_at, .ref ax_read, .ref ax_undone, .int x_undos, .ref ax_order, .ref ax_dones, .int x_away, .int x_bestSet, .ref ax_aside, .ref ax_tapedWho, .ref ax_tapedTill, .int x_taped, .ref ax_kept, .int x_keeps])), (ax_row, .inl (cyI, 28, .inl x_row))]) (va_runV (As := [.int i1]) (rest := []) ⟨hx, hb, hml, hown, hts⟩ (c_X7_walk l D cyI cyC cyS H.size ax ax_row ax_text ax_read ax_undone ax_order ax_dones ax_aside ax_tapedWho ax_tapedTill ax_kept x_letters x_at x_undos x_away x_bestSet x_taped x_keeps x_row i1 q11) (cwV 1 hts gX7_there_X7_walk rfl rfl rfl (by decide +kernel) ⟨Nat.le_of_ble_eq_true rfl, Nat.le_of_ble_eq_true rfl⟩) (preV (ci := 7) hK (hP.subm (ws' := [(ax, .inr (7, [.ref ax_row, .ref ax_text, .int x_letters, .int x_at, .ref ax_read, .ref ax_undone, .int x_undos, .ref ax_order, .ref ax_dones, .int x_away, .int x_bestSet, .ref ax_aside, .ref ax_tapedWho, .ref ax_tapedTill, .int x_taped, .ref ax_kept, .int x_keeps])), (ax_row, .inl (cyI, 28, .inl x_row))]) [0, 1] rfl) (hD.sub (ws' := [(ax, .inr (7, [.ref ax_row, .ref ax_text, .int x_letters, .int x_at, .ref ax_read, .ref ax_undone, .int x_undos, .ref ax_order, .ref ax_dones, .int x_away, .int x_bestSet, .ref ax_aside, .ref ax_tapedWho, .ref ax_tapedTill, .int x_taped, .ref ax_kept, .int x_keeps])), (ax_row, .inl (cyI, 28, .inl x_row))]) [0, 1] (by decide) rfl) rfl rfl) rfl rfl hl.1 rfl (lv_room (Nat.le_of_ble_eq_true rfl)) dX7_there_11 ⟨Nat.le_of_ble_eq_true rfl, Nat.le_of_ble_eq_true rfl⟩) hP hD hS hA [0, 1] [] [0, 1] rfl rfl rfl (by decide) (by decide) (by decide) (fun H locs hP hD hS => ?_)
    refine lv_goto (tgt := 18) hx hb dX7_there_14 (by decide) ?_
    exact hJ18 r11 _ _ _ hP hD hS (lv_sub hl [0, 1] rfl) hf
abbrev rX7_many : Room := { frames := 0, cells := 0, slots := 0, locals := 0 }
set_option maxHeartbeats 4000000 in
set_option maxRecDepth 100000 in
theorem c_X7_many (l : Launch) (D : va_G) (cyI cyC cyS : ClassId) (sz : Nat) (i0 : Int32) {r : Int32} (hf : S_X7_many i0 = some r) : Met l yX7_many wsX7_many rX7_many (Cpre [.int i0] D cyI cyC cyS sz []) (CQi r D [] (va_A [] sz)) 0 0 (va_A [] sz) := by
  refine Met.ofW (cc := cX7_many) (maxL := 3) (ret := (some .int)) (by decide) rfl ?_
  intro p e s m args below meth c s₁ B hml hv
  obtain ⟨rfl, hsz, hP, hK, hD0⟩ := hv
  have hx := B.exec
  have hb := B.bytes
  have hr := B.returns
  have hts := atoms_spec (ws := wsX7_many) B.pre
  have hown : s.vm.findClass RX7 = some m.cls := findClass_of_methodNamed B.named
  have hlocks := B.notSynchronized
  subst hsz
  have hD := hD0.self (sz := s.heap.size)
  generalize hAe : va_A [] s.heap.size = A at hD ⊢
  have hA : ∀ q : Nat, s.heap.size ≤ q → A q := fun q h => by rw [← hAe]; exact Or.inr h
  have hS : va_S A s.heap s.heap [] := va_S.rf
  have hl := lv_entry ([.int i0]) (n := 3) (Nat.le_of_ble_eq_true rfl)
  rw [lg_entry_eq]
  generalize (lg_sl ([.int i0]) ++ List.replicate (3 - (lg_sl ([.int i0])).length) Slot.unset).toArray = ls at hl ⊢
  have hl : lv_has ls 3 [(0, .int i0)] := hl
  unfold S_X7_many at hf
  have hP : va_P D vwCl [] s.heap := hP
  suffices hgo : ∀ (H : Heap) (locs : List Loc), va_P D vwCl [] H → va_S A s.heap H locs → W p l e rX7_many s m (([.int i0] : List Value).toArray) below meth c H locs 0 0 (MQ below (CQi r D [] A) (([.int i0] : List Value).toArray) s 0 0 A) (F0 m 0 ls []) from hgo _ _ hP hS
  clear hP hS
  intro H locs hP hS
  refine lv_iconst (v := 0) hx hb dX7_many_0 (by decide) ?_
  refine lv_istore_n (lv' := [(1, .int (0 : Int32)), (0, .int i0)]) hx hb dX7_many_1 rfl hl (by decide) rfl (fun ls hl => ?_)
  refine lv_iload_n hx hb dX7_many_2 rfl (lv_at hl 1 rfl) ?_
  refine lv_istore_n (lv' := [(2, .int i0), (1, .int (0 : Int32)), (0, .int i0)]) hx hb dX7_many_3 rfl hl (by decide) rfl (fun ls hl => ?_)
  have hL4 : ∀ (n4 : Nat) (i1 : Int32) (i2 : Int32) (H : Heap) (locs : List Loc) (ls : Array Slot), va_P D vwCl [] H → va_D A [] → va_S A s.heap H locs → lv_has ls 3 [(1, .int i1), (2, .int i2)] → S_X7_many_L4 n4 i1 i2 = some r → W p l e rX7_many s m (([.int i0] : List Value).toArray) below meth c H locs 0 0 (MQ below (CQi r D [] A) (([.int i0] : List Value).toArray) s 0 0 A) (F0 m 4 ls []) := by
    intro n4
    induction n4 with
    | zero => intro i1 i2 H locs ls hP hD hS hl hf; exact absurd hf (by simp [S_X7_many_L4])
    | succ n4 ih4 =>
      intro i1 i2 H locs ls hP hD hS hl hf
      rw [S_X7_many_L4] at hf
      refine lv_iload_n hx hb dX7_many_4 rfl (lv_at hl 1 rfl) ?_
      refine lv_if_eq (tgt := 20) hx hb dX7_many_5 (by decide) (fun c5 => ?_) (fun c5 => ?_)
      · replace hf := ip c5 hf
        refine lv_iload_n hx hb dX7_many_20 rfl (lv_at hl 0 rfl) ?_
        obtain rfl := Option.some.inj hf
        exact W.iret hx hb hr (fun t ht hW => ⟨⟨_, (), rfl, rfl, by rw [ht]; exact hP, hD⟩, hS.F ht⟩) hS.2.2 dX7_many_21
      · replace hf := iq c5 hf
        refine lv_iinc (v := i1 + (1 : Int32)) (lv' := [(1, .int (i1 + (1 : Int32))), (2, .int i2)]) hx hb dX7_many_8 hl (k := 0) rfl rfl (by decide) rfl (fun ls hl => ?_)
        refine lv_iload_n hx hb dX7_many_11 rfl (lv_at hl 1 rfl) ?_
        refine lv_iload_n hx hb dX7_many_12 rfl (lv_at hl 1 rfl) ?_
        refine lv_iconst (v := 1) hx hb dX7_many_13 (by decide) ?_
        refine lv_isub hx hb dX7_many_14 ?_
        refine lv_iand hx hb dX7_many_15 ?_
        refine lv_istore_n (lv' := [(2, .int (i2 &&& (i2 - (1 : Int32)))), (1, .int (i1 + (1 : Int32)))]) hx hb dX7_many_16 rfl hl (by decide) rfl (fun ls hl => ?_)
        refine lv_goto (tgt := 4) hx hb dX7_many_17 (by decide) ?_
        exact ih4 (i1 + (1 : Int32)) (i2 &&& (i2 - (1 : Int32))) _ _ _ hP hD hS (lv_sub hl [1, 0] rfl) hf
  exact hL4 300 (0 : Int32) i0 _ _ _ hP hD hS (lv_sub hl [1, 0] rfl) hf
abbrev rX7_rests : Room := { frames := 2, cells := 0, slots := 0, locals := 45 }
set_option maxHeartbeats 4000000 in
set_option maxRecDepth 100000 in
theorem c_X7_rests (l : Launch) (D : va_G) (cyI cyC cyS : ClassId) (sz : Nat) (ax : Nat) (ax_row : Nat) (ax_text : Nat) (ax_read : Nat) (ax_undone : Nat) (ax_order : Nat) (ax_dones : Nat) (ax_aside : Nat) (ax_tapedWho : Nat) (ax_tapedTill : Nat) (ax_kept : Nat) (x_letters : Int32) (x_at : Int32) (x_undos : Int32) (x_away : Int32) (x_bestSet : Int32) (x_taped : Int32) (x_keeps : Int32) (x_row : Nat → Int32) (x_dones : Nat → Int32) {o_x_dones : Nat → Int32} (hf : S_X7_rests x_away x_row x_dones = some o_x_dones) : Met l yX7_rests wsX7_rests rX7_rests (Cpre [.ref ax] D cyI cyC cyS sz [(ax, .inr (7, [.ref ax_row, .ref ax_text, .int x_letters, .int x_at, .ref ax_read, .ref ax_undone, .int x_undos, .ref ax_order, .ref ax_dones, .int x_away, .int x_bestSet, .ref ax_aside, .ref ax_tapedWho, .ref ax_tapedTill, .int x_taped, .ref ax_kept, .int x_keeps])), (ax_row, .inl (cyI, 28, .inl x_row)), (ax_dones, .inl (cyI, 8, .inl x_dones))]) (CQv D [(ax, .inr (7, [.ref ax_row, .ref ax_text, .int x_letters, .int x_at, .ref ax_read, .ref ax_undone, .int x_undos, .ref ax_order, .ref ax_dones, .int x_away, .int x_bestSet, .ref ax_aside, .ref ax_tapedWho, .ref ax_tapedTill, .int x_taped, .ref ax_kept, .int x_keeps])), (ax_row, .inl (cyI, 28, .inl x_row)), (ax_dones, .inl (cyI, 8, .inl o_x_dones))] (va_A [(ax, .inr (7, [.ref ax_row, .ref ax_text, .int x_letters, .int x_at, .ref ax_read, .ref ax_undone, .int x_undos, .ref ax_order, .ref ax_dones, .int x_away, .int x_bestSet, .ref ax_aside, .ref ax_tapedWho, .ref ax_tapedTill, .int x_taped, .ref ax_kept, .int x_keeps])), (ax_row, .inl (cyI, 28, .inl x_row)), (ax_dones, .inl (cyI, 8, .inl x_dones))] sz)) 0 0 (va_A [(ax, .inr (7, [.ref ax_row, .ref ax_text, .int x_letters, .int x_at, .ref ax_read, .ref ax_undone, .int x_undos, .ref ax_order, .ref ax_dones, .int x_away, .int x_bestSet, .ref ax_aside, .ref ax_tapedWho, .ref ax_tapedTill, .int x_taped, .ref ax_kept, .int x_keeps])), (ax_row, .inl (cyI, 28, .inl x_row)), (ax_dones, .inl (cyI, 8, .inl x_dones))] sz) := by
  refine Met.ofW (cc := cX7_rests) (maxL := 2) (ret := none) (by decide) rfl ?_
  intro p e s m args below meth c s₁ B hml hv
  obtain ⟨rfl, hsz, hP, hK, hD0⟩ := hv
  have hx := B.exec
  have hb := B.bytes
  have hr := B.returns
  have hts := atoms_spec (ws := wsX7_rests) B.pre
  have hown : s.vm.findClass RX7 = some m.cls := findClass_of_methodNamed B.named
  have hlocks := B.notSynchronized
  subst hsz
  have hD := hD0.self (sz := s.heap.size)
  generalize hAe : va_A [(ax, .inr (7, [.ref ax_row, .ref ax_text, .int x_letters, .int x_at, .ref ax_read, .ref ax_undone, .int x_undos, .ref ax_order, .ref ax_dones, .int x_away, .int x_bestSet, .ref ax_aside, .ref ax_tapedWho, .ref ax_tapedTill, .int x_taped, .ref ax_kept, .int x_keeps])), (ax_row, .inl (cyI, 28, .inl x_row)), (ax_dones, .inl (cyI, 8, .inl x_dones))] s.heap.size = A at hD ⊢
  have hA : ∀ q : Nat, s.heap.size ≤ q → A q := fun q h => by rw [← hAe]; exact Or.inr h
  have hS : va_S A s.heap s.heap [] := va_S.rf
  have hl := lv_entry ([.ref ax]) (n := 2) (Nat.le_of_ble_eq_true rfl)
  rw [lg_entry_eq]
  generalize (lg_sl ([.ref ax]) ++ List.replicate (2 - (lg_sl ([.ref ax])).length) Slot.unset).toArray = ls at hl ⊢
  have hl : lv_has ls 2 [(0, .ref ax)] := hl
  have f7 := hts (.fieldLink RX7 7 "SecondTillModel" "row" "[I") (by decide +kernel)
  have inX7 : ∀ w ∈ u_ws RX7 TX7 17, w ∈ wsX7_rests := by decide +kernel
  have f25 := hts (.fieldLink RX7 25 "SecondTillModel" "dones" "[I") (by decide +kernel)
  have f119 := hts (.fieldLink RX7 119 "SecondTillModel" "away" "I") (by decide +kernel)
  unfold S_X7_rests at hf
  have hP : va_P D vwCl [(ax, .inr (7, [.ref ax_row, .ref ax_text, .int x_letters, .int x_at, .ref ax_read, .ref ax_undone, .int x_undos, .ref ax_order, .ref ax_dones, .int x_away, .int x_bestSet, .ref ax_aside, .ref ax_tapedWho, .ref ax_tapedTill, .int x_taped, .ref ax_kept, .int x_keeps])), (ax_row, .inl (cyI, 28, .inl x_row)), (ax_dones, .inl (cyI, 8, .inl x_dones))] s.heap := hP
  suffices hgo : ∀ (H : Heap) (locs : List Loc), va_P D vwCl [(ax, .inr (7, [.ref ax_row, .ref ax_text, .int x_letters, .int x_at, .ref ax_read, .ref ax_undone, .int x_undos, .ref ax_order, .ref ax_dones, .int x_away, .int x_bestSet, .ref ax_aside, .ref ax_tapedWho, .ref ax_tapedTill, .int x_taped, .ref ax_kept, .int x_keeps])), (ax_row, .inl (cyI, 28, .inl x_row)), (ax_dones, .inl (cyI, 8, .inl x_dones))] H → va_S A s.heap H locs → W p l e rX7_rests s m (([.ref ax] : List Value).toArray) below meth c H locs 0 0 (MQ below (CQv D [(ax, .inr (7, [.ref ax_row, .ref ax_text, .int x_letters, .int x_at, .ref ax_read, .ref ax_undone, .int x_undos, .ref ax_order, .ref ax_dones, .int x_away, .int x_bestSet, .ref ax_aside, .ref ax_tapedWho, .ref ax_tapedTill, .int x_taped, .ref ax_kept, .int x_keeps])), (ax_row, .inl (cyI, 28, .inl x_row)), (ax_dones, .inl (cyI, 8, .inl o_x_dones))] A) (([.ref ax] : List Value).toArray) s 0 0 A) (F0 m 0 ls []) from hgo _ _ hP hS
  clear hP hS
  intro H locs hP hS
  refine lv_iconst (v := 0) hx hb dX7_rests_0 (by decide) ?_
  refine lv_istore_n (lv' := [(1, .int (0 : Int32)), (0, .ref ax)]) hx hb dX7_rests_1 rfl hl (by decide) rfl (fun ls hl => ?_)
  have hL2 : ∀ (n2 : Nat) (i1 : Int32) (x_dones : Nat → Int32) (H : Heap) (locs : List Loc) (ls : Array Slot), va_P D vwCl [(ax, .inr (7, [.ref ax_row, .ref ax_text, .int x_letters, .int x_at, .ref ax_read, .ref ax_undone, .int x_undos, .ref ax_order, .ref ax_dones, .int x_away, .int x_bestSet, .ref ax_aside, .ref ax_tapedWho, .ref ax_tapedTill, .int x_taped, .ref ax_kept, .int x_keeps])), (ax_row, .inl (cyI, 28, .inl x_row)), (ax_dones, .inl (cyI, 8, .inl x_dones))] H → va_D A [(ax, .inr (7, [.ref ax_row, .ref ax_text, .int x_letters, .int x_at, .ref ax_read, .ref ax_undone, .int x_undos, .ref ax_order, .ref ax_dones, .int x_away, .int x_bestSet, .ref ax_aside, .ref ax_tapedWho, .ref ax_tapedTill, .int x_taped, .ref ax_kept, .int x_keeps])), (ax_row, .inl (cyI, 28, .inl x_row)), (ax_dones, .inl (cyI, 8, .inl x_dones))] → va_S A s.heap H locs → lv_has ls 2 [(0, .ref ax), (1, .int i1)] → S_X7_rests_L2 x_away x_row n2 i1 x_dones = some o_x_dones → W p l e rX7_rests s m (([.ref ax] : List Value).toArray) below meth c H locs 0 0 (MQ below (CQv D [(ax, .inr (7, [.ref ax_row, .ref ax_text, .int x_letters, .int x_at, .ref ax_read, .ref ax_undone, .int x_undos, .ref ax_order, .ref ax_dones, .int x_away, .int x_bestSet, .ref ax_aside, .ref ax_tapedWho, .ref ax_tapedTill, .int x_taped, .ref ax_kept, .int x_keeps])), (ax_row, .inl (cyI, 28, .inl x_row)), (ax_dones, .inl (cyI, 8, .inl o_x_dones))] A) (([.ref ax] : List Value).toArray) s 0 0 A) (F0 m 2 ls []) := by
    intro n2
    induction n2 with
    | zero => intro i1 x_dones H locs ls hP hD hS hl hf; exact absurd hf (by simp [S_X7_rests_L2])
    | succ n2 ih2 =>
      intro i1 x_dones H locs ls hP hD hS hl hf
      rw [S_X7_rests_L2] at hf
      refine lv_iload_n hx hb dX7_rests_2 rfl (lv_at hl 1 rfl) ?_
      refine lv_aload_n hx hb dX7_rests_3 rfl (lv_at hl 0 rfl) ?_
      refine va_get (C := RX7) (T := TX7) (N := 17) hx hb hts inX7 hown hK.1 hP 0 rfl rfl 0 (by decide) f7 (fun _ h9 => h9) rfl dX7_rests_4 ?_
      refine lv_iconst (v := 0) hx hb dX7_rests_7 (by decide) ?_
      refine a_ild hx hb hK hP 1 rfl (vin (by decide)) 0 (by decide) dX7_rests_8 ?_
      refine lv_icmp_ge (tgt := 54) hx hb dX7_rests_9 (by decide) (fun c9 => ?_) (fun c9 => ?_)
      · replace hf := ip c9 hf
        obtain rfl := Option.some.inj hf
        exact W.vret hx hb hr (fun t ht hW => ⟨⟨(), rfl, trivial, by rw [ht]; exact hP, hD⟩, hS.F ht⟩) hS.2.2 dX7_rests_54
      · replace hf := iq c9 hf
        refine lv_aload_n hx hb dX7_rests_12 rfl (lv_at hl 0 rfl) ?_
        refine va_get (C := RX7) (T := TX7) (N := 17) hx hb hts inX7 hown hK.1 hP 0 rfl rfl 8 (by decide) f25 (fun _ h9 => h9) rfl dX7_rests_13 ?_
        refine lv_iload_n hx hb dX7_rests_16 rfl (lv_at hl 1 rfl) ?_
        refine lv_aload_n hx hb dX7_rests_17 rfl (lv_at hl 0 rfl) ?_
        refine va_get (C := RX7) (T := TX7) (N := 17) hx hb hts inX7 hown hK.1 hP 0 rfl rfl 9 (by decide) f119 (fun _ h9 => h9) rfl dX7_rests_18 ?_
        refine lv_iload_n hx hb dX7_rests_21 rfl (lv_at hl 1 rfl) ?_
        refine lv_ishr hx hb dX7_rests_22 ?_
        refine lv_iconst (v := 1) hx hb dX7_rests_23 (by decide) ?_
        refine lv_iand hx hb dX7_rests_24 ?_
        refine lv_iconst (v := 1) hx hb dX7_rests_25 (by decide) ?_
        have hJ47 : ∀ (s0_47 : Int32) (H : Heap) (locs : List Loc) (ls : Array Slot), va_P D vwCl [(ax, .inr (7, [.ref ax_row, .ref ax_text, .int x_letters, .int x_at, .ref ax_read, .ref ax_undone, .int x_undos, .ref ax_order, .ref ax_dones, .int x_away, .int x_bestSet, .ref ax_aside, .ref ax_tapedWho, .ref ax_tapedTill, .int x_taped, .ref ax_kept, .int x_keeps])), (ax_row, .inl (cyI, 28, .inl x_row)), (ax_dones, .inl (cyI, 8, .inl x_dones))] H → va_D A [(ax, .inr (7, [.ref ax_row, .ref ax_text, .int x_letters, .int x_at, .ref ax_read, .ref ax_undone, .int x_undos, .ref ax_order, .ref ax_dones, .int x_away, .int x_bestSet, .ref ax_aside, .ref ax_tapedWho, .ref ax_tapedTill, .int x_taped, .ref ax_kept, .int x_keeps])), (ax_row, .inl (cyI, 28, .inl x_row)), (ax_dones, .inl (cyI, 8, .inl x_dones))] → va_S A s.heap H locs → lv_has ls 2 [(0, .ref ax), (1, .int i1)] → (if i1 < 0 ∨ 8 ≤ i1.toNatClampNeg then none else
((S_X7_rests_L2 x_away x_row n2) (i1 + (1 : Int32)) (upd x_dones i1.toNatClampNeg s0_47))) = some o_x_dones → W p l e rX7_rests s m (([.ref ax] : List Value).toArray) below meth c H locs 0 0 (MQ below (CQv D [(ax, .inr (7, [.ref ax_row, .ref ax_text, .int x_letters, .int x_at, .ref ax_read, .ref ax_undone, .int x_undos, .ref ax_order, .ref ax_dones, .int x_away, .int x_bestSet, .ref ax_aside, .ref ax_tapedWho, .ref ax_tapedTill, .int x_taped, .ref ax_kept, .int x_keeps])), (ax_row, .inl (cyI, 28, .inl x_row)), (ax_dones, .inl (cyI, 8, .inl o_x_dones))] A) (([.ref ax] : List Value).toArray) s 0 0 A) (F0 m 47 ls [.int s0_47, .int i1, .ref ax_dones]) := by
          intro s0_47 H locs ls hP hD hS hl hf
          obtain ⟨z47, hf⟩ := oi hf
          refine a_ist (wn := [(ax, .inr (7, [.ref ax_row, .ref ax_text, .int x_letters, .int x_at, .ref ax_read, .ref ax_undone, .int x_undos, .ref ax_order, .ref ax_dones, .int x_away, .int x_bestSet, .ref ax_aside, .ref ax_tapedWho, .ref ax_tapedTill, .int x_taped, .ref ax_kept, .int x_keeps])), (ax_row, .inl (cyI, 28, .inl x_row)), (ax_dones, .inl (cyI, 8, .inl (upd x_dones i1.toNatClampNeg s0_47)))]) hx hb hK hP hD hS 2 rfl z47 i1.toNatClampNeg rfl rfl dX7_rests_47 (fun H locs hP hD hS => ?_)
          refine lv_iinc (v := i1 + (1 : Int32)) (lv' := [(1, .int (i1 + (1 : Int32))), (0, .ref ax)]) hx hb dX7_rests_48 hl (k := 1) rfl rfl (by decide) rfl (fun ls hl => ?_)
          refine lv_goto (tgt := 2) hx hb dX7_rests_51 (by decide) ?_
          exact ih2 (i1 + (1 : Int32)) (upd x_dones i1.toNatClampNeg s0_47) _ _ _ hP hD hS (lv_sub hl [1, 0] rfl) hf
        replace hf := jn_h hf
        refine lv_icmp_ne (tgt := 38) hx hb dX7_rests_26 (by decide) (fun c26 => ?_) (fun c26 => ?_)
        · replace hf := iq c26 hf
          refine lv_aload_n hx hb dX7_rests_38 rfl (lv_at hl 0 rfl) ?_
          refine lv_iload_n hx hb dX7_rests_39 rfl (lv_at hl 1 rfl) ?_
          refine lv_aload_n hx hb dX7_rests_40 rfl (lv_at hl 0 rfl) ?_
          refine va_get (C := RX7) (T := TX7) (N := 17) hx hb hts inX7 hown hK.1 hP 0 rfl rfl 9 (by decide) f119 (fun _ h9 => h9) rfl dX7_rests_41 ?_
          obtain ⟨r44, q44, hf⟩ := ob hf
          refine k_i (wc := [(ax, .inr (7, [.ref ax_row, .ref ax_text, .int x_letters, .int x_at, .ref ax_read, .ref ax_undone, .int x_undos, .ref ax_order, .ref ax_dones, .int x_away, .int x_bestSet, .ref ax_aside, .ref ax_tapedWho, .ref ax_tapedTill, .int x_taped, .ref ax_kept, .int x_keeps])), (ax_row, .inl (cyI, 28, .inl x_row))]) (wr := [(ax_dones, .inl (cyI, 8, .inl x_dones))]) (w1 := [(ax, .inr (7, [.ref ax_row, .ref ax_text, .int x_letters, .int x_at, .ref ax_read, .ref ax_undone, .int x_undos, .ref ax_order, .ref ax_dones, .int x_away, .int x_bestSet, .ref ax_aside, .ref ax_tapedWho, .ref ax_tapedTill, .int x_taped, .ref ax_kept, .int x_keeps])), (ax_row, .inl (cyI, 28, .inl x_row))]) (wn := [(ax, .inr (7, [.ref ax_row, .ref ax_text, .int x_letters, .int x_at, .ref ax_read, .ref ax_undone, .int x_undos, .ref ax_order, .ref ax_dones, .int x_away, .int x_bestSet, .ref ax_aside, .ref ax_tapedWho, .ref ax_tapedTill, .int x_taped, .ref ax_kept, .int x_keeps])), (ax_row, .inl (cyI, 28, .inl x_row)), (ax_dones, .inl (cyI, 8, .inl x_dones))]) (va_runV (As := [.int i1, .int x_away]) (rest := [.int i1, .ref ax_dones]) ⟨hx, hb, hml, hown, hts⟩ (c_X7_inRow l D cyI cyC cyS H.size ax ax_row ax_text ax_read ax_undone ax_order ax_dones ax_aside ax_tapedWho ax_tapedTill ax_kept x_letters x_at x_undos x_away x_bestSet x_taped x_keeps x_row i1 x_away q44) (cwV 2 hts gX7_rests_X7_inRow rfl rfl rfl (by decide +kernel) ⟨Nat.le_of_ble_eq_true rfl, Nat.le_of_ble_eq_true rfl⟩) (preV (ci := 7) hK (hP.subm (ws' := [(ax, .inr (7, [.ref ax_row, .ref ax_text, .int x_letters, .int x_at, .ref ax_read, .ref ax_undone, .int x_undos, .ref ax_order, .ref ax_dones, .int x_away, .int x_bestSet, .ref ax_aside, .ref ax_tapedWho, .ref ax_tapedTill, .int x_taped, .ref ax_kept, .int x_keeps])), (ax_row, .inl (cyI, 28, .inl x_row))]) [0, 1] rfl) (hD.sub (ws' := [(ax, .inr (7, [.ref ax_row, .ref ax_text, .int x_letters, .int x_at, .ref ax_read, .ref ax_undone, .int x_undos, .ref ax_order, .ref ax_dones, .int x_away, .int x_bestSet, .ref ax_aside, .ref ax_tapedWho, .ref ax_tapedTill, .int x_taped, .ref ax_kept, .int x_keeps])), (ax_row, .inl (cyI, 28, .inl x_row))]) [0, 1] (by decide) rfl) rfl rfl) rfl rfl hl.1 rfl (lv_room (Nat.le_of_ble_eq_true rfl)) dX7_rests_44 ⟨Nat.le_of_ble_eq_true rfl, Nat.le_of_ble_eq_true rfl⟩) hP hD hS hA [0, 1] [2] [1, 2, 0] rfl rfl rfl (by decide) (by decide) (by decide) (fun H locs hP hD hS => ?_)
          exact hJ47 r44 _ _ _ hP hD hS (lv_sub hl [0, 1] rfl) hf
        · replace hf := ip c26 hf
          refine lv_aload_n hx hb dX7_rests_29 rfl (lv_at hl 0 rfl) ?_
          refine va_get (C := RX7) (T := TX7) (N := 17) hx hb hts inX7 hown hK.1 hP 0 rfl rfl 8 (by decide) f25 (fun _ h9 => h9) rfl dX7_rests_30 ?_
          refine lv_iload_n hx hb dX7_rests_33 rfl (lv_at hl 1 rfl) ?_
          obtain ⟨z34, hf⟩ := oi hf
          refine a_ild hx hb hK hP 2 rfl z34 i1.toNatClampNeg rfl dX7_rests_34 ?_
          refine lv_goto (tgt := 47) hx hb dX7_rests_35 (by decide) ?_
          exact hJ47 (x_dones i1.toNatClampNeg) _ _ _ hP hD hS (lv_sub hl [0, 1] rfl) hf
  exact hL2 300 (0 : Int32) x_dones _ _ _ hP hD hS (lv_sub hl [1, 0] rfl) hf
abbrev rX7_opens : Room := { frames := 3, cells := 0, slots := 0, locals := 66 }
set_option maxHeartbeats 4000000 in
set_option maxRecDepth 100000 in
theorem c_X7_opens (l : Launch) (D : va_G) (cyI cyC cyS : ClassId) (sz : Nat) (ax : Nat) (ax_row : Nat) (ax_text : Nat) (ax_read : Nat) (ax_undone : Nat) (ax_order : Nat) (ax_dones : Nat) (ax_aside : Nat) (ax_tapedWho : Nat) (ax_tapedTill : Nat) (ax_kept : Nat) (x_letters : Int32) (x_at : Int32) (x_undos : Int32) (x_away : Int32) (x_bestSet : Int32) (x_taped : Int32) (x_keeps : Int32) (x_row : Nat → Int32) (x_order : Nat → Int32) (x_dones : Nat → Int32) {o_x_away : Int32} {o_x_order : Nat → Int32} {o_x_dones : Nat → Int32} (hf : S_X7_opens x_row x_order x_dones = some (o_x_away, o_x_order, o_x_dones)) : Met l yX7_opens wsX7_opens rX7_opens (Cpre [.ref ax] D cyI cyC cyS sz [(ax, .inr (7, [.ref ax_row, .ref ax_text, .int x_letters, .int x_at, .ref ax_read, .ref ax_undone, .int x_undos, .ref ax_order, .ref ax_dones, .int x_away, .int x_bestSet, .ref ax_aside, .ref ax_tapedWho, .ref ax_tapedTill, .int x_taped, .ref ax_kept, .int x_keeps])), (ax_row, .inl (cyI, 28, .inl x_row)), (ax_order, .inl (cyI, 8, .inl x_order)), (ax_dones, .inl (cyI, 8, .inl x_dones))]) (CQv D [(ax, .inr (7, [.ref ax_row, .ref ax_text, .int x_letters, .int x_at, .ref ax_read, .ref ax_undone, .int x_undos, .ref ax_order, .ref ax_dones, .int o_x_away, .int x_bestSet, .ref ax_aside, .ref ax_tapedWho, .ref ax_tapedTill, .int x_taped, .ref ax_kept, .int x_keeps])), (ax_row, .inl (cyI, 28, .inl x_row)), (ax_order, .inl (cyI, 8, .inl o_x_order)), (ax_dones, .inl (cyI, 8, .inl o_x_dones))] (va_A [(ax, .inr (7, [.ref ax_row, .ref ax_text, .int x_letters, .int x_at, .ref ax_read, .ref ax_undone, .int x_undos, .ref ax_order, .ref ax_dones, .int x_away, .int x_bestSet, .ref ax_aside, .ref ax_tapedWho, .ref ax_tapedTill, .int x_taped, .ref ax_kept, .int x_keeps])), (ax_row, .inl (cyI, 28, .inl x_row)), (ax_order, .inl (cyI, 8, .inl x_order)), (ax_dones, .inl (cyI, 8, .inl x_dones))] sz)) 0 0 (va_A [(ax, .inr (7, [.ref ax_row, .ref ax_text, .int x_letters, .int x_at, .ref ax_read, .ref ax_undone, .int x_undos, .ref ax_order, .ref ax_dones, .int x_away, .int x_bestSet, .ref ax_aside, .ref ax_tapedWho, .ref ax_tapedTill, .int x_taped, .ref ax_kept, .int x_keeps])), (ax_row, .inl (cyI, 28, .inl x_row)), (ax_order, .inl (cyI, 8, .inl x_order)), (ax_dones, .inl (cyI, 8, .inl x_dones))] sz) := by
  refine Met.ofW (cc := cX7_opens) (maxL := 6) (ret := none) (by decide) rfl ?_
  intro p e s m args below meth c s₁ B hml hv
  obtain ⟨rfl, hsz, hP, hK, hD0⟩ := hv
  have hx := B.exec
  have hb := B.bytes
  have hr := B.returns
  have hts := atoms_spec (ws := wsX7_opens) B.pre
  have hown : s.vm.findClass RX7 = some m.cls := findClass_of_methodNamed B.named
  have hlocks := B.notSynchronized
  subst hsz
  have hD := hD0.self (sz := s.heap.size)
  generalize hAe : va_A [(ax, .inr (7, [.ref ax_row, .ref ax_text, .int x_letters, .int x_at, .ref ax_read, .ref ax_undone, .int x_undos, .ref ax_order, .ref ax_dones, .int x_away, .int x_bestSet, .ref ax_aside, .ref ax_tapedWho, .ref ax_tapedTill, .int x_taped, .ref ax_kept, .int x_keeps])), (ax_row, .inl (cyI, 28, .inl x_row)), (ax_order, .inl (cyI, 8, .inl x_order)), (ax_dones, .inl (cyI, 8, .inl x_dones))] s.heap.size = A at hD ⊢
  have hA : ∀ q : Nat, s.heap.size ≤ q → A q := fun q h => by rw [← hAe]; exact Or.inr h
  have hS : va_S A s.heap s.heap [] := va_S.rf
  have hl := lv_entry ([.ref ax]) (n := 6) (Nat.le_of_ble_eq_true rfl)
  rw [lg_entry_eq]
  generalize (lg_sl ([.ref ax]) ++ List.replicate (6 - (lg_sl ([.ref ax])).length) Slot.unset).toArray = ls at hl ⊢
  have hl : lv_has ls 6 [(0, .ref ax)] := hl
  have f119 := hts (.fieldLink RX7 119 "SecondTillModel" "away" "I") (by decide +kernel)
  have inX7 : ∀ w ∈ u_ws RX7 TX7 17, w ∈ wsX7_opens := by decide +kernel
  have f7 := hts (.fieldLink RX7 7 "SecondTillModel" "row" "[I") (by decide +kernel)
  have f25 := hts (.fieldLink RX7 25 "SecondTillModel" "dones" "[I") (by decide +kernel)
  have f22 := hts (.fieldLink RX7 22 "SecondTillModel" "order" "[I") (by decide +kernel)
  unfold S_X7_opens at hf
  have hP : va_P D vwCl [(ax, .inr (7, [.ref ax_row, .ref ax_text, .int x_letters, .int x_at, .ref ax_read, .ref ax_undone, .int x_undos, .ref ax_order, .ref ax_dones, .int x_away, .int x_bestSet, .ref ax_aside, .ref ax_tapedWho, .ref ax_tapedTill, .int x_taped, .ref ax_kept, .int x_keeps])), (ax_row, .inl (cyI, 28, .inl x_row)), (ax_order, .inl (cyI, 8, .inl x_order)), (ax_dones, .inl (cyI, 8, .inl x_dones))] s.heap := hP
  suffices hgo : ∀ (H : Heap) (locs : List Loc), va_P D vwCl [(ax, .inr (7, [.ref ax_row, .ref ax_text, .int x_letters, .int x_at, .ref ax_read, .ref ax_undone, .int x_undos, .ref ax_order, .ref ax_dones, .int x_away, .int x_bestSet, .ref ax_aside, .ref ax_tapedWho, .ref ax_tapedTill, .int x_taped, .ref ax_kept, .int x_keeps])), (ax_row, .inl (cyI, 28, .inl x_row)), (ax_order, .inl (cyI, 8, .inl x_order)), (ax_dones, .inl (cyI, 8, .inl x_dones))] H → va_S A s.heap H locs → W p l e rX7_opens s m (([.ref ax] : List Value).toArray) below meth c H locs 0 0 (MQ below (CQv D [(ax, .inr (7, [.ref ax_row, .ref ax_text, .int x_letters, .int x_at, .ref ax_read, .ref ax_undone, .int x_undos, .ref ax_order, .ref ax_dones, .int o_x_away, .int x_bestSet, .ref ax_aside, .ref ax_tapedWho, .ref ax_tapedTill, .int x_taped, .ref ax_kept, .int x_keeps])), (ax_row, .inl (cyI, 28, .inl x_row)), (ax_order, .inl (cyI, 8, .inl o_x_order)), (ax_dones, .inl (cyI, 8, .inl o_x_dones))] A) (([.ref ax] : List Value).toArray) s 0 0 A) (F0 m 0 ls []) from hgo _ _ hP hS
  clear hP hS
  intro H locs hP hS
  refine lv_aload_n hx hb dX7_opens_0 rfl (lv_at hl 0 rfl) ?_
  obtain ⟨x_order_o1, q1, hf⟩ := ob hf
  refine k_v (wc := [(ax, .inr (7, [.ref ax_row, .ref ax_text, .int x_letters, .int x_at, .ref ax_read, .ref ax_undone, .int x_undos, .ref ax_order, .ref ax_dones, .int x_away, .int x_bestSet, .ref ax_aside, .ref ax_tapedWho, .ref ax_tapedTill, .int x_taped, .ref ax_kept, .int x_keeps])), (ax_row, .inl (cyI, 28, .inl x_row)), (ax_order, .inl (cyI, 8, .inl x_order))]) (wr := [(ax_dones, .inl (cyI, 8, .inl x_dones))]) (w1 := [(ax, .inr (7, [.ref ax_row, .ref ax_text, .int x_letters, .int x_at, .ref ax_read, .ref ax_undone, .int x_undos, .ref ax_order, .ref ax_dones, .int x_away, .int x_bestSet, .ref ax_aside, .ref ax_tapedWho, .ref ax_tapedTill, .int x_taped, .ref ax_kept, .int x_keeps])), (ax_row, .inl (cyI, 28, .inl x_row)), (ax_order, .inl (cyI, 8, .inl x_order_o1))]) (wn := [(ax, .inr (7, [.ref ax_row, .ref ax_text, .int x_letters, .int x_at, .ref ax_read, .ref ax_undone, .int x_undos, .ref ax_order, .ref ax_dones, .int x_away, .int x_bestSet, .ref ax_aside, .ref ax_tapedWho, .ref ax_tapedTill, .int x_taped, .ref ax_kept, .int x_keeps])), (ax_row, .inl (cyI, 28, .inl x_row)), (ax_order, .inl (cyI, 8, .inl x_order_o1)), (ax_dones, .inl (cyI, 8, .inl x_dones))]) (va_runV (As := []) (rest := []) ⟨hx, hb, hml, hown, hts⟩ (c_X7_orders l D cyI cyC cyS H.size ax ax_row ax_text ax_read ax_undone ax_order ax_dones ax_aside ax_tapedWho ax_tapedTill ax_kept x_letters x_at x_undos x_away x_bestSet x_taped x_keeps x_row x_order q1) (cwV 0 hts gX7_opens_X7_orders rfl rfl rfl (by decide +kernel) ⟨Nat.le_of_ble_eq_true rfl, Nat.le_of_ble_eq_true rfl⟩) (preV (ci := 7) hK (hP.subm (ws' := [(ax, .inr (7, [.ref ax_row, .ref ax_text, .int x_letters, .int x_at, .ref ax_read, .ref ax_undone, .int x_undos, .ref ax_order, .ref ax_dones, .int x_away, .int x_bestSet, .ref ax_aside, .ref ax_tapedWho, .ref ax_tapedTill, .int x_taped, .ref ax_kept, .int x_keeps])), (ax_row, .inl (cyI, 28, .inl x_row)), (ax_order, .inl (cyI, 8, .inl x_order))]) [0, 1, 2] rfl) (hD.sub (ws' := [(ax, .inr (7, [.ref ax_row, .ref ax_text, .int x_letters, .int x_at, .ref ax_read, .ref ax_undone, .int x_undos, .ref ax_order, .ref ax_dones, .int x_away, .int x_bestSet, .ref ax_aside, .ref ax_tapedWho, .ref ax_tapedTill, .int x_taped, .ref ax_kept, .int x_keeps])), (ax_row, .inl (cyI, 28, .inl x_row)), (ax_order, .inl (cyI, 8, .inl x_order))]) [0, 1, 2] (by decide) rfl) rfl rfl) rfl rfl hl.1 rfl (lv_room (Nat.le_of_ble_eq_true rfl)) dX7_opens_1 ⟨Nat.le_of_ble_eq_true rfl, Nat.le_of_ble_eq_true rfl⟩) hP hD hS hA [0, 1, 2] [3] [1, 2, 3, 0] rfl rfl rfl (by decide) (by decide) (by decide) (fun H locs hP hD hS => ?_)
  refine lv_aload_n hx hb dX7_opens_4 rfl (lv_at hl 0 rfl) ?_
  refine lv_iconst (v := 0) hx hb dX7_opens_5 (by decide) ?_
  refine a_put (C := RX7) (T := TX7) (N := 17) (wn := [(ax, .inr (7, [.ref ax_row, .ref ax_text, .int x_letters, .int x_at, .ref ax_read, .ref ax_undone, .int x_undos, .ref ax_order, .ref ax_dones, .int (0 : Int32), .int x_bestSet, .ref ax_aside, .ref ax_tapedWho, .ref ax_tapedTill, .int x_taped, .ref ax_kept, .int x_keeps])), (ax_row, .inl (cyI, 28, .inl x_row)), (ax_order, .inl (cyI, 8, .inl x_order_o1)), (ax_dones, .inl (cyI, 8, .inl x_dones))]) hx hb hts inX7 tyX7 tyX7_ok nmX7 hown hK hP hD hS 0 rfl rfl 9 (by decide) f119 (fun _ h9 => h9) rfl rfl (Nat.le_of_ble_eq_true rfl) rfl dX7_opens_6 (fun H locs hP hD hS => ?_)
  refine lv_iconst (v := 0) hx hb dX7_opens_9 (by decide) ?_
  refine lv_istore_n (lv' := [(1, .int (0 : Int32)), (0, .ref ax)]) hx hb dX7_opens_10 rfl hl (by decide) rfl (fun ls hl => ?_)
  refine lv_iconst (v := 0) hx hb dX7_opens_11 (by decide) ?_
  refine lv_istore_n (lv' := [(2, .int (0 : Int32)), (1, .int (0 : Int32)), (0, .ref ax)]) hx hb dX7_opens_12 rfl hl (by decide) rfl (fun ls hl => ?_)
  have hL13 : ∀ (n13 : Nat) (x_order : Nat → Int32) (i1 : Int32) (i2 : Int32) (x_away : Int32) (x_dones : Nat → Int32) (H : Heap) (locs : List Loc) (ls : Array Slot), va_P D vwCl [(ax, .inr (7, [.ref ax_row, .ref ax_text, .int x_letters, .int x_at, .ref ax_read, .ref ax_undone, .int x_undos, .ref ax_order, .ref ax_dones, .int x_away, .int x_bestSet, .ref ax_aside, .ref ax_tapedWho, .ref ax_tapedTill, .int x_taped, .ref ax_kept, .int x_keeps])), (ax_row, .inl (cyI, 28, .inl x_row)), (ax_order, .inl (cyI, 8, .inl x_order)), (ax_dones, .inl (cyI, 8, .inl x_dones))] H → va_D A [(ax, .inr (7, [.ref ax_row, .ref ax_text, .int x_letters, .int x_at, .ref ax_read, .ref ax_undone, .int x_undos, .ref ax_order, .ref ax_dones, .int x_away, .int x_bestSet, .ref ax_aside, .ref ax_tapedWho, .ref ax_tapedTill, .int x_taped, .ref ax_kept, .int x_keeps])), (ax_row, .inl (cyI, 28, .inl x_row)), (ax_order, .inl (cyI, 8, .inl x_order)), (ax_dones, .inl (cyI, 8, .inl x_dones))] → va_S A s.heap H locs → lv_has ls 6 [(0, .ref ax), (1, .int i1), (2, .int i2)] → S_X7_opens_L13 x_order x_row n13 i1 i2 x_away x_dones = some (o_x_away, o_x_order, o_x_dones) → W p l e rX7_opens s m (([.ref ax] : List Value).toArray) below meth c H locs 0 0 (MQ below (CQv D [(ax, .inr (7, [.ref ax_row, .ref ax_text, .int x_letters, .int x_at, .ref ax_read, .ref ax_undone, .int x_undos, .ref ax_order, .ref ax_dones, .int o_x_away, .int x_bestSet, .ref ax_aside, .ref ax_tapedWho, .ref ax_tapedTill, .int x_taped, .ref ax_kept, .int x_keeps])), (ax_row, .inl (cyI, 28, .inl x_row)), (ax_order, .inl (cyI, 8, .inl o_x_order)), (ax_dones, .inl (cyI, 8, .inl o_x_dones))] A) (([.ref ax] : List Value).toArray) s 0 0 A) (F0 m 13 ls []) := by
    intro n13
    induction n13 with
    | zero => intro x_order i1 i2 x_away x_dones H locs ls hP hD hS hl hf; exact absurd hf (by simp [S_X7_opens_L13])
    | succ n13 ih13 =>
      intro x_order i1 i2 x_away x_dones H locs ls hP hD hS hl hf
      rw [S_X7_opens_L13] at hf
      refine lv_iload_n hx hb dX7_opens_13 rfl (lv_at hl 2 rfl) ?_
      refine lv_aload_n hx hb dX7_opens_14 rfl (lv_at hl 0 rfl) ?_
      refine va_get (C := RX7) (T := TX7) (N := 17) hx hb hts inX7 hown hK.1 hP 0 rfl rfl 0 (by decide) f7 (fun _ h9 => h9) rfl dX7_opens_15 ?_
      refine lv_iconst (v := 0) hx hb dX7_opens_18 (by decide) ?_
      refine a_ild hx hb hK hP 1 rfl (vin (by decide)) 0 (by decide) dX7_opens_19 ?_
      refine lv_icmp_ge (tgt := 150) hx hb dX7_opens_20 (by decide) (fun c20 => ?_) (fun c20 => ?_)
      · replace hf := ip c20 hf
        refine lv_iconst (v := 0) hx hb dX7_opens_150 (by decide) ?_
        refine lv_istore_n (lv' := [(2, .int (0 : Int32)), (0, .ref ax), (1, .int i1)]) hx hb dX7_opens_151 rfl hl (by decide) rfl (fun ls hl => ?_)
        have hL152 : ∀ (n152 : Nat) (x_order : Nat → Int32) (x_dones : Nat → Int32) (i2 : Int32) (x_away : Int32) (H : Heap) (locs : List Loc) (ls : Array Slot), va_P D vwCl [(ax, .inr (7, [.ref ax_row, .ref ax_text, .int x_letters, .int x_at, .ref ax_read, .ref ax_undone, .int x_undos, .ref ax_order, .ref ax_dones, .int x_away, .int x_bestSet, .ref ax_aside, .ref ax_tapedWho, .ref ax_tapedTill, .int x_taped, .ref ax_kept, .int x_keeps])), (ax_row, .inl (cyI, 28, .inl x_row)), (ax_order, .inl (cyI, 8, .inl x_order)), (ax_dones, .inl (cyI, 8, .inl x_dones))] H → va_D A [(ax, .inr (7, [.ref ax_row, .ref ax_text, .int x_letters, .int x_at, .ref ax_read, .ref ax_undone, .int x_undos, .ref ax_order, .ref ax_dones, .int x_away, .int x_bestSet, .ref ax_aside, .ref ax_tapedWho, .ref ax_tapedTill, .int x_taped, .ref ax_kept, .int x_keeps])), (ax_row, .inl (cyI, 28, .inl x_row)), (ax_order, .inl (cyI, 8, .inl x_order)), (ax_dones, .inl (cyI, 8, .inl x_dones))] → va_S A s.heap H locs → lv_has ls 6 [(0, .ref ax), (2, .int i2)] → S_X7_opens_L152 x_order x_dones x_row n152 i2 x_away = some (o_x_away, o_x_order, o_x_dones) → W p l e rX7_opens s m (([.ref ax] : List Value).toArray) below meth c H locs 0 0 (MQ below (CQv D [(ax, .inr (7, [.ref ax_row, .ref ax_text, .int x_letters, .int x_at, .ref ax_read, .ref ax_undone, .int x_undos, .ref ax_order, .ref ax_dones, .int o_x_away, .int x_bestSet, .ref ax_aside, .ref ax_tapedWho, .ref ax_tapedTill, .int x_taped, .ref ax_kept, .int x_keeps])), (ax_row, .inl (cyI, 28, .inl x_row)), (ax_order, .inl (cyI, 8, .inl o_x_order)), (ax_dones, .inl (cyI, 8, .inl o_x_dones))] A) (([.ref ax] : List Value).toArray) s 0 0 A) (F0 m 152 ls []) := by
          intro n152
          induction n152 with
          | zero => intro x_order x_dones i2 x_away H locs ls hP hD hS hl hf; exact absurd hf (by simp [S_X7_opens_L152])
          | succ n152 ih152 =>
            intro x_order x_dones i2 x_away H locs ls hP hD hS hl hf
            rw [S_X7_opens_L152] at hf
            refine lv_iload_n hx hb dX7_opens_152 rfl (lv_at hl 1 rfl) ?_
            refine lv_aload_n hx hb dX7_opens_153 rfl (lv_at hl 0 rfl) ?_
            refine va_get (C := RX7) (T := TX7) (N := 17) hx hb hts inX7 hown hK.1 hP 0 rfl rfl 0 (by decide) f7 (fun _ h9 => h9) rfl dX7_opens_154 ?_
            refine lv_iconst (v := 0) hx hb dX7_opens_157 (by decide) ?_
            refine a_ild hx hb hK hP 1 rfl (vin (by decide)) 0 (by decide) dX7_opens_158 ?_
            refine lv_icmp_ge (tgt := 235) hx hb dX7_opens_159 (by decide) (fun c159 => ?_) (fun c159 => ?_)
            · replace hf := ip c159 hf
              refine lv_aload_n hx hb dX7_opens_235 rfl (lv_at hl 0 rfl) ?_
              obtain ⟨x_dones_o236, q236, hf⟩ := ob hf
              refine k_v (wc := [(ax, .inr (7, [.ref ax_row, .ref ax_text, .int x_letters, .int x_at, .ref ax_read, .ref ax_undone, .int x_undos, .ref ax_order, .ref ax_dones, .int x_away, .int x_bestSet, .ref ax_aside, .ref ax_tapedWho, .ref ax_tapedTill, .int x_taped, .ref ax_kept, .int x_keeps])), (ax_row, .inl (cyI, 28, .inl x_row)), (ax_dones, .inl (cyI, 8, .inl x_dones))]) (wr := [(ax_order, .inl (cyI, 8, .inl x_order))]) (w1 := [(ax, .inr (7, [.ref ax_row, .ref ax_text, .int x_letters, .int x_at, .ref ax_read, .ref ax_undone, .int x_undos, .ref ax_order, .ref ax_dones, .int x_away, .int x_bestSet, .ref ax_aside, .ref ax_tapedWho, .ref ax_tapedTill, .int x_taped, .ref ax_kept, .int x_keeps])), (ax_row, .inl (cyI, 28, .inl x_row)), (ax_dones, .inl (cyI, 8, .inl x_dones_o236))]) (wn := [(ax, .inr (7, [.ref ax_row, .ref ax_text, .int x_letters, .int x_at, .ref ax_read, .ref ax_undone, .int x_undos, .ref ax_order, .ref ax_dones, .int x_away, .int x_bestSet, .ref ax_aside, .ref ax_tapedWho, .ref ax_tapedTill, .int x_taped, .ref ax_kept, .int x_keeps])), (ax_row, .inl (cyI, 28, .inl x_row)), (ax_order, .inl (cyI, 8, .inl x_order)), (ax_dones, .inl (cyI, 8, .inl x_dones_o236))]) (va_runV (As := []) (rest := []) ⟨hx, hb, hml, hown, hts⟩ (c_X7_rests l D cyI cyC cyS H.size ax ax_row ax_text ax_read ax_undone ax_order ax_dones ax_aside ax_tapedWho ax_tapedTill ax_kept x_letters x_at x_undos x_away x_bestSet x_taped x_keeps x_row x_dones q236) (cwV 0 hts gX7_opens_X7_rests rfl rfl rfl (by decide +kernel) ⟨Nat.le_of_ble_eq_true rfl, Nat.le_of_ble_eq_true rfl⟩) (preV (ci := 7) hK (hP.subm (ws' := [(ax, .inr (7, [.ref ax_row, .ref ax_text, .int x_letters, .int x_at, .ref ax_read, .ref ax_undone, .int x_undos, .ref ax_order, .ref ax_dones, .int x_away, .int x_bestSet, .ref ax_aside, .ref ax_tapedWho, .ref ax_tapedTill, .int x_taped, .ref ax_kept, .int x_keeps])), (ax_row, .inl (cyI, 28, .inl x_row)), (ax_dones, .inl (cyI, 8, .inl x_dones))]) [0, 1, 3] rfl) (hD.sub (ws' := [(ax, .inr (7, [.ref ax_row, .ref ax_text, .int x_letters, .int x_at, .ref ax_read, .ref ax_undone, .int x_undos, .ref ax_order, .ref ax_dones, .int x_away, .int x_bestSet, .ref ax_aside, .ref ax_tapedWho, .ref ax_tapedTill, .int x_taped, .ref ax_kept, .int x_keeps])), (ax_row, .inl (cyI, 28, .inl x_row)), (ax_dones, .inl (cyI, 8, .inl x_dones))]) [0, 1, 3] (by decide) rfl) rfl rfl) rfl rfl hl.1 rfl (lv_room (Nat.le_of_ble_eq_true rfl)) dX7_opens_236 ⟨Nat.le_of_ble_eq_true rfl, Nat.le_of_ble_eq_true rfl⟩) hP hD hS hA [0, 1, 3] [2] [1, 2, 0, 3] rfl rfl rfl (by decide) (by decide) (by decide) (fun H locs hP hD hS => ?_)
              simp only [Option.some.injEq, Prod.mk.injEq] at hf
              obtain ⟨rfl, rfl, rfl⟩ := hf
              exact W.vret hx hb hr (fun t ht hW => ⟨⟨(), rfl, trivial, by rw [ht]; exact hP, hD⟩, hS.F ht⟩) hS.2.2 dX7_opens_239
            · replace hf := iq c159 hf
              refine lv_aload_n hx hb dX7_opens_162 rfl (lv_at hl 0 rfl) ?_
              refine va_get (C := RX7) (T := TX7) (N := 17) hx hb hts inX7 hown hK.1 hP 0 rfl rfl 9 (by decide) f119 (fun _ h9 => h9) rfl dX7_opens_163 ?_
              refine lv_iload_n hx hb dX7_opens_166 rfl (lv_at hl 1 rfl) ?_
              refine lv_ishr hx hb dX7_opens_167 ?_
              refine lv_iconst (v := 1) hx hb dX7_opens_168 (by decide) ?_
              refine lv_iand hx hb dX7_opens_169 ?_
              refine lv_iconst (v := 1) hx hb dX7_opens_170 (by decide) ?_
              have hJ179 : ∀ (s0_179 : Int32) (H : Heap) (locs : List Loc) (ls : Array Slot), va_P D vwCl [(ax, .inr (7, [.ref ax_row, .ref ax_text, .int x_letters, .int x_at, .ref ax_read, .ref ax_undone, .int x_undos, .ref ax_order, .ref ax_dones, .int x_away, .int x_bestSet, .ref ax_aside, .ref ax_tapedWho, .ref ax_tapedTill, .int x_taped, .ref ax_kept, .int x_keeps])), (ax_row, .inl (cyI, 28, .inl x_row)), (ax_order, .inl (cyI, 8, .inl x_order)), (ax_dones, .inl (cyI, 8, .inl x_dones))] H → va_D A [(ax, .inr (7, [.ref ax_row, .ref ax_text, .int x_letters, .int x_at, .ref ax_read, .ref ax_undone, .int x_undos, .ref ax_order, .ref ax_dones, .int x_away, .int x_bestSet, .ref ax_aside, .ref ax_tapedWho, .ref ax_tapedTill, .int x_taped, .ref ax_kept, .int x_keeps])), (ax_row, .inl (cyI, 28, .inl x_row)), (ax_order, .inl (cyI, 8, .inl x_order)), (ax_dones, .inl (cyI, 8, .inl x_dones))] → va_S A s.heap H locs → lv_has ls 6 [(0, .ref ax), (2, .int i2)] → (jn (fun (s0_225 : Int32) => ((S_X7_opens_L152 x_order x_dones x_row n152) (i2 + (1 : Int32)) (x_away &&& s0_225))) (fun J225 =>
(jn ((J225 (-1 : Int32))) (fun J224 =>
(if s0_179 = 0 then
J224 else
(Option.bind (S_X7_kind i2 x_row) (fun r191 =>
(if r191 = (3 : Int32) then
(Option.bind (S_X7_inRow i2 x_away x_row) (fun r204 =>
(if i2 < 0 ∨ 8 ≤ i2.toNatClampNeg then none else
(if (x_dones i2.toNatClampNeg) ≤ r204 then
J224 else
(J225 (((1 : Int32) <<< (i2 &&& 31)) ^^^ (-1 : Int32))))))) else
J224)))))))) = some (o_x_away, o_x_order, o_x_dones) → W p l e rX7_opens s m (([.ref ax] : List Value).toArray) below meth c H locs 0 0 (MQ below (CQv D [(ax, .inr (7, [.ref ax_row, .ref ax_text, .int x_letters, .int x_at, .ref ax_read, .ref ax_undone, .int x_undos, .ref ax_order, .ref ax_dones, .int o_x_away, .int x_bestSet, .ref ax_aside, .ref ax_tapedWho, .ref ax_tapedTill, .int x_taped, .ref ax_kept, .int x_keeps])), (ax_row, .inl (cyI, 28, .inl x_row)), (ax_order, .inl (cyI, 8, .inl o_x_order)), (ax_dones, .inl (cyI, 8, .inl o_x_dones))] A) (([.ref ax] : List Value).toArray) s 0 0 A) (F0 m 179 ls [.int s0_179]) := by
                intro s0_179 H locs ls hP hD hS hl hf
                refine lv_istore_n (lv' := [(3, .int s0_179), (0, .ref ax), (2, .int i2)]) hx hb dX7_opens_179 rfl hl (by decide) rfl (fun ls hl => ?_)
                refine lv_aload_n hx hb dX7_opens_180 rfl (lv_at hl 1 rfl) ?_
                refine lv_dup hx hb dX7_opens_181 rfl ?_
                refine va_get (C := RX7) (T := TX7) (N := 17) hx hb hts inX7 hown hK.1 hP 0 rfl rfl 9 (by decide) f119 (fun _ h9 => h9) rfl dX7_opens_182 ?_
                refine lv_iload_n hx hb dX7_opens_185 rfl (lv_at hl 0 rfl) ?_
                have hJ225 : ∀ (s0_225 : Int32) (H : Heap) (locs : List Loc) (ls : Array Slot), va_P D vwCl [(ax, .inr (7, [.ref ax_row, .ref ax_text, .int x_letters, .int x_at, .ref ax_read, .ref ax_undone, .int x_undos, .ref ax_order, .ref ax_dones, .int x_away, .int x_bestSet, .ref ax_aside, .ref ax_tapedWho, .ref ax_tapedTill, .int x_taped, .ref ax_kept, .int x_keeps])), (ax_row, .inl (cyI, 28, .inl x_row)), (ax_order, .inl (cyI, 8, .inl x_order)), (ax_dones, .inl (cyI, 8, .inl x_dones))] H → va_D A [(ax, .inr (7, [.ref ax_row, .ref ax_text, .int x_letters, .int x_at, .ref ax_read, .ref ax_undone, .int x_undos, .ref ax_order, .ref ax_dones, .int x_away, .int x_bestSet, .ref ax_aside, .ref ax_tapedWho, .ref ax_tapedTill, .int x_taped, .ref ax_kept, .int x_keeps])), (ax_row, .inl (cyI, 28, .inl x_row)), (ax_order, .inl (cyI, 8, .inl x_order)), (ax_dones, .inl (cyI, 8, .inl x_dones))] → va_S A s.heap H locs → lv_has ls 6 [(0, .ref ax), (2, .int i2)] → ((S_X7_opens_L152 x_order x_dones x_row n152) (i2 + (1 : Int32)) (x_away &&& s0_225)) = some (o_x_away, o_x_order, o_x_dones) → W p l e rX7_opens s m (([.ref ax] : List Value).toArray) below meth c H locs 0 0 (MQ below (CQv D [(ax, .inr (7, [.ref ax_row, .ref ax_text, .int x_letters, .int x_at, .ref ax_read, .ref ax_undone, .int x_undos, .ref ax_order, .ref ax_dones, .int o_x_away, .int x_bestSet, .ref ax_aside, .ref ax_tapedWho, .ref ax_tapedTill, .int x_taped, .ref ax_kept, .int x_keeps])), (ax_row, .inl (cyI, 28, .inl x_row)), (ax_order, .inl (cyI, 8, .inl o_x_order)), (ax_dones, .inl (cyI, 8, .inl o_x_dones))] A) (([.ref ax] : List Value).toArray) s 0 0 A) (F0 m 225 ls [.int s0_225, .int x_away, .ref ax]) := by
                  intro s0_225 H locs ls hP hD hS hl hf
                  refine lv_iand hx hb dX7_opens_225 ?_
                  refine a_put (C := RX7) (T := TX7) (N := 17) (wn := [(ax, .inr (7, [.ref ax_row, .ref ax_text, .int x_letters, .int x_at, .ref ax_read, .ref ax_undone, .int x_undos, .ref ax_order, .ref ax_dones, .int (x_away &&& s0_225), .int x_bestSet, .ref ax_aside, .ref ax_tapedWho, .ref ax_tapedTill, .int x_taped, .ref ax_kept, .int x_keeps])), (ax_row, .inl (cyI, 28, .inl x_row)), (ax_order, .inl (cyI, 8, .inl x_order)), (ax_dones, .inl (cyI, 8, .inl x_dones))]) hx hb hts inX7 tyX7 tyX7_ok nmX7 hown hK hP hD hS 0 rfl rfl 9 (by decide) f119 (fun _ h9 => h9) rfl rfl (Nat.le_of_ble_eq_true rfl) rfl dX7_opens_226 (fun H locs hP hD hS => ?_)
                  refine lv_iinc (v := i2 + (1 : Int32)) (lv' := [(2, .int (i2 + (1 : Int32))), (0, .ref ax)]) hx hb dX7_opens_229 hl (k := 1) rfl rfl (by decide) rfl (fun ls hl => ?_)
                  refine lv_goto (tgt := 152) hx hb dX7_opens_232 (by decide) ?_
                  exact ih152 x_order x_dones (i2 + (1 : Int32)) (x_away &&& s0_225) _ _ _ hP hD hS (lv_sub hl [1, 0] rfl) hf
                replace hf := jn_h hf
                have hJ224 : ∀ (H : Heap) (locs : List Loc) (ls : Array Slot), va_P D vwCl [(ax, .inr (7, [.ref ax_row, .ref ax_text, .int x_letters, .int x_at, .ref ax_read, .ref ax_undone, .int x_undos, .ref ax_order, .ref ax_dones, .int x_away, .int x_bestSet, .ref ax_aside, .ref ax_tapedWho, .ref ax_tapedTill, .int x_taped, .ref ax_kept, .int x_keeps])), (ax_row, .inl (cyI, 28, .inl x_row)), (ax_order, .inl (cyI, 8, .inl x_order)), (ax_dones, .inl (cyI, 8, .inl x_dones))] H → va_D A [(ax, .inr (7, [.ref ax_row, .ref ax_text, .int x_letters, .int x_at, .ref ax_read, .ref ax_undone, .int x_undos, .ref ax_order, .ref ax_dones, .int x_away, .int x_bestSet, .ref ax_aside, .ref ax_tapedWho, .ref ax_tapedTill, .int x_taped, .ref ax_kept, .int x_keeps])), (ax_row, .inl (cyI, 28, .inl x_row)), (ax_order, .inl (cyI, 8, .inl x_order)), (ax_dones, .inl (cyI, 8, .inl x_dones))] → va_S A s.heap H locs → lv_has ls 6 [(0, .ref ax), (2, .int i2)] → ((fun (s0_225 : Int32) => ((S_X7_opens_L152 x_order x_dones x_row n152) (i2 + (1 : Int32)) (x_away &&& s0_225))) (-1 : Int32)) = some (o_x_away, o_x_order, o_x_dones) → W p l e rX7_opens s m (([.ref ax] : List Value).toArray) below meth c H locs 0 0 (MQ below (CQv D [(ax, .inr (7, [.ref ax_row, .ref ax_text, .int x_letters, .int x_at, .ref ax_read, .ref ax_undone, .int x_undos, .ref ax_order, .ref ax_dones, .int o_x_away, .int x_bestSet, .ref ax_aside, .ref ax_tapedWho, .ref ax_tapedTill, .int x_taped, .ref ax_kept, .int x_keeps])), (ax_row, .inl (cyI, 28, .inl x_row)), (ax_order, .inl (cyI, 8, .inl o_x_order)), (ax_dones, .inl (cyI, 8, .inl o_x_dones))] A) (([.ref ax] : List Value).toArray) s 0 0 A) (F0 m 224 ls [.int x_away, .ref ax]) := by
                  intro  H locs ls hP hD hS hl hf
                  refine lv_iconst (v := -1) hx hb dX7_opens_224 (by decide) ?_
                  exact hJ225 (-1 : Int32) _ _ _ hP hD hS (lv_sub hl [0, 1] rfl) hf
                replace hf := jn_h hf
                refine lv_if_eq (tgt := 224) hx hb dX7_opens_186 (by decide) (fun c186 => ?_) (fun c186 => ?_)
                · replace hf := ip c186 hf
                  exact hJ224 _ _ _ hP hD hS (lv_sub hl [1, 2] rfl) hf
                · replace hf := iq c186 hf
                  refine lv_aload_n hx hb dX7_opens_189 rfl (lv_at hl 1 rfl) ?_
                  refine lv_iload_n hx hb dX7_opens_190 rfl (lv_at hl 2 rfl) ?_
                  obtain ⟨r191, q191, hf⟩ := ob hf
                  refine k_i (wc := [(ax, .inr (7, [.ref ax_row, .ref ax_text, .int x_letters, .int x_at, .ref ax_read, .ref ax_undone, .int x_undos, .ref ax_order, .ref ax_dones, .int x_away, .int x_bestSet, .ref ax_aside, .ref ax_tapedWho, .ref ax_tapedTill, .int x_taped, .ref ax_kept, .int x_keeps])), (ax_row, .inl (cyI, 28, .inl x_row))]) (wr := [(ax_order, .inl (cyI, 8, .inl x_order)), (ax_dones, .inl (cyI, 8, .inl x_dones))]) (w1 := [(ax, .inr (7, [.ref ax_row, .ref ax_text, .int x_letters, .int x_at, .ref ax_read, .ref ax_undone, .int x_undos, .ref ax_order, .ref ax_dones, .int x_away, .int x_bestSet, .ref ax_aside, .ref ax_tapedWho, .ref ax_tapedTill, .int x_taped, .ref ax_kept, .int x_keeps])), (ax_row, .inl (cyI, 28, .inl x_row))]) (wn := [(ax, .inr (7, [.ref ax_row, .ref ax_text, .int x_letters, .int x_at, .ref ax_read, .ref ax_undone, .int x_undos, .ref ax_order, .ref ax_dones, .int x_away, .int x_bestSet, .ref ax_aside, .ref ax_tapedWho, .ref ax_tapedTill, .int x_taped, .ref ax_kept, .int x_keeps])), (ax_row, .inl (cyI, 28, .inl x_row)), (ax_order, .inl (cyI, 8, .inl x_order)), (ax_dones, .inl (cyI, 8, .inl x_dones))]) (va_runV (As := [.int i2]) (rest := [.int x_away, .ref ax]) ⟨hx, hb, hml, hown, hts⟩ (c_X7_kind l D cyI cyC cyS H.size ax ax_row ax_text ax_read ax_undone ax_order ax_dones ax_aside ax_tapedWho ax_tapedTill ax_kept x_letters x_at x_undos x_away x_bestSet x_taped x_keeps x_row i2 q191) (cwV 1 hts gX7_opens_X7_kind rfl rfl rfl (by decide +kernel) ⟨Nat.le_of_ble_eq_true rfl, Nat.le_of_ble_eq_true rfl⟩) (preV (ci := 7) hK (hP.subm (ws' := [(ax, .inr (7, [.ref ax_row, .ref ax_text, .int x_letters, .int x_at, .ref ax_read, .ref ax_undone, .int x_undos, .ref ax_order, .ref ax_dones, .int x_away, .int x_bestSet, .ref ax_aside, .ref ax_tapedWho, .ref ax_tapedTill, .int x_taped, .ref ax_kept, .int x_keeps])), (ax_row, .inl (cyI, 28, .inl x_row))]) [0, 1] rfl) (hD.sub (ws' := [(ax, .inr (7, [.ref ax_row, .ref ax_text, .int x_letters, .int x_at, .ref ax_read, .ref ax_undone, .int x_undos, .ref ax_order, .ref ax_dones, .int x_away, .int x_bestSet, .ref ax_aside, .ref ax_tapedWho, .ref ax_tapedTill, .int x_taped, .ref ax_kept, .int x_keeps])), (ax_row, .inl (cyI, 28, .inl x_row))]) [0, 1] (by decide) rfl) rfl rfl) rfl rfl hl.1 rfl (lv_room (Nat.le_of_ble_eq_true rfl)) dX7_opens_191 ⟨Nat.le_of_ble_eq_true rfl, Nat.le_of_ble_eq_true rfl⟩) hP hD hS hA [0, 1] [2, 3] [2, 3, 0, 1] rfl rfl rfl (by decide) (by decide) (by decide) (fun H locs hP hD hS => ?_)
                  refine lv_iconst (v := 3) hx hb dX7_opens_194 (by decide) ?_
                  refine lv_icmp_ne (tgt := 224) hx hb dX7_opens_195 (by decide) (fun c195 => ?_) (fun c195 => ?_)
                  · replace hf := iq c195 hf
                    exact hJ224 _ _ _ hP hD hS (lv_sub hl [1, 2] rfl) hf
                  · replace hf := ip c195 hf
                    refine lv_aload_n hx hb dX7_opens_198 rfl (lv_at hl 1 rfl) ?_
                    refine lv_iload_n hx hb dX7_opens_199 rfl (lv_at hl 2 rfl) ?_
                    refine lv_aload_n hx hb dX7_opens_200 rfl (lv_at hl 1 rfl) ?_
                    refine va_get (C := RX7) (T := TX7) (N := 17) hx hb hts inX7 hown hK.1 hP 0 rfl rfl 9 (by decide) f119 (fun _ h9 => h9) rfl dX7_opens_201 ?_
                    obtain ⟨r204, q204, hf⟩ := ob hf
                    refine k_i (wc := [(ax, .inr (7, [.ref ax_row, .ref ax_text, .int x_letters, .int x_at, .ref ax_read, .ref ax_undone, .int x_undos, .ref ax_order, .ref ax_dones, .int x_away, .int x_bestSet, .ref ax_aside, .ref ax_tapedWho, .ref ax_tapedTill, .int x_taped, .ref ax_kept, .int x_keeps])), (ax_row, .inl (cyI, 28, .inl x_row))]) (wr := [(ax_order, .inl (cyI, 8, .inl x_order)), (ax_dones, .inl (cyI, 8, .inl x_dones))]) (w1 := [(ax, .inr (7, [.ref ax_row, .ref ax_text, .int x_letters, .int x_at, .ref ax_read, .ref ax_undone, .int x_undos, .ref ax_order, .ref ax_dones, .int x_away, .int x_bestSet, .ref ax_aside, .ref ax_tapedWho, .ref ax_tapedTill, .int x_taped, .ref ax_kept, .int x_keeps])), (ax_row, .inl (cyI, 28, .inl x_row))]) (wn := [(ax, .inr (7, [.ref ax_row, .ref ax_text, .int x_letters, .int x_at, .ref ax_read, .ref ax_undone, .int x_undos, .ref ax_order, .ref ax_dones, .int x_away, .int x_bestSet, .ref ax_aside, .ref ax_tapedWho, .ref ax_tapedTill, .int x_taped, .ref ax_kept, .int x_keeps])), (ax_row, .inl (cyI, 28, .inl x_row)), (ax_order, .inl (cyI, 8, .inl x_order)), (ax_dones, .inl (cyI, 8, .inl x_dones))]) (va_runV (As := [.int i2, .int x_away]) (rest := [.int x_away, .ref ax]) ⟨hx, hb, hml, hown, hts⟩ (c_X7_inRow l D cyI cyC cyS H.size ax ax_row ax_text ax_read ax_undone ax_order ax_dones ax_aside ax_tapedWho ax_tapedTill ax_kept x_letters x_at x_undos x_away x_bestSet x_taped x_keeps x_row i2 x_away q204) (cwV 2 hts gX7_opens_X7_inRow rfl rfl rfl (by decide +kernel) ⟨Nat.le_of_ble_eq_true rfl, Nat.le_of_ble_eq_true rfl⟩) (preV (ci := 7) hK (hP.subm (ws' := [(ax, .inr (7, [.ref ax_row, .ref ax_text, .int x_letters, .int x_at, .ref ax_read, .ref ax_undone, .int x_undos, .ref ax_order, .ref ax_dones, .int x_away, .int x_bestSet, .ref ax_aside, .ref ax_tapedWho, .ref ax_tapedTill, .int x_taped, .ref ax_kept, .int x_keeps])), (ax_row, .inl (cyI, 28, .inl x_row))]) [0, 1] rfl) (hD.sub (ws' := [(ax, .inr (7, [.ref ax_row, .ref ax_text, .int x_letters, .int x_at, .ref ax_read, .ref ax_undone, .int x_undos, .ref ax_order, .ref ax_dones, .int x_away, .int x_bestSet, .ref ax_aside, .ref ax_tapedWho, .ref ax_tapedTill, .int x_taped, .ref ax_kept, .int x_keeps])), (ax_row, .inl (cyI, 28, .inl x_row))]) [0, 1] (by decide) rfl) rfl rfl) rfl rfl hl.1 rfl (lv_room (Nat.le_of_ble_eq_true rfl)) dX7_opens_204 ⟨Nat.le_of_ble_eq_true rfl, Nat.le_of_ble_eq_true rfl⟩) hP hD hS hA [0, 1] [2, 3] [2, 3, 0, 1] rfl rfl rfl (by decide) (by decide) (by decide) (fun H locs hP hD hS => ?_)
                    refine lv_aload_n hx hb dX7_opens_207 rfl (lv_at hl 1 rfl) ?_
                    refine va_get (C := RX7) (T := TX7) (N := 17) hx hb hts inX7 hown hK.1 hP 0 rfl rfl 8 (by decide) f25 (fun _ h9 => h9) rfl dX7_opens_208 ?_
                    refine lv_iload_n hx hb dX7_opens_211 rfl (lv_at hl 2 rfl) ?_
                    obtain ⟨z212, hf⟩ := oi hf
                    refine a_ild hx hb hK hP 3 rfl z212 i2.toNatClampNeg rfl dX7_opens_212 ?_
                    refine lv_icmp_ge (tgt := 224) hx hb dX7_opens_213 (by decide) (fun c213 => ?_) (fun c213 => ?_)
                    · replace hf := ip c213 hf
                      exact hJ224 _ _ _ hP hD hS (lv_sub hl [1, 2] rfl) hf
                    · replace hf := iq c213 hf
                      refine lv_iconst (v := 1) hx hb dX7_opens_216 (by decide) ?_
                      refine lv_iload_n hx hb dX7_opens_217 rfl (lv_at hl 2 rfl) ?_
                      refine lv_ishl hx hb dX7_opens_218 ?_
                      refine lv_iconst (v := -1) hx hb dX7_opens_219 (by decide) ?_
                      refine lv_ixor hx hb dX7_opens_220 ?_
                      refine lv_goto (tgt := 225) hx hb dX7_opens_221 (by decide) ?_
                      exact hJ225 (((1 : Int32) <<< (i2 &&& 31)) ^^^ (-1 : Int32)) _ _ _ hP hD hS (lv_sub hl [1, 2] rfl) hf
              replace hf := jn_h hf
              refine lv_icmp_ne (tgt := 178) hx hb dX7_opens_171 (by decide) (fun c171 => ?_) (fun c171 => ?_)
              · replace hf := iq c171 hf
                refine lv_iconst (v := 0) hx hb dX7_opens_178 (by decide) ?_
                exact hJ179 (0 : Int32) _ _ _ hP hD hS (lv_sub hl [0, 1] rfl) hf
              · replace hf := ip c171 hf
                refine lv_iconst (v := 1) hx hb dX7_opens_174 (by decide) ?_
                refine lv_goto (tgt := 179) hx hb dX7_opens_175 (by decide) ?_
                exact hJ179 (1 : Int32) _ _ _ hP hD hS (lv_sub hl [0, 1] rfl) hf
        exact hL152 300 x_order x_dones (0 : Int32) x_away _ _ _ hP hD hS (lv_sub hl [1, 0] rfl) hf
      · replace hf := iq c20 hf
        refine lv_aload_n hx hb dX7_opens_23 rfl (lv_at hl 0 rfl) ?_
        refine va_get (C := RX7) (T := TX7) (N := 17) hx hb hts inX7 hown hK.1 hP 0 rfl rfl 7 (by decide) f22 (fun _ h9 => h9) rfl dX7_opens_24 ?_
        refine lv_iload_n hx hb dX7_opens_27 rfl (lv_at hl 2 rfl) ?_
        obtain ⟨z28, hf⟩ := oi hf
        refine a_ild hx hb hK hP 2 rfl z28 i2.toNatClampNeg rfl dX7_opens_28 ?_
        refine lv_istore_n (lv' := [(3, .int (x_order i2.toNatClampNeg)), (0, .ref ax), (1, .int i1), (2, .int i2)]) hx hb dX7_opens_29 rfl hl (by decide) rfl (fun ls hl => ?_)
        refine lv_iconst (v := 1) hx hb dX7_opens_30 (by decide) ?_
        refine lv_iload_n hx hb dX7_opens_31 rfl (lv_at hl 0 rfl) ?_
        refine lv_ishl hx hb dX7_opens_32 ?_
        refine lv_iconst (v := 1) hx hb dX7_opens_33 (by decide) ?_
        refine lv_isub hx hb dX7_opens_34 ?_
        refine lv_aload_n hx hb dX7_opens_35 rfl (lv_at hl 1 rfl) ?_
        refine va_get (C := RX7) (T := TX7) (N := 17) hx hb hts inX7 hown hK.1 hP 0 rfl rfl 9 (by decide) f119 (fun _ h9 => h9) rfl dX7_opens_36 ?_
        refine lv_iconst (v := -1) hx hb dX7_opens_39 (by decide) ?_
        refine lv_ixor hx hb dX7_opens_40 ?_
        refine lv_iand hx hb dX7_opens_41 ?_
        obtain ⟨r42, q42, hf⟩ := ob hf
        refine k_i (wc := []) (wr := [(ax, .inr (7, [.ref ax_row, .ref ax_text, .int x_letters, .int x_at, .ref ax_read, .ref ax_undone, .int x_undos, .ref ax_order, .ref ax_dones, .int x_away, .int x_bestSet, .ref ax_aside, .ref ax_tapedWho, .ref ax_tapedTill, .int x_taped, .ref ax_kept, .int x_keeps])), (ax_row, .inl (cyI, 28, .inl x_row)), (ax_order, .inl (cyI, 8, .inl x_order)), (ax_dones, .inl (cyI, 8, .inl x_dones))]) (w1 := []) (wn := [(ax, .inr (7, [.ref ax_row, .ref ax_text, .int x_letters, .int x_at, .ref ax_read, .ref ax_undone, .int x_undos, .ref ax_order, .ref ax_dones, .int x_away, .int x_bestSet, .ref ax_aside, .ref ax_tapedWho, .ref ax_tapedTill, .int x_taped, .ref ax_kept, .int x_keeps])), (ax_row, .inl (cyI, 28, .inl x_row)), (ax_order, .inl (cyI, 8, .inl x_order)), (ax_dones, .inl (cyI, 8, .inl x_dones))]) (va_runS (As := [.int ((((1 : Int32) <<< ((x_order i2.toNatClampNeg) &&& 31)) - (1 : Int32)) &&& (x_away ^^^ (-1 : Int32)))]) (rest := []) ⟨hx, hb, hml, hown, hts⟩ (c_X7_many l D cyI cyC cyS H.size ((((1 : Int32) <<< ((x_order i2.toNatClampNeg) &&& 31)) - (1 : Int32)) &&& (x_away ^^^ (-1 : Int32))) q42) (va_cwS 1 hts gX7_opens_X7_many rfl rfl rfl (by decide +kernel) ⟨Nat.le_of_ble_eq_true rfl, Nat.le_of_ble_eq_true rfl⟩) (preS hK (hP.subm (ws' := []) [] rfl) (hD.sub (ws' := []) [] (by decide) rfl)) rfl rfl hl.1 rfl (lv_room (Nat.le_of_ble_eq_true rfl)) dX7_opens_42 ⟨Nat.le_of_ble_eq_true rfl, Nat.le_of_ble_eq_true rfl⟩) hP hD hS hA [] [0, 1, 2, 3] [0, 1, 2, 3] rfl rfl rfl (by decide) (by decide) (by decide) (fun H locs hP hD hS => ?_)
        refine lv_aload_n hx hb dX7_opens_45 rfl (lv_at hl 1 rfl) ?_
        refine va_get (C := RX7) (T := TX7) (N := 17) hx hb hts inX7 hown hK.1 hP 0 rfl rfl 9 (by decide) f119 (fun _ h9 => h9) rfl dX7_opens_46 ?_
        obtain ⟨r49, q49, hf⟩ := ob hf
        refine k_i (wc := []) (wr := [(ax, .inr (7, [.ref ax_row, .ref ax_text, .int x_letters, .int x_at, .ref ax_read, .ref ax_undone, .int x_undos, .ref ax_order, .ref ax_dones, .int x_away, .int x_bestSet, .ref ax_aside, .ref ax_tapedWho, .ref ax_tapedTill, .int x_taped, .ref ax_kept, .int x_keeps])), (ax_row, .inl (cyI, 28, .inl x_row)), (ax_order, .inl (cyI, 8, .inl x_order)), (ax_dones, .inl (cyI, 8, .inl x_dones))]) (w1 := []) (wn := [(ax, .inr (7, [.ref ax_row, .ref ax_text, .int x_letters, .int x_at, .ref ax_read, .ref ax_undone, .int x_undos, .ref ax_order, .ref ax_dones, .int x_away, .int x_bestSet, .ref ax_aside, .ref ax_tapedWho, .ref ax_tapedTill, .int x_taped, .ref ax_kept, .int x_keeps])), (ax_row, .inl (cyI, 28, .inl x_row)), (ax_order, .inl (cyI, 8, .inl x_order)), (ax_dones, .inl (cyI, 8, .inl x_dones))]) (va_runS (As := [.int x_away]) (rest := [.int r42]) ⟨hx, hb, hml, hown, hts⟩ (c_X7_many l D cyI cyC cyS H.size x_away q49) (va_cwS 1 hts gX7_opens_X7_many rfl rfl rfl (by decide +kernel) ⟨Nat.le_of_ble_eq_true rfl, Nat.le_of_ble_eq_true rfl⟩) (preS hK (hP.subm (ws' := []) [] rfl) (hD.sub (ws' := []) [] (by decide) rfl)) rfl rfl hl.1 rfl (lv_room (Nat.le_of_ble_eq_true rfl)) dX7_opens_49 ⟨Nat.le_of_ble_eq_true rfl, Nat.le_of_ble_eq_true rfl⟩) hP hD hS hA [] [0, 1, 2, 3] [0, 1, 2, 3] rfl rfl rfl (by decide) (by decide) (by decide) (fun H locs hP hD hS => ?_)
        have hJ60 : ∀ (s0_60 : Int32) (H : Heap) (locs : List Loc) (ls : Array Slot), va_P D vwCl [(ax, .inr (7, [.ref ax_row, .ref ax_text, .int x_letters, .int x_at, .ref ax_read, .ref ax_undone, .int x_undos, .ref ax_order, .ref ax_dones, .int x_away, .int x_bestSet, .ref ax_aside, .ref ax_tapedWho, .ref ax_tapedTill, .int x_taped, .ref ax_kept, .int x_keeps])), (ax_row, .inl (cyI, 28, .inl x_row)), (ax_order, .inl (cyI, 8, .inl x_order)), (ax_dones, .inl (cyI, 8, .inl x_dones))] H → va_D A [(ax, .inr (7, [.ref ax_row, .ref ax_text, .int x_letters, .int x_at, .ref ax_read, .ref ax_undone, .int x_undos, .ref ax_order, .ref ax_dones, .int x_away, .int x_bestSet, .ref ax_aside, .ref ax_tapedWho, .ref ax_tapedTill, .int x_taped, .ref ax_kept, .int x_keeps])), (ax_row, .inl (cyI, 28, .inl x_row)), (ax_order, .inl (cyI, 8, .inl x_order)), (ax_dones, .inl (cyI, 8, .inl x_dones))] → va_S A s.heap H locs → lv_has ls 6 [(0, .ref ax), (1, .int i1), (2, .int i2), (3, .int (x_order i2.toNatClampNeg))] → (Option.bind (S_X7_there (x_order i2.toNatClampNeg) i1 x_row) (fun r65 =>
(Option.bind (S_X7_inRow (x_order i2.toNatClampNeg) x_away x_row) (fun r74 =>
(jn (fun (s0_85 : Int32) => (Option.bind (S_X7_kind (x_order i2.toNatClampNeg) x_row) (fun r89 =>
(jn ((Option.bind (S_X7_there (x_order i2.toNatClampNeg) i1 x_row) (fun r121 =>
(if (x_order i2.toNatClampNeg) < 0 ∨ 8 ≤ (x_order i2.toNatClampNeg).toNatClampNeg then none else
((S_X7_opens_L13 x_order x_row n13) r121 (i2 + (1 : Int32)) (x_away ||| ((1 : Int32) <<< ((x_order i2.toNatClampNeg) &&& 31))) (upd x_dones (x_order i2.toNatClampNeg).toNatClampNeg r121)))))) (fun J118 =>
(if r89 = (1 : Int32) then
(if s0_60 = 0 then
((S_X7_opens_L13 x_order x_row n13) i1 (i2 + (1 : Int32)) x_away x_dones) else
J118) else
(Option.bind (S_X7_kind (x_order i2.toNatClampNeg) x_row) (fun r106 =>
(if r106 ≤ (1 : Int32) then
((S_X7_opens_L13 x_order x_row n13) i1 (i2 + (1 : Int32)) x_away x_dones) else
(if s0_85 = 0 then
((S_X7_opens_L13 x_order x_row n13) i1 (i2 + (1 : Int32)) x_away x_dones) else
J118)))))))))) (fun J85 =>
(if r74 ≤ r65 then
(J85 (0 : Int32)) else
(J85 (1 : Int32))))))))) = some (o_x_away, o_x_order, o_x_dones) → W p l e rX7_opens s m (([.ref ax] : List Value).toArray) below meth c H locs 0 0 (MQ below (CQv D [(ax, .inr (7, [.ref ax_row, .ref ax_text, .int x_letters, .int x_at, .ref ax_read, .ref ax_undone, .int x_undos, .ref ax_order, .ref ax_dones, .int o_x_away, .int x_bestSet, .ref ax_aside, .ref ax_tapedWho, .ref ax_tapedTill, .int x_taped, .ref ax_kept, .int x_keeps])), (ax_row, .inl (cyI, 28, .inl x_row)), (ax_order, .inl (cyI, 8, .inl o_x_order)), (ax_dones, .inl (cyI, 8, .inl o_x_dones))] A) (([.ref ax] : List Value).toArray) s 0 0 A) (F0 m 60 ls [.int s0_60]) := by
          intro s0_60 H locs ls hP hD hS hl hf
          refine lv_istore (lv' := [(4, .int s0_60), (0, .ref ax), (1, .int i1), (2, .int i2), (3, .int (x_order i2.toNatClampNeg))]) hx hb dX7_opens_60 hl (by decide) rfl (fun ls hl => ?_)
          refine lv_aload_n hx hb dX7_opens_62 rfl (lv_at hl 1 rfl) ?_
          refine lv_iload_n hx hb dX7_opens_63 rfl (lv_at hl 4 rfl) ?_
          refine lv_iload_n hx hb dX7_opens_64 rfl (lv_at hl 2 rfl) ?_
          obtain ⟨r65, q65, hf⟩ := ob hf
          refine k_i (wc := [(ax, .inr (7, [.ref ax_row, .ref ax_text, .int x_letters, .int x_at, .ref ax_read, .ref ax_undone, .int x_undos, .ref ax_order, .ref ax_dones, .int x_away, .int x_bestSet, .ref ax_aside, .ref ax_tapedWho, .ref ax_tapedTill, .int x_taped, .ref ax_kept, .int x_keeps])), (ax_row, .inl (cyI, 28, .inl x_row))]) (wr := [(ax_order, .inl (cyI, 8, .inl x_order)), (ax_dones, .inl (cyI, 8, .inl x_dones))]) (w1 := [(ax, .inr (7, [.ref ax_row, .ref ax_text, .int x_letters, .int x_at, .ref ax_read, .ref ax_undone, .int x_undos, .ref ax_order, .ref ax_dones, .int x_away, .int x_bestSet, .ref ax_aside, .ref ax_tapedWho, .ref ax_tapedTill, .int x_taped, .ref ax_kept, .int x_keeps])), (ax_row, .inl (cyI, 28, .inl x_row))]) (wn := [(ax, .inr (7, [.ref ax_row, .ref ax_text, .int x_letters, .int x_at, .ref ax_read, .ref ax_undone, .int x_undos, .ref ax_order, .ref ax_dones, .int x_away, .int x_bestSet, .ref ax_aside, .ref ax_tapedWho, .ref ax_tapedTill, .int x_taped, .ref ax_kept, .int x_keeps])), (ax_row, .inl (cyI, 28, .inl x_row)), (ax_order, .inl (cyI, 8, .inl x_order)), (ax_dones, .inl (cyI, 8, .inl x_dones))]) (va_runV (As := [.int (x_order i2.toNatClampNeg), .int i1]) (rest := []) ⟨hx, hb, hml, hown, hts⟩ (c_X7_there l D cyI cyC cyS H.size ax ax_row ax_text ax_read ax_undone ax_order ax_dones ax_aside ax_tapedWho ax_tapedTill ax_kept x_letters x_at x_undos x_away x_bestSet x_taped x_keeps x_row (x_order i2.toNatClampNeg) i1 q65) (cwV 2 hts gX7_opens_X7_there rfl rfl rfl (by decide +kernel) ⟨Nat.le_of_ble_eq_true rfl, Nat.le_of_ble_eq_true rfl⟩) (preV (ci := 7) hK (hP.subm (ws' := [(ax, .inr (7, [.ref ax_row, .ref ax_text, .int x_letters, .int x_at, .ref ax_read, .ref ax_undone, .int x_undos, .ref ax_order, .ref ax_dones, .int x_away, .int x_bestSet, .ref ax_aside, .ref ax_tapedWho, .ref ax_tapedTill, .int x_taped, .ref ax_kept, .int x_keeps])), (ax_row, .inl (cyI, 28, .inl x_row))]) [0, 1] rfl) (hD.sub (ws' := [(ax, .inr (7, [.ref ax_row, .ref ax_text, .int x_letters, .int x_at, .ref ax_read, .ref ax_undone, .int x_undos, .ref ax_order, .ref ax_dones, .int x_away, .int x_bestSet, .ref ax_aside, .ref ax_tapedWho, .ref ax_tapedTill, .int x_taped, .ref ax_kept, .int x_keeps])), (ax_row, .inl (cyI, 28, .inl x_row))]) [0, 1] (by decide) rfl) rfl rfl) rfl rfl hl.1 rfl (lv_room (Nat.le_of_ble_eq_true rfl)) dX7_opens_65 ⟨Nat.le_of_ble_eq_true rfl, Nat.le_of_ble_eq_true rfl⟩) hP hD hS hA [0, 1] [2, 3] [2, 3, 0, 1] rfl rfl rfl (by decide) (by decide) (by decide) (fun H locs hP hD hS => ?_)
          refine lv_aload_n hx hb dX7_opens_68 rfl (lv_at hl 1 rfl) ?_
          refine lv_iload_n hx hb dX7_opens_69 rfl (lv_at hl 4 rfl) ?_
          refine lv_aload_n hx hb dX7_opens_70 rfl (lv_at hl 1 rfl) ?_
          refine va_get (C := RX7) (T := TX7) (N := 17) hx hb hts inX7 hown hK.1 hP 0 rfl rfl 9 (by decide) f119 (fun _ h9 => h9) rfl dX7_opens_71 ?_
          obtain ⟨r74, q74, hf⟩ := ob hf
          refine k_i (wc := [(ax, .inr (7, [.ref ax_row, .ref ax_text, .int x_letters, .int x_at, .ref ax_read, .ref ax_undone, .int x_undos, .ref ax_order, .ref ax_dones, .int x_away, .int x_bestSet, .ref ax_aside, .ref ax_tapedWho, .ref ax_tapedTill, .int x_taped, .ref ax_kept, .int x_keeps])), (ax_row, .inl (cyI, 28, .inl x_row))]) (wr := [(ax_order, .inl (cyI, 8, .inl x_order)), (ax_dones, .inl (cyI, 8, .inl x_dones))]) (w1 := [(ax, .inr (7, [.ref ax_row, .ref ax_text, .int x_letters, .int x_at, .ref ax_read, .ref ax_undone, .int x_undos, .ref ax_order, .ref ax_dones, .int x_away, .int x_bestSet, .ref ax_aside, .ref ax_tapedWho, .ref ax_tapedTill, .int x_taped, .ref ax_kept, .int x_keeps])), (ax_row, .inl (cyI, 28, .inl x_row))]) (wn := [(ax, .inr (7, [.ref ax_row, .ref ax_text, .int x_letters, .int x_at, .ref ax_read, .ref ax_undone, .int x_undos, .ref ax_order, .ref ax_dones, .int x_away, .int x_bestSet, .ref ax_aside, .ref ax_tapedWho, .ref ax_tapedTill, .int x_taped, .ref ax_kept, .int x_keeps])), (ax_row, .inl (cyI, 28, .inl x_row)), (ax_order, .inl (cyI, 8, .inl x_order)), (ax_dones, .inl (cyI, 8, .inl x_dones))]) (va_runV (As := [.int (x_order i2.toNatClampNeg), .int x_away]) (rest := [.int r65]) ⟨hx, hb, hml, hown, hts⟩ (c_X7_inRow l D cyI cyC cyS H.size ax ax_row ax_text ax_read ax_undone ax_order ax_dones ax_aside ax_tapedWho ax_tapedTill ax_kept x_letters x_at x_undos x_away x_bestSet x_taped x_keeps x_row (x_order i2.toNatClampNeg) x_away q74) (cwV 2 hts gX7_opens_X7_inRow rfl rfl rfl (by decide +kernel) ⟨Nat.le_of_ble_eq_true rfl, Nat.le_of_ble_eq_true rfl⟩) (preV (ci := 7) hK (hP.subm (ws' := [(ax, .inr (7, [.ref ax_row, .ref ax_text, .int x_letters, .int x_at, .ref ax_read, .ref ax_undone, .int x_undos, .ref ax_order, .ref ax_dones, .int x_away, .int x_bestSet, .ref ax_aside, .ref ax_tapedWho, .ref ax_tapedTill, .int x_taped, .ref ax_kept, .int x_keeps])), (ax_row, .inl (cyI, 28, .inl x_row))]) [0, 1] rfl) (hD.sub (ws' := [(ax, .inr (7, [.ref ax_row, .ref ax_text, .int x_letters, .int x_at, .ref ax_read, .ref ax_undone, .int x_undos, .ref ax_order, .ref ax_dones, .int x_away, .int x_bestSet, .ref ax_aside, .ref ax_tapedWho, .ref ax_tapedTill, .int x_taped, .ref ax_kept, .int x_keeps])), (ax_row, .inl (cyI, 28, .inl x_row))]) [0, 1] (by decide) rfl) rfl rfl) rfl rfl hl.1 rfl (lv_room (Nat.le_of_ble_eq_true rfl)) dX7_opens_74 ⟨Nat.le_of_ble_eq_true rfl, Nat.le_of_ble_eq_true rfl⟩) hP hD hS hA [0, 1] [2, 3] [2, 3, 0, 1] rfl rfl rfl (by decide) (by decide) (by decide) (fun H locs hP hD hS => ?_)
          have hJ85 : ∀ (s0_85 : Int32) (H : Heap) (locs : List Loc) (ls : Array Slot), va_P D vwCl [(ax, .inr (7, [.ref ax_row, .ref ax_text, .int x_letters, .int x_at, .ref ax_read, .ref ax_undone, .int x_undos, .ref ax_order, .ref ax_dones, .int x_away, .int x_bestSet, .ref ax_aside, .ref ax_tapedWho, .ref ax_tapedTill, .int x_taped, .ref ax_kept, .int x_keeps])), (ax_row, .inl (cyI, 28, .inl x_row)), (ax_order, .inl (cyI, 8, .inl x_order)), (ax_dones, .inl (cyI, 8, .inl x_dones))] H → va_D A [(ax, .inr (7, [.ref ax_row, .ref ax_text, .int x_letters, .int x_at, .ref ax_read, .ref ax_undone, .int x_undos, .ref ax_order, .ref ax_dones, .int x_away, .int x_bestSet, .ref ax_aside, .ref ax_tapedWho, .ref ax_tapedTill, .int x_taped, .ref ax_kept, .int x_keeps])), (ax_row, .inl (cyI, 28, .inl x_row)), (ax_order, .inl (cyI, 8, .inl x_order)), (ax_dones, .inl (cyI, 8, .inl x_dones))] → va_S A s.heap H locs → lv_has ls 6 [(0, .ref ax), (1, .int i1), (2, .int i2), (3, .int (x_order i2.toNatClampNeg)), (4, .int s0_60)] → (Option.bind (S_X7_kind (x_order i2.toNatClampNeg) x_row) (fun r89 =>
(jn ((Option.bind (S_X7_there (x_order i2.toNatClampNeg) i1 x_row) (fun r121 =>
(if (x_order i2.toNatClampNeg) < 0 ∨ 8 ≤ (x_order i2.toNatClampNeg).toNatClampNeg then none else
((S_X7_opens_L13 x_order x_row n13) r121 (i2 + (1 : Int32)) (x_away ||| ((1 : Int32) <<< ((x_order i2.toNatClampNeg) &&& 31))) (upd x_dones (x_order i2.toNatClampNeg).toNatClampNeg r121)))))) (fun J118 =>
(if r89 = (1 : Int32) then
(if s0_60 = 0 then
((S_X7_opens_L13 x_order x_row n13) i1 (i2 + (1 : Int32)) x_away x_dones) else
J118) else
(Option.bind (S_X7_kind (x_order i2.toNatClampNeg) x_row) (fun r106 =>
(if r106 ≤ (1 : Int32) then
((S_X7_opens_L13 x_order x_row n13) i1 (i2 + (1 : Int32)) x_away x_dones) else
(if s0_85 = 0 then
((S_X7_opens_L13 x_order x_row n13) i1 (i2 + (1 : Int32)) x_away x_dones) else
J118))))))))) = some (o_x_away, o_x_order, o_x_dones) → W p l e rX7_opens s m (([.ref ax] : List Value).toArray) below meth c H locs 0 0 (MQ below (CQv D [(ax, .inr (7, [.ref ax_row, .ref ax_text, .int x_letters, .int x_at, .ref ax_read, .ref ax_undone, .int x_undos, .ref ax_order, .ref ax_dones, .int o_x_away, .int x_bestSet, .ref ax_aside, .ref ax_tapedWho, .ref ax_tapedTill, .int x_taped, .ref ax_kept, .int x_keeps])), (ax_row, .inl (cyI, 28, .inl x_row)), (ax_order, .inl (cyI, 8, .inl o_x_order)), (ax_dones, .inl (cyI, 8, .inl o_x_dones))] A) (([.ref ax] : List Value).toArray) s 0 0 A) (F0 m 85 ls [.int s0_85]) := by
            intro s0_85 H locs ls hP hD hS hl hf
            refine lv_istore (lv' := [(5, .int s0_85), (0, .ref ax), (1, .int i1), (2, .int i2), (3, .int (x_order i2.toNatClampNeg)), (4, .int s0_60)]) hx hb dX7_opens_85 hl (by decide) rfl (fun ls hl => ?_)
            refine lv_aload_n hx hb dX7_opens_87 rfl (lv_at hl 1 rfl) ?_
            refine lv_iload_n hx hb dX7_opens_88 rfl (lv_at hl 4 rfl) ?_
            obtain ⟨r89, q89, hf⟩ := ob hf
            refine k_i (wc := [(ax, .inr (7, [.ref ax_row, .ref ax_text, .int x_letters, .int x_at, .ref ax_read, .ref ax_undone, .int x_undos, .ref ax_order, .ref ax_dones, .int x_away, .int x_bestSet, .ref ax_aside, .ref ax_tapedWho, .ref ax_tapedTill, .int x_taped, .ref ax_kept, .int x_keeps])), (ax_row, .inl (cyI, 28, .inl x_row))]) (wr := [(ax_order, .inl (cyI, 8, .inl x_order)), (ax_dones, .inl (cyI, 8, .inl x_dones))]) (w1 := [(ax, .inr (7, [.ref ax_row, .ref ax_text, .int x_letters, .int x_at, .ref ax_read, .ref ax_undone, .int x_undos, .ref ax_order, .ref ax_dones, .int x_away, .int x_bestSet, .ref ax_aside, .ref ax_tapedWho, .ref ax_tapedTill, .int x_taped, .ref ax_kept, .int x_keeps])), (ax_row, .inl (cyI, 28, .inl x_row))]) (wn := [(ax, .inr (7, [.ref ax_row, .ref ax_text, .int x_letters, .int x_at, .ref ax_read, .ref ax_undone, .int x_undos, .ref ax_order, .ref ax_dones, .int x_away, .int x_bestSet, .ref ax_aside, .ref ax_tapedWho, .ref ax_tapedTill, .int x_taped, .ref ax_kept, .int x_keeps])), (ax_row, .inl (cyI, 28, .inl x_row)), (ax_order, .inl (cyI, 8, .inl x_order)), (ax_dones, .inl (cyI, 8, .inl x_dones))]) (va_runV (As := [.int (x_order i2.toNatClampNeg)]) (rest := []) ⟨hx, hb, hml, hown, hts⟩ (c_X7_kind l D cyI cyC cyS H.size ax ax_row ax_text ax_read ax_undone ax_order ax_dones ax_aside ax_tapedWho ax_tapedTill ax_kept x_letters x_at x_undos x_away x_bestSet x_taped x_keeps x_row (x_order i2.toNatClampNeg) q89) (cwV 1 hts gX7_opens_X7_kind rfl rfl rfl (by decide +kernel) ⟨Nat.le_of_ble_eq_true rfl, Nat.le_of_ble_eq_true rfl⟩) (preV (ci := 7) hK (hP.subm (ws' := [(ax, .inr (7, [.ref ax_row, .ref ax_text, .int x_letters, .int x_at, .ref ax_read, .ref ax_undone, .int x_undos, .ref ax_order, .ref ax_dones, .int x_away, .int x_bestSet, .ref ax_aside, .ref ax_tapedWho, .ref ax_tapedTill, .int x_taped, .ref ax_kept, .int x_keeps])), (ax_row, .inl (cyI, 28, .inl x_row))]) [0, 1] rfl) (hD.sub (ws' := [(ax, .inr (7, [.ref ax_row, .ref ax_text, .int x_letters, .int x_at, .ref ax_read, .ref ax_undone, .int x_undos, .ref ax_order, .ref ax_dones, .int x_away, .int x_bestSet, .ref ax_aside, .ref ax_tapedWho, .ref ax_tapedTill, .int x_taped, .ref ax_kept, .int x_keeps])), (ax_row, .inl (cyI, 28, .inl x_row))]) [0, 1] (by decide) rfl) rfl rfl) rfl rfl hl.1 rfl (lv_room (Nat.le_of_ble_eq_true rfl)) dX7_opens_89 ⟨Nat.le_of_ble_eq_true rfl, Nat.le_of_ble_eq_true rfl⟩) hP hD hS hA [0, 1] [2, 3] [2, 3, 0, 1] rfl rfl rfl (by decide) (by decide) (by decide) (fun H locs hP hD hS => ?_)
            refine lv_iconst (v := 1) hx hb dX7_opens_92 (by decide) ?_
            have hJ118 : ∀ (H : Heap) (locs : List Loc) (ls : Array Slot), va_P D vwCl [(ax, .inr (7, [.ref ax_row, .ref ax_text, .int x_letters, .int x_at, .ref ax_read, .ref ax_undone, .int x_undos, .ref ax_order, .ref ax_dones, .int x_away, .int x_bestSet, .ref ax_aside, .ref ax_tapedWho, .ref ax_tapedTill, .int x_taped, .ref ax_kept, .int x_keeps])), (ax_row, .inl (cyI, 28, .inl x_row)), (ax_order, .inl (cyI, 8, .inl x_order)), (ax_dones, .inl (cyI, 8, .inl x_dones))] H → va_D A [(ax, .inr (7, [.ref ax_row, .ref ax_text, .int x_letters, .int x_at, .ref ax_read, .ref ax_undone, .int x_undos, .ref ax_order, .ref ax_dones, .int x_away, .int x_bestSet, .ref ax_aside, .ref ax_tapedWho, .ref ax_tapedTill, .int x_taped, .ref ax_kept, .int x_keeps])), (ax_row, .inl (cyI, 28, .inl x_row)), (ax_order, .inl (cyI, 8, .inl x_order)), (ax_dones, .inl (cyI, 8, .inl x_dones))] → va_S A s.heap H locs → lv_has ls 6 [(0, .ref ax), (1, .int i1), (2, .int i2), (3, .int (x_order i2.toNatClampNeg))] → (Option.bind (S_X7_there (x_order i2.toNatClampNeg) i1 x_row) (fun r121 =>
(if (x_order i2.toNatClampNeg) < 0 ∨ 8 ≤ (x_order i2.toNatClampNeg).toNatClampNeg then none else
((S_X7_opens_L13 x_order x_row n13) r121 (i2 + (1 : Int32)) (x_away ||| ((1 : Int32) <<< ((x_order i2.toNatClampNeg) &&& 31))) (upd x_dones (x_order i2.toNatClampNeg).toNatClampNeg r121))))) = some (o_x_away, o_x_order, o_x_dones) → W p l e rX7_opens s m (([.ref ax] : List Value).toArray) below meth c H locs 0 0 (MQ below (CQv D [(ax, .inr (7, [.ref ax_row, .ref ax_text, .int x_letters, .int x_at, .ref ax_read, .ref ax_undone, .int x_undos, .ref ax_order, .ref ax_dones, .int o_x_away, .int x_bestSet, .ref ax_aside, .ref ax_tapedWho, .ref ax_tapedTill, .int x_taped, .ref ax_kept, .int x_keeps])), (ax_row, .inl (cyI, 28, .inl x_row)), (ax_order, .inl (cyI, 8, .inl o_x_order)), (ax_dones, .inl (cyI, 8, .inl o_x_dones))] A) (([.ref ax] : List Value).toArray) s 0 0 A) (F0 m 118 ls []) := by
              intro  H locs ls hP hD hS hl hf
              refine lv_aload_n hx hb dX7_opens_118 rfl (lv_at hl 0 rfl) ?_
              refine lv_iload_n hx hb dX7_opens_119 rfl (lv_at hl 3 rfl) ?_
              refine lv_iload_n hx hb dX7_opens_120 rfl (lv_at hl 1 rfl) ?_
              obtain ⟨r121, q121, hf⟩ := ob hf
              refine k_i (wc := [(ax, .inr (7, [.ref ax_row, .ref ax_text, .int x_letters, .int x_at, .ref ax_read, .ref ax_undone, .int x_undos, .ref ax_order, .ref ax_dones, .int x_away, .int x_bestSet, .ref ax_aside, .ref ax_tapedWho, .ref ax_tapedTill, .int x_taped, .ref ax_kept, .int x_keeps])), (ax_row, .inl (cyI, 28, .inl x_row))]) (wr := [(ax_order, .inl (cyI, 8, .inl x_order)), (ax_dones, .inl (cyI, 8, .inl x_dones))]) (w1 := [(ax, .inr (7, [.ref ax_row, .ref ax_text, .int x_letters, .int x_at, .ref ax_read, .ref ax_undone, .int x_undos, .ref ax_order, .ref ax_dones, .int x_away, .int x_bestSet, .ref ax_aside, .ref ax_tapedWho, .ref ax_tapedTill, .int x_taped, .ref ax_kept, .int x_keeps])), (ax_row, .inl (cyI, 28, .inl x_row))]) (wn := [(ax, .inr (7, [.ref ax_row, .ref ax_text, .int x_letters, .int x_at, .ref ax_read, .ref ax_undone, .int x_undos, .ref ax_order, .ref ax_dones, .int x_away, .int x_bestSet, .ref ax_aside, .ref ax_tapedWho, .ref ax_tapedTill, .int x_taped, .ref ax_kept, .int x_keeps])), (ax_row, .inl (cyI, 28, .inl x_row)), (ax_order, .inl (cyI, 8, .inl x_order)), (ax_dones, .inl (cyI, 8, .inl x_dones))]) (va_runV (As := [.int (x_order i2.toNatClampNeg), .int i1]) (rest := []) ⟨hx, hb, hml, hown, hts⟩ (c_X7_there l D cyI cyC cyS H.size ax ax_row ax_text ax_read ax_undone ax_order ax_dones ax_aside ax_tapedWho ax_tapedTill ax_kept x_letters x_at x_undos x_away x_bestSet x_taped x_keeps x_row (x_order i2.toNatClampNeg) i1 q121) (cwV 2 hts gX7_opens_X7_there rfl rfl rfl (by decide +kernel) ⟨Nat.le_of_ble_eq_true rfl, Nat.le_of_ble_eq_true rfl⟩) (preV (ci := 7) hK (hP.subm (ws' := [(ax, .inr (7, [.ref ax_row, .ref ax_text, .int x_letters, .int x_at, .ref ax_read, .ref ax_undone, .int x_undos, .ref ax_order, .ref ax_dones, .int x_away, .int x_bestSet, .ref ax_aside, .ref ax_tapedWho, .ref ax_tapedTill, .int x_taped, .ref ax_kept, .int x_keeps])), (ax_row, .inl (cyI, 28, .inl x_row))]) [0, 1] rfl) (hD.sub (ws' := [(ax, .inr (7, [.ref ax_row, .ref ax_text, .int x_letters, .int x_at, .ref ax_read, .ref ax_undone, .int x_undos, .ref ax_order, .ref ax_dones, .int x_away, .int x_bestSet, .ref ax_aside, .ref ax_tapedWho, .ref ax_tapedTill, .int x_taped, .ref ax_kept, .int x_keeps])), (ax_row, .inl (cyI, 28, .inl x_row))]) [0, 1] (by decide) rfl) rfl rfl) rfl rfl hl.1 rfl (lv_room (Nat.le_of_ble_eq_true rfl)) dX7_opens_121 ⟨Nat.le_of_ble_eq_true rfl, Nat.le_of_ble_eq_true rfl⟩) hP hD hS hA [0, 1] [2, 3] [2, 3, 0, 1] rfl rfl rfl (by decide) (by decide) (by decide) (fun H locs hP hD hS => ?_)
              refine lv_istore_n (lv' := [(1, .int r121), (0, .ref ax), (2, .int i2), (3, .int (x_order i2.toNatClampNeg))]) hx hb dX7_opens_124 rfl hl (by decide) rfl (fun ls hl => ?_)
              refine lv_aload_n hx hb dX7_opens_125 rfl (lv_at hl 1 rfl) ?_
              refine va_get (C := RX7) (T := TX7) (N := 17) hx hb hts inX7 hown hK.1 hP 0 rfl rfl 8 (by decide) f25 (fun _ h9 => h9) rfl dX7_opens_126 ?_
              refine lv_iload_n hx hb dX7_opens_129 rfl (lv_at hl 3 rfl) ?_
              refine lv_iload_n hx hb dX7_opens_130 rfl (lv_at hl 0 rfl) ?_
              obtain ⟨z131, hf⟩ := oi hf
              refine a_ist (wn := [(ax, .inr (7, [.ref ax_row, .ref ax_text, .int x_letters, .int x_at, .ref ax_read, .ref ax_undone, .int x_undos, .ref ax_order, .ref ax_dones, .int x_away, .int x_bestSet, .ref ax_aside, .ref ax_tapedWho, .ref ax_tapedTill, .int x_taped, .ref ax_kept, .int x_keeps])), (ax_row, .inl (cyI, 28, .inl x_row)), (ax_order, .inl (cyI, 8, .inl x_order)), (ax_dones, .inl (cyI, 8, .inl (upd x_dones (x_order i2.toNatClampNeg).toNatClampNeg r121)))]) hx hb hK hP hD hS 3 rfl z131 (x_order i2.toNatClampNeg).toNatClampNeg rfl rfl dX7_opens_131 (fun H locs hP hD hS => ?_)
              refine lv_aload_n hx hb dX7_opens_132 rfl (lv_at hl 1 rfl) ?_
              refine lv_dup hx hb dX7_opens_133 rfl ?_
              refine va_get (C := RX7) (T := TX7) (N := 17) hx hb hts inX7 hown hK.1 hP 0 rfl rfl 9 (by decide) f119 (fun _ h9 => h9) rfl dX7_opens_134 ?_
              refine lv_iconst (v := 1) hx hb dX7_opens_137 (by decide) ?_
              refine lv_iload_n hx hb dX7_opens_138 rfl (lv_at hl 3 rfl) ?_
              refine lv_ishl hx hb dX7_opens_139 ?_
              refine lv_ior hx hb dX7_opens_140 ?_
              refine a_put (C := RX7) (T := TX7) (N := 17) (wn := [(ax, .inr (7, [.ref ax_row, .ref ax_text, .int x_letters, .int x_at, .ref ax_read, .ref ax_undone, .int x_undos, .ref ax_order, .ref ax_dones, .int (x_away ||| ((1 : Int32) <<< ((x_order i2.toNatClampNeg) &&& 31))), .int x_bestSet, .ref ax_aside, .ref ax_tapedWho, .ref ax_tapedTill, .int x_taped, .ref ax_kept, .int x_keeps])), (ax_row, .inl (cyI, 28, .inl x_row)), (ax_order, .inl (cyI, 8, .inl x_order)), (ax_dones, .inl (cyI, 8, .inl (upd x_dones (x_order i2.toNatClampNeg).toNatClampNeg r121)))]) hx hb hts inX7 tyX7 tyX7_ok nmX7 hown hK hP hD hS 0 rfl rfl 9 (by decide) f119 (fun _ h9 => h9) rfl rfl (Nat.le_of_ble_eq_true rfl) rfl dX7_opens_141 (fun H locs hP hD hS => ?_)
              refine lv_iinc (v := i2 + (1 : Int32)) (lv' := [(2, .int (i2 + (1 : Int32))), (1, .int r121), (0, .ref ax), (3, .int (x_order i2.toNatClampNeg))]) hx hb dX7_opens_144 hl (k := 2) rfl rfl (by decide) rfl (fun ls hl => ?_)
              refine lv_goto (tgt := 13) hx hb dX7_opens_147 (by decide) ?_
              exact ih13 x_order r121 (i2 + (1 : Int32)) (x_away ||| ((1 : Int32) <<< ((x_order i2.toNatClampNeg) &&& 31))) (upd x_dones (x_order i2.toNatClampNeg).toNatClampNeg r121) _ _ _ hP hD hS (lv_sub hl [2, 1, 0] rfl) hf
            replace hf := jn_h hf
            refine lv_icmp_ne (tgt := 104) hx hb dX7_opens_93 (by decide) (fun c93 => ?_) (fun c93 => ?_)
            · replace hf := iq c93 hf
              refine lv_aload_n hx hb dX7_opens_104 rfl (lv_at hl 1 rfl) ?_
              refine lv_iload_n hx hb dX7_opens_105 rfl (lv_at hl 4 rfl) ?_
              obtain ⟨r106, q106, hf⟩ := ob hf
              refine k_i (wc := [(ax, .inr (7, [.ref ax_row, .ref ax_text, .int x_letters, .int x_at, .ref ax_read, .ref ax_undone, .int x_undos, .ref ax_order, .ref ax_dones, .int x_away, .int x_bestSet, .ref ax_aside, .ref ax_tapedWho, .ref ax_tapedTill, .int x_taped, .ref ax_kept, .int x_keeps])), (ax_row, .inl (cyI, 28, .inl x_row))]) (wr := [(ax_order, .inl (cyI, 8, .inl x_order)), (ax_dones, .inl (cyI, 8, .inl x_dones))]) (w1 := [(ax, .inr (7, [.ref ax_row, .ref ax_text, .int x_letters, .int x_at, .ref ax_read, .ref ax_undone, .int x_undos, .ref ax_order, .ref ax_dones, .int x_away, .int x_bestSet, .ref ax_aside, .ref ax_tapedWho, .ref ax_tapedTill, .int x_taped, .ref ax_kept, .int x_keeps])), (ax_row, .inl (cyI, 28, .inl x_row))]) (wn := [(ax, .inr (7, [.ref ax_row, .ref ax_text, .int x_letters, .int x_at, .ref ax_read, .ref ax_undone, .int x_undos, .ref ax_order, .ref ax_dones, .int x_away, .int x_bestSet, .ref ax_aside, .ref ax_tapedWho, .ref ax_tapedTill, .int x_taped, .ref ax_kept, .int x_keeps])), (ax_row, .inl (cyI, 28, .inl x_row)), (ax_order, .inl (cyI, 8, .inl x_order)), (ax_dones, .inl (cyI, 8, .inl x_dones))]) (va_runV (As := [.int (x_order i2.toNatClampNeg)]) (rest := []) ⟨hx, hb, hml, hown, hts⟩ (c_X7_kind l D cyI cyC cyS H.size ax ax_row ax_text ax_read ax_undone ax_order ax_dones ax_aside ax_tapedWho ax_tapedTill ax_kept x_letters x_at x_undos x_away x_bestSet x_taped x_keeps x_row (x_order i2.toNatClampNeg) q106) (cwV 1 hts gX7_opens_X7_kind rfl rfl rfl (by decide +kernel) ⟨Nat.le_of_ble_eq_true rfl, Nat.le_of_ble_eq_true rfl⟩) (preV (ci := 7) hK (hP.subm (ws' := [(ax, .inr (7, [.ref ax_row, .ref ax_text, .int x_letters, .int x_at, .ref ax_read, .ref ax_undone, .int x_undos, .ref ax_order, .ref ax_dones, .int x_away, .int x_bestSet, .ref ax_aside, .ref ax_tapedWho, .ref ax_tapedTill, .int x_taped, .ref ax_kept, .int x_keeps])), (ax_row, .inl (cyI, 28, .inl x_row))]) [0, 1] rfl) (hD.sub (ws' := [(ax, .inr (7, [.ref ax_row, .ref ax_text, .int x_letters, .int x_at, .ref ax_read, .ref ax_undone, .int x_undos, .ref ax_order, .ref ax_dones, .int x_away, .int x_bestSet, .ref ax_aside, .ref ax_tapedWho, .ref ax_tapedTill, .int x_taped, .ref ax_kept, .int x_keeps])), (ax_row, .inl (cyI, 28, .inl x_row))]) [0, 1] (by decide) rfl) rfl rfl) rfl rfl hl.1 rfl (lv_room (Nat.le_of_ble_eq_true rfl)) dX7_opens_106 ⟨Nat.le_of_ble_eq_true rfl, Nat.le_of_ble_eq_true rfl⟩) hP hD hS hA [0, 1] [2, 3] [2, 3, 0, 1] rfl rfl rfl (by decide) (by decide) (by decide) (fun H locs hP hD hS => ?_)
              refine lv_iconst (v := 1) hx hb dX7_opens_109 (by decide) ?_
              refine lv_icmp_le (tgt := 144) hx hb dX7_opens_110 (by decide) (fun c110 => ?_) (fun c110 => ?_)
              · replace hf := ip c110 hf
                refine lv_iinc (v := i2 + (1 : Int32)) (lv' := [(2, .int (i2 + (1 : Int32))), (5, .int s0_85), (0, .ref ax), (1, .int i1), (3, .int (x_order i2.toNatClampNeg)), (4, .int s0_60)]) hx hb dX7_opens_144 hl (k := 3) rfl rfl (by decide) rfl (fun ls hl => ?_)
                refine lv_goto (tgt := 13) hx hb dX7_opens_147 (by decide) ?_
                exact ih13 x_order i1 (i2 + (1 : Int32)) x_away x_dones _ _ _ hP hD hS (lv_sub hl [2, 3, 0] rfl) hf
              · replace hf := iq c110 hf
                refine lv_iload hx hb dX7_opens_113 (lv_at hl 0 rfl) ?_
                refine lv_if_eq (tgt := 144) hx hb dX7_opens_115 (by decide) (fun c115 => ?_) (fun c115 => ?_)
                · replace hf := ip c115 hf
                  refine lv_iinc (v := i2 + (1 : Int32)) (lv' := [(2, .int (i2 + (1 : Int32))), (5, .int s0_85), (0, .ref ax), (1, .int i1), (3, .int (x_order i2.toNatClampNeg)), (4, .int s0_60)]) hx hb dX7_opens_144 hl (k := 3) rfl rfl (by decide) rfl (fun ls hl => ?_)
                  refine lv_goto (tgt := 13) hx hb dX7_opens_147 (by decide) ?_
                  exact ih13 x_order i1 (i2 + (1 : Int32)) x_away x_dones _ _ _ hP hD hS (lv_sub hl [2, 3, 0] rfl) hf
                · replace hf := iq c115 hf
                  exact hJ118 _ _ _ hP hD hS (lv_sub hl [1, 2, 3, 4] rfl) hf
            · replace hf := ip c93 hf
              refine lv_iload hx hb dX7_opens_96 (lv_at hl 5 rfl) ?_
              refine lv_if_eq (tgt := 144) hx hb dX7_opens_98 (by decide) (fun c98 => ?_) (fun c98 => ?_)
              · replace hf := ip c98 hf
                refine lv_iinc (v := i2 + (1 : Int32)) (lv' := [(2, .int (i2 + (1 : Int32))), (5, .int s0_85), (0, .ref ax), (1, .int i1), (3, .int (x_order i2.toNatClampNeg)), (4, .int s0_60)]) hx hb dX7_opens_144 hl (k := 3) rfl rfl (by decide) rfl (fun ls hl => ?_)
                refine lv_goto (tgt := 13) hx hb dX7_opens_147 (by decide) ?_
                exact ih13 x_order i1 (i2 + (1 : Int32)) x_away x_dones _ _ _ hP hD hS (lv_sub hl [2, 3, 0] rfl) hf
              · replace hf := iq c98 hf
                refine lv_goto (tgt := 118) hx hb dX7_opens_101 (by decide) ?_
                exact hJ118 _ _ _ hP hD hS (lv_sub hl [1, 2, 3, 4] rfl) hf
          replace hf := jn_h hf
          refine lv_icmp_ge (tgt := 84) hx hb dX7_opens_77 (by decide) (fun c77 => ?_) (fun c77 => ?_)
          · replace hf := ip c77 hf
            refine lv_iconst (v := 0) hx hb dX7_opens_84 (by decide) ?_
            exact hJ85 (0 : Int32) _ _ _ hP hD hS (lv_sub hl [1, 2, 3, 4, 0] rfl) hf
          · replace hf := iq c77 hf
            refine lv_iconst (v := 1) hx hb dX7_opens_80 (by decide) ?_
            refine lv_goto (tgt := 85) hx hb dX7_opens_81 (by decide) ?_
            exact hJ85 (1 : Int32) _ _ _ hP hD hS (lv_sub hl [1, 2, 3, 4, 0] rfl) hf
        replace hf := jn_h hf
        refine lv_icmp_le (tgt := 59) hx hb dX7_opens_52 (by decide) (fun c52 => ?_) (fun c52 => ?_)
        · replace hf := ip c52 hf
          refine lv_iconst (v := 0) hx hb dX7_opens_59 (by decide) ?_
          exact hJ60 (0 : Int32) _ _ _ hP hD hS (lv_sub hl [1, 2, 3, 0] rfl) hf
        · replace hf := iq c52 hf
          refine lv_iconst (v := 1) hx hb dX7_opens_55 (by decide) ?_
          refine lv_goto (tgt := 60) hx hb dX7_opens_56 (by decide) ?_
          exact hJ60 (1 : Int32) _ _ _ hP hD hS (lv_sub hl [1, 2, 3, 0] rfl) hf
  exact hL13 300 x_order_o1 (0 : Int32) (0 : Int32) (0 : Int32) x_dones _ _ _ hP hD hS (lv_sub hl [2, 1, 0] rfl) hf
abbrev rX7_sends : Room := { frames := 3, cells := 0, slots := 0, locals := 66 }
set_option maxHeartbeats 4000000 in
set_option maxRecDepth 100000 in
theorem c_X7_sends (l : Launch) (D : va_G) (cyI cyC cyS : ClassId) (sz : Nat) (ax : Nat) (ax_row : Nat) (ax_text : Nat) (ax_read : Nat) (ax_undone : Nat) (ax_order : Nat) (ax_dones : Nat) (ax_aside : Nat) (ax_tapedWho : Nat) (ax_tapedTill : Nat) (ax_kept : Nat) (x_letters : Int32) (x_at : Int32) (x_undos : Int32) (x_away : Int32) (x_bestSet : Int32) (x_taped : Int32) (x_keeps : Int32) (x_row : Nat → Int32) (x_order : Nat → Int32) (x_dones : Nat → Int32) (i1 : Int32) {o_x_away : Int32} {o_x_order : Nat → Int32} {o_x_dones : Nat → Int32} (hf : S_X7_sends i1 x_row x_order x_dones = some (o_x_away, o_x_order, o_x_dones)) : Met l yX7_sends wsX7_sends rX7_sends (Cpre [.ref ax, .int i1] D cyI cyC cyS sz [(ax, .inr (7, [.ref ax_row, .ref ax_text, .int x_letters, .int x_at, .ref ax_read, .ref ax_undone, .int x_undos, .ref ax_order, .ref ax_dones, .int x_away, .int x_bestSet, .ref ax_aside, .ref ax_tapedWho, .ref ax_tapedTill, .int x_taped, .ref ax_kept, .int x_keeps])), (ax_row, .inl (cyI, 28, .inl x_row)), (ax_order, .inl (cyI, 8, .inl x_order)), (ax_dones, .inl (cyI, 8, .inl x_dones))]) (CQv D [(ax, .inr (7, [.ref ax_row, .ref ax_text, .int x_letters, .int x_at, .ref ax_read, .ref ax_undone, .int x_undos, .ref ax_order, .ref ax_dones, .int o_x_away, .int x_bestSet, .ref ax_aside, .ref ax_tapedWho, .ref ax_tapedTill, .int x_taped, .ref ax_kept, .int x_keeps])), (ax_row, .inl (cyI, 28, .inl x_row)), (ax_order, .inl (cyI, 8, .inl o_x_order)), (ax_dones, .inl (cyI, 8, .inl o_x_dones))] (va_A [(ax, .inr (7, [.ref ax_row, .ref ax_text, .int x_letters, .int x_at, .ref ax_read, .ref ax_undone, .int x_undos, .ref ax_order, .ref ax_dones, .int x_away, .int x_bestSet, .ref ax_aside, .ref ax_tapedWho, .ref ax_tapedTill, .int x_taped, .ref ax_kept, .int x_keeps])), (ax_row, .inl (cyI, 28, .inl x_row)), (ax_order, .inl (cyI, 8, .inl x_order)), (ax_dones, .inl (cyI, 8, .inl x_dones))] sz)) 0 0 (va_A [(ax, .inr (7, [.ref ax_row, .ref ax_text, .int x_letters, .int x_at, .ref ax_read, .ref ax_undone, .int x_undos, .ref ax_order, .ref ax_dones, .int x_away, .int x_bestSet, .ref ax_aside, .ref ax_tapedWho, .ref ax_tapedTill, .int x_taped, .ref ax_kept, .int x_keeps])), (ax_row, .inl (cyI, 28, .inl x_row)), (ax_order, .inl (cyI, 8, .inl x_order)), (ax_dones, .inl (cyI, 8, .inl x_dones))] sz) := by
  refine Met.ofW (cc := cX7_sends) (maxL := 5) (ret := none) (by decide) rfl ?_
  intro p e s m args below meth c s₁ B hml hv
  obtain ⟨rfl, hsz, hP, hK, hD0⟩ := hv
  have hx := B.exec
  have hb := B.bytes
  have hr := B.returns
  have hts := atoms_spec (ws := wsX7_sends) B.pre
  have hown : s.vm.findClass RX7 = some m.cls := findClass_of_methodNamed B.named
  have hlocks := B.notSynchronized
  subst hsz
  have hD := hD0.self (sz := s.heap.size)
  generalize hAe : va_A [(ax, .inr (7, [.ref ax_row, .ref ax_text, .int x_letters, .int x_at, .ref ax_read, .ref ax_undone, .int x_undos, .ref ax_order, .ref ax_dones, .int x_away, .int x_bestSet, .ref ax_aside, .ref ax_tapedWho, .ref ax_tapedTill, .int x_taped, .ref ax_kept, .int x_keeps])), (ax_row, .inl (cyI, 28, .inl x_row)), (ax_order, .inl (cyI, 8, .inl x_order)), (ax_dones, .inl (cyI, 8, .inl x_dones))] s.heap.size = A at hD ⊢
  have hA : ∀ q : Nat, s.heap.size ≤ q → A q := fun q h => by rw [← hAe]; exact Or.inr h
  have hS : va_S A s.heap s.heap [] := va_S.rf
  have hl := lv_entry ([.ref ax, .int i1]) (n := 5) (Nat.le_of_ble_eq_true rfl)
  rw [lg_entry_eq]
  generalize (lg_sl ([.ref ax, .int i1]) ++ List.replicate (5 - (lg_sl ([.ref ax, .int i1])).length) Slot.unset).toArray = ls at hl ⊢
  have hl : lv_has ls 5 [(0, .ref ax), (1, .int i1)] := hl
  have f119 := hts (.fieldLink RX7 119 "SecondTillModel" "away" "I") (by decide +kernel)
  have inX7 : ∀ w ∈ u_ws RX7 TX7 17, w ∈ wsX7_sends := by decide +kernel
  have f7 := hts (.fieldLink RX7 7 "SecondTillModel" "row" "[I") (by decide +kernel)
  have f22 := hts (.fieldLink RX7 22 "SecondTillModel" "order" "[I") (by decide +kernel)
  have f25 := hts (.fieldLink RX7 25 "SecondTillModel" "dones" "[I") (by decide +kernel)
  unfold S_X7_sends at hf
  have hP : va_P D vwCl [(ax, .inr (7, [.ref ax_row, .ref ax_text, .int x_letters, .int x_at, .ref ax_read, .ref ax_undone, .int x_undos, .ref ax_order, .ref ax_dones, .int x_away, .int x_bestSet, .ref ax_aside, .ref ax_tapedWho, .ref ax_tapedTill, .int x_taped, .ref ax_kept, .int x_keeps])), (ax_row, .inl (cyI, 28, .inl x_row)), (ax_order, .inl (cyI, 8, .inl x_order)), (ax_dones, .inl (cyI, 8, .inl x_dones))] s.heap := hP
  suffices hgo : ∀ (H : Heap) (locs : List Loc), va_P D vwCl [(ax, .inr (7, [.ref ax_row, .ref ax_text, .int x_letters, .int x_at, .ref ax_read, .ref ax_undone, .int x_undos, .ref ax_order, .ref ax_dones, .int x_away, .int x_bestSet, .ref ax_aside, .ref ax_tapedWho, .ref ax_tapedTill, .int x_taped, .ref ax_kept, .int x_keeps])), (ax_row, .inl (cyI, 28, .inl x_row)), (ax_order, .inl (cyI, 8, .inl x_order)), (ax_dones, .inl (cyI, 8, .inl x_dones))] H → va_S A s.heap H locs → W p l e rX7_sends s m (([.ref ax, .int i1] : List Value).toArray) below meth c H locs 0 0 (MQ below (CQv D [(ax, .inr (7, [.ref ax_row, .ref ax_text, .int x_letters, .int x_at, .ref ax_read, .ref ax_undone, .int x_undos, .ref ax_order, .ref ax_dones, .int o_x_away, .int x_bestSet, .ref ax_aside, .ref ax_tapedWho, .ref ax_tapedTill, .int x_taped, .ref ax_kept, .int x_keeps])), (ax_row, .inl (cyI, 28, .inl x_row)), (ax_order, .inl (cyI, 8, .inl o_x_order)), (ax_dones, .inl (cyI, 8, .inl o_x_dones))] A) (([.ref ax, .int i1] : List Value).toArray) s 0 0 A) (F0 m 0 ls []) from hgo _ _ hP hS
  clear hP hS
  intro H locs hP hS
  refine lv_aload_n hx hb dX7_sends_0 rfl (lv_at hl 0 rfl) ?_
  obtain ⟨x_order_o1, q1, hf⟩ := ob hf
  refine k_v (wc := [(ax, .inr (7, [.ref ax_row, .ref ax_text, .int x_letters, .int x_at, .ref ax_read, .ref ax_undone, .int x_undos, .ref ax_order, .ref ax_dones, .int x_away, .int x_bestSet, .ref ax_aside, .ref ax_tapedWho, .ref ax_tapedTill, .int x_taped, .ref ax_kept, .int x_keeps])), (ax_row, .inl (cyI, 28, .inl x_row)), (ax_order, .inl (cyI, 8, .inl x_order))]) (wr := [(ax_dones, .inl (cyI, 8, .inl x_dones))]) (w1 := [(ax, .inr (7, [.ref ax_row, .ref ax_text, .int x_letters, .int x_at, .ref ax_read, .ref ax_undone, .int x_undos, .ref ax_order, .ref ax_dones, .int x_away, .int x_bestSet, .ref ax_aside, .ref ax_tapedWho, .ref ax_tapedTill, .int x_taped, .ref ax_kept, .int x_keeps])), (ax_row, .inl (cyI, 28, .inl x_row)), (ax_order, .inl (cyI, 8, .inl x_order_o1))]) (wn := [(ax, .inr (7, [.ref ax_row, .ref ax_text, .int x_letters, .int x_at, .ref ax_read, .ref ax_undone, .int x_undos, .ref ax_order, .ref ax_dones, .int x_away, .int x_bestSet, .ref ax_aside, .ref ax_tapedWho, .ref ax_tapedTill, .int x_taped, .ref ax_kept, .int x_keeps])), (ax_row, .inl (cyI, 28, .inl x_row)), (ax_order, .inl (cyI, 8, .inl x_order_o1)), (ax_dones, .inl (cyI, 8, .inl x_dones))]) (va_runV (As := []) (rest := []) ⟨hx, hb, hml, hown, hts⟩ (c_X7_orders l D cyI cyC cyS H.size ax ax_row ax_text ax_read ax_undone ax_order ax_dones ax_aside ax_tapedWho ax_tapedTill ax_kept x_letters x_at x_undos x_away x_bestSet x_taped x_keeps x_row x_order q1) (cwV 0 hts gX7_sends_X7_orders rfl rfl rfl (by decide +kernel) ⟨Nat.le_of_ble_eq_true rfl, Nat.le_of_ble_eq_true rfl⟩) (preV (ci := 7) hK (hP.subm (ws' := [(ax, .inr (7, [.ref ax_row, .ref ax_text, .int x_letters, .int x_at, .ref ax_read, .ref ax_undone, .int x_undos, .ref ax_order, .ref ax_dones, .int x_away, .int x_bestSet, .ref ax_aside, .ref ax_tapedWho, .ref ax_tapedTill, .int x_taped, .ref ax_kept, .int x_keeps])), (ax_row, .inl (cyI, 28, .inl x_row)), (ax_order, .inl (cyI, 8, .inl x_order))]) [0, 1, 2] rfl) (hD.sub (ws' := [(ax, .inr (7, [.ref ax_row, .ref ax_text, .int x_letters, .int x_at, .ref ax_read, .ref ax_undone, .int x_undos, .ref ax_order, .ref ax_dones, .int x_away, .int x_bestSet, .ref ax_aside, .ref ax_tapedWho, .ref ax_tapedTill, .int x_taped, .ref ax_kept, .int x_keeps])), (ax_row, .inl (cyI, 28, .inl x_row)), (ax_order, .inl (cyI, 8, .inl x_order))]) [0, 1, 2] (by decide) rfl) rfl rfl) rfl rfl hl.1 rfl (lv_room (Nat.le_of_ble_eq_true rfl)) dX7_sends_1 ⟨Nat.le_of_ble_eq_true rfl, Nat.le_of_ble_eq_true rfl⟩) hP hD hS hA [0, 1, 2] [3] [1, 2, 3, 0] rfl rfl rfl (by decide) (by decide) (by decide) (fun H locs hP hD hS => ?_)
  refine lv_aload_n hx hb dX7_sends_4 rfl (lv_at hl 0 rfl) ?_
  refine lv_iload_n hx hb dX7_sends_5 rfl (lv_at hl 1 rfl) ?_
  refine a_put (C := RX7) (T := TX7) (N := 17) (wn := [(ax, .inr (7, [.ref ax_row, .ref ax_text, .int x_letters, .int x_at, .ref ax_read, .ref ax_undone, .int x_undos, .ref ax_order, .ref ax_dones, .int i1, .int x_bestSet, .ref ax_aside, .ref ax_tapedWho, .ref ax_tapedTill, .int x_taped, .ref ax_kept, .int x_keeps])), (ax_row, .inl (cyI, 28, .inl x_row)), (ax_order, .inl (cyI, 8, .inl x_order_o1)), (ax_dones, .inl (cyI, 8, .inl x_dones))]) hx hb hts inX7 tyX7 tyX7_ok nmX7 hown hK hP hD hS 0 rfl rfl 9 (by decide) f119 (fun _ h9 => h9) rfl rfl (Nat.le_of_ble_eq_true rfl) rfl dX7_sends_6 (fun H locs hP hD hS => ?_)
  refine lv_iconst (v := 0) hx hb dX7_sends_9 (by decide) ?_
  refine lv_istore_n (lv' := [(2, .int (0 : Int32)), (0, .ref ax), (1, .int i1)]) hx hb dX7_sends_10 rfl hl (by decide) rfl (fun ls hl => ?_)
  refine lv_iconst (v := 0) hx hb dX7_sends_11 (by decide) ?_
  refine lv_istore_n (lv' := [(3, .int (0 : Int32)), (2, .int (0 : Int32)), (0, .ref ax), (1, .int i1)]) hx hb dX7_sends_12 rfl hl (by decide) rfl (fun ls hl => ?_)
  have hL13 : ∀ (n13 : Nat) (x_away : Int32) (x_order : Nat → Int32) (i2 : Int32) (i3 : Int32) (x_dones : Nat → Int32) (H : Heap) (locs : List Loc) (ls : Array Slot), va_P D vwCl [(ax, .inr (7, [.ref ax_row, .ref ax_text, .int x_letters, .int x_at, .ref ax_read, .ref ax_undone, .int x_undos, .ref ax_order, .ref ax_dones, .int x_away, .int x_bestSet, .ref ax_aside, .ref ax_tapedWho, .ref ax_tapedTill, .int x_taped, .ref ax_kept, .int x_keeps])), (ax_row, .inl (cyI, 28, .inl x_row)), (ax_order, .inl (cyI, 8, .inl x_order)), (ax_dones, .inl (cyI, 8, .inl x_dones))] H → va_D A [(ax, .inr (7, [.ref ax_row, .ref ax_text, .int x_letters, .int x_at, .ref ax_read, .ref ax_undone, .int x_undos, .ref ax_order, .ref ax_dones, .int x_away, .int x_bestSet, .ref ax_aside, .ref ax_tapedWho, .ref ax_tapedTill, .int x_taped, .ref ax_kept, .int x_keeps])), (ax_row, .inl (cyI, 28, .inl x_row)), (ax_order, .inl (cyI, 8, .inl x_order)), (ax_dones, .inl (cyI, 8, .inl x_dones))] → va_S A s.heap H locs → lv_has ls 5 [(0, .ref ax), (1, .int i1), (2, .int i2), (3, .int i3)] → S_X7_sends_L13 i1 x_away x_order x_row n13 i2 i3 x_dones = some (o_x_away, o_x_order, o_x_dones) → W p l e rX7_sends s m (([.ref ax, .int i1] : List Value).toArray) below meth c H locs 0 0 (MQ below (CQv D [(ax, .inr (7, [.ref ax_row, .ref ax_text, .int x_letters, .int x_at, .ref ax_read, .ref ax_undone, .int x_undos, .ref ax_order, .ref ax_dones, .int o_x_away, .int x_bestSet, .ref ax_aside, .ref ax_tapedWho, .ref ax_tapedTill, .int x_taped, .ref ax_kept, .int x_keeps])), (ax_row, .inl (cyI, 28, .inl x_row)), (ax_order, .inl (cyI, 8, .inl o_x_order)), (ax_dones, .inl (cyI, 8, .inl o_x_dones))] A) (([.ref ax, .int i1] : List Value).toArray) s 0 0 A) (F0 m 13 ls []) := by
    intro n13
    induction n13 with
    | zero => intro x_away x_order i2 i3 x_dones H locs ls hP hD hS hl hf; exact absurd hf (by simp [S_X7_sends_L13])
    | succ n13 ih13 =>
      intro x_away x_order i2 i3 x_dones H locs ls hP hD hS hl hf
      rw [S_X7_sends_L13] at hf
      refine lv_iload_n hx hb dX7_sends_13 rfl (lv_at hl 3 rfl) ?_
      refine lv_aload_n hx hb dX7_sends_14 rfl (lv_at hl 0 rfl) ?_
      refine va_get (C := RX7) (T := TX7) (N := 17) hx hb hts inX7 hown hK.1 hP 0 rfl rfl 0 (by decide) f7 (fun _ h9 => h9) rfl dX7_sends_15 ?_
      refine lv_iconst (v := 0) hx hb dX7_sends_18 (by decide) ?_
      refine a_ild hx hb hK hP 1 rfl (vin (by decide)) 0 (by decide) dX7_sends_19 ?_
      refine lv_icmp_ge (tgt := 63) hx hb dX7_sends_20 (by decide) (fun c20 => ?_) (fun c20 => ?_)
      · replace hf := ip c20 hf
        refine lv_aload_n hx hb dX7_sends_63 rfl (lv_at hl 0 rfl) ?_
        obtain ⟨x_dones_o64, q64, hf⟩ := ob hf
        refine k_v (wc := [(ax, .inr (7, [.ref ax_row, .ref ax_text, .int x_letters, .int x_at, .ref ax_read, .ref ax_undone, .int x_undos, .ref ax_order, .ref ax_dones, .int x_away, .int x_bestSet, .ref ax_aside, .ref ax_tapedWho, .ref ax_tapedTill, .int x_taped, .ref ax_kept, .int x_keeps])), (ax_row, .inl (cyI, 28, .inl x_row)), (ax_dones, .inl (cyI, 8, .inl x_dones))]) (wr := [(ax_order, .inl (cyI, 8, .inl x_order))]) (w1 := [(ax, .inr (7, [.ref ax_row, .ref ax_text, .int x_letters, .int x_at, .ref ax_read, .ref ax_undone, .int x_undos, .ref ax_order, .ref ax_dones, .int x_away, .int x_bestSet, .ref ax_aside, .ref ax_tapedWho, .ref ax_tapedTill, .int x_taped, .ref ax_kept, .int x_keeps])), (ax_row, .inl (cyI, 28, .inl x_row)), (ax_dones, .inl (cyI, 8, .inl x_dones_o64))]) (wn := [(ax, .inr (7, [.ref ax_row, .ref ax_text, .int x_letters, .int x_at, .ref ax_read, .ref ax_undone, .int x_undos, .ref ax_order, .ref ax_dones, .int x_away, .int x_bestSet, .ref ax_aside, .ref ax_tapedWho, .ref ax_tapedTill, .int x_taped, .ref ax_kept, .int x_keeps])), (ax_row, .inl (cyI, 28, .inl x_row)), (ax_order, .inl (cyI, 8, .inl x_order)), (ax_dones, .inl (cyI, 8, .inl x_dones_o64))]) (va_runV (As := []) (rest := []) ⟨hx, hb, hml, hown, hts⟩ (c_X7_rests l D cyI cyC cyS H.size ax ax_row ax_text ax_read ax_undone ax_order ax_dones ax_aside ax_tapedWho ax_tapedTill ax_kept x_letters x_at x_undos x_away x_bestSet x_taped x_keeps x_row x_dones q64) (cwV 0 hts gX7_sends_X7_rests rfl rfl rfl (by decide +kernel) ⟨Nat.le_of_ble_eq_true rfl, Nat.le_of_ble_eq_true rfl⟩) (preV (ci := 7) hK (hP.subm (ws' := [(ax, .inr (7, [.ref ax_row, .ref ax_text, .int x_letters, .int x_at, .ref ax_read, .ref ax_undone, .int x_undos, .ref ax_order, .ref ax_dones, .int x_away, .int x_bestSet, .ref ax_aside, .ref ax_tapedWho, .ref ax_tapedTill, .int x_taped, .ref ax_kept, .int x_keeps])), (ax_row, .inl (cyI, 28, .inl x_row)), (ax_dones, .inl (cyI, 8, .inl x_dones))]) [0, 1, 3] rfl) (hD.sub (ws' := [(ax, .inr (7, [.ref ax_row, .ref ax_text, .int x_letters, .int x_at, .ref ax_read, .ref ax_undone, .int x_undos, .ref ax_order, .ref ax_dones, .int x_away, .int x_bestSet, .ref ax_aside, .ref ax_tapedWho, .ref ax_tapedTill, .int x_taped, .ref ax_kept, .int x_keeps])), (ax_row, .inl (cyI, 28, .inl x_row)), (ax_dones, .inl (cyI, 8, .inl x_dones))]) [0, 1, 3] (by decide) rfl) rfl rfl) rfl rfl hl.1 rfl (lv_room (Nat.le_of_ble_eq_true rfl)) dX7_sends_64 ⟨Nat.le_of_ble_eq_true rfl, Nat.le_of_ble_eq_true rfl⟩) hP hD hS hA [0, 1, 3] [2] [1, 2, 0, 3] rfl rfl rfl (by decide) (by decide) (by decide) (fun H locs hP hD hS => ?_)
        simp only [Option.some.injEq, Prod.mk.injEq] at hf
        obtain ⟨rfl, rfl, rfl⟩ := hf
        exact W.vret hx hb hr (fun t ht hW => ⟨⟨(), rfl, trivial, by rw [ht]; exact hP, hD⟩, hS.F ht⟩) hS.2.2 dX7_sends_67
      · replace hf := iq c20 hf
        refine lv_aload_n hx hb dX7_sends_23 rfl (lv_at hl 0 rfl) ?_
        refine va_get (C := RX7) (T := TX7) (N := 17) hx hb hts inX7 hown hK.1 hP 0 rfl rfl 7 (by decide) f22 (fun _ h9 => h9) rfl dX7_sends_24 ?_
        refine lv_iload_n hx hb dX7_sends_27 rfl (lv_at hl 3 rfl) ?_
        obtain ⟨z28, hf⟩ := oi hf
        refine a_ild hx hb hK hP 2 rfl z28 i3.toNatClampNeg rfl dX7_sends_28 ?_
        refine lv_istore (lv' := [(4, .int (x_order i3.toNatClampNeg)), (0, .ref ax), (1, .int i1), (2, .int i2), (3, .int i3)]) hx hb dX7_sends_29 hl (by decide) rfl (fun ls hl => ?_)
        refine lv_iload_n hx hb dX7_sends_31 rfl (lv_at hl 2 rfl) ?_
        refine lv_iload hx hb dX7_sends_32 (lv_at hl 0 rfl) ?_
        refine lv_ishr hx hb dX7_sends_34 ?_
        refine lv_iconst (v := 1) hx hb dX7_sends_35 (by decide) ?_
        refine lv_iand hx hb dX7_sends_36 ?_
        refine lv_iconst (v := 1) hx hb dX7_sends_37 (by decide) ?_
        refine lv_icmp_ne (tgt := 57) hx hb dX7_sends_38 (by decide) (fun c38 => ?_) (fun c38 => ?_)
        · replace hf := iq c38 hf
          refine lv_iinc (v := i3 + (1 : Int32)) (lv' := [(3, .int (i3 + (1 : Int32))), (4, .int (x_order i3.toNatClampNeg)), (0, .ref ax), (1, .int i1), (2, .int i2)]) hx hb dX7_sends_57 hl (k := 4) rfl rfl (by decide) rfl (fun ls hl => ?_)
          refine lv_goto (tgt := 13) hx hb dX7_sends_60 (by decide) ?_
          exact ih13 x_away x_order i2 (i3 + (1 : Int32)) x_dones _ _ _ hP hD hS (lv_sub hl [2, 3, 4, 0] rfl) hf
        · replace hf := ip c38 hf
          refine lv_aload_n hx hb dX7_sends_41 rfl (lv_at hl 1 rfl) ?_
          refine lv_iload hx hb dX7_sends_42 (lv_at hl 0 rfl) ?_
          refine lv_iload_n hx hb dX7_sends_44 rfl (lv_at hl 3 rfl) ?_
          obtain ⟨r45, q45, hf⟩ := ob hf
          refine k_i (wc := [(ax, .inr (7, [.ref ax_row, .ref ax_text, .int x_letters, .int x_at, .ref ax_read, .ref ax_undone, .int x_undos, .ref ax_order, .ref ax_dones, .int x_away, .int x_bestSet, .ref ax_aside, .ref ax_tapedWho, .ref ax_tapedTill, .int x_taped, .ref ax_kept, .int x_keeps])), (ax_row, .inl (cyI, 28, .inl x_row))]) (wr := [(ax_order, .inl (cyI, 8, .inl x_order)), (ax_dones, .inl (cyI, 8, .inl x_dones))]) (w1 := [(ax, .inr (7, [.ref ax_row, .ref ax_text, .int x_letters, .int x_at, .ref ax_read, .ref ax_undone, .int x_undos, .ref ax_order, .ref ax_dones, .int x_away, .int x_bestSet, .ref ax_aside, .ref ax_tapedWho, .ref ax_tapedTill, .int x_taped, .ref ax_kept, .int x_keeps])), (ax_row, .inl (cyI, 28, .inl x_row))]) (wn := [(ax, .inr (7, [.ref ax_row, .ref ax_text, .int x_letters, .int x_at, .ref ax_read, .ref ax_undone, .int x_undos, .ref ax_order, .ref ax_dones, .int x_away, .int x_bestSet, .ref ax_aside, .ref ax_tapedWho, .ref ax_tapedTill, .int x_taped, .ref ax_kept, .int x_keeps])), (ax_row, .inl (cyI, 28, .inl x_row)), (ax_order, .inl (cyI, 8, .inl x_order)), (ax_dones, .inl (cyI, 8, .inl x_dones))]) (va_runV (As := [.int (x_order i3.toNatClampNeg), .int i2]) (rest := []) ⟨hx, hb, hml, hown, hts⟩ (c_X7_there l D cyI cyC cyS H.size ax ax_row ax_text ax_read ax_undone ax_order ax_dones ax_aside ax_tapedWho ax_tapedTill ax_kept x_letters x_at x_undos x_away x_bestSet x_taped x_keeps x_row (x_order i3.toNatClampNeg) i2 q45) (cwV 2 hts gX7_sends_X7_there rfl rfl rfl (by decide +kernel) ⟨Nat.le_of_ble_eq_true rfl, Nat.le_of_ble_eq_true rfl⟩) (preV (ci := 7) hK (hP.subm (ws' := [(ax, .inr (7, [.ref ax_row, .ref ax_text, .int x_letters, .int x_at, .ref ax_read, .ref ax_undone, .int x_undos, .ref ax_order, .ref ax_dones, .int x_away, .int x_bestSet, .ref ax_aside, .ref ax_tapedWho, .ref ax_tapedTill, .int x_taped, .ref ax_kept, .int x_keeps])), (ax_row, .inl (cyI, 28, .inl x_row))]) [0, 1] rfl) (hD.sub (ws' := [(ax, .inr (7, [.ref ax_row, .ref ax_text, .int x_letters, .int x_at, .ref ax_read, .ref ax_undone, .int x_undos, .ref ax_order, .ref ax_dones, .int x_away, .int x_bestSet, .ref ax_aside, .ref ax_tapedWho, .ref ax_tapedTill, .int x_taped, .ref ax_kept, .int x_keeps])), (ax_row, .inl (cyI, 28, .inl x_row))]) [0, 1] (by decide) rfl) rfl rfl) rfl rfl hl.1 rfl (lv_room (Nat.le_of_ble_eq_true rfl)) dX7_sends_45 ⟨Nat.le_of_ble_eq_true rfl, Nat.le_of_ble_eq_true rfl⟩) hP hD hS hA [0, 1] [2, 3] [2, 3, 0, 1] rfl rfl rfl (by decide) (by decide) (by decide) (fun H locs hP hD hS => ?_)
          refine lv_istore_n (lv' := [(2, .int r45), (4, .int (x_order i3.toNatClampNeg)), (0, .ref ax), (1, .int i1), (3, .int i3)]) hx hb dX7_sends_48 rfl hl (by decide) rfl (fun ls hl => ?_)
          refine lv_aload_n hx hb dX7_sends_49 rfl (lv_at hl 2 rfl) ?_
          refine va_get (C := RX7) (T := TX7) (N := 17) hx hb hts inX7 hown hK.1 hP 0 rfl rfl 8 (by decide) f25 (fun _ h9 => h9) rfl dX7_sends_50 ?_
          refine lv_iload hx hb dX7_sends_53 (lv_at hl 1 rfl) ?_
          refine lv_iload_n hx hb dX7_sends_55 rfl (lv_at hl 0 rfl) ?_
          obtain ⟨z56, hf⟩ := oi hf
          refine a_ist (wn := [(ax, .inr (7, [.ref ax_row, .ref ax_text, .int x_letters, .int x_at, .ref ax_read, .ref ax_undone, .int x_undos, .ref ax_order, .ref ax_dones, .int x_away, .int x_bestSet, .ref ax_aside, .ref ax_tapedWho, .ref ax_tapedTill, .int x_taped, .ref ax_kept, .int x_keeps])), (ax_row, .inl (cyI, 28, .inl x_row)), (ax_order, .inl (cyI, 8, .inl x_order)), (ax_dones, .inl (cyI, 8, .inl (upd x_dones (x_order i3.toNatClampNeg).toNatClampNeg r45)))]) hx hb hK hP hD hS 3 rfl z56 (x_order i3.toNatClampNeg).toNatClampNeg rfl rfl dX7_sends_56 (fun H locs hP hD hS => ?_)
          refine lv_iinc (v := i3 + (1 : Int32)) (lv' := [(3, .int (i3 + (1 : Int32))), (2, .int r45), (4, .int (x_order i3.toNatClampNeg)), (0, .ref ax), (1, .int i1)]) hx hb dX7_sends_57 hl (k := 4) rfl rfl (by decide) rfl (fun ls hl => ?_)
          refine lv_goto (tgt := 13) hx hb dX7_sends_60 (by decide) ?_
          exact ih13 x_away x_order r45 (i3 + (1 : Int32)) (upd x_dones (x_order i3.toNatClampNeg).toNatClampNeg r45) _ _ _ hP hD hS (lv_sub hl [3, 4, 1, 0] rfl) hf
  exact hL13 300 i1 x_order_o1 (0 : Int32) (0 : Int32) x_dones _ _ _ hP hD hS (lv_sub hl [2, 3, 1, 0] rfl) hf
abbrev rX7_sum : Room := { frames := 0, cells := 0, slots := 0, locals := 0 }
set_option maxHeartbeats 4000000 in
set_option maxRecDepth 100000 in
theorem c_X7_sum (l : Launch) (D : va_G) (cyI cyC cyS : ClassId) (sz : Nat) (ax : Nat) (ax_row : Nat) (ax_text : Nat) (ax_read : Nat) (ax_undone : Nat) (ax_order : Nat) (ax_dones : Nat) (ax_aside : Nat) (ax_tapedWho : Nat) (ax_tapedTill : Nat) (ax_kept : Nat) (x_letters : Int32) (x_at : Int32) (x_undos : Int32) (x_away : Int32) (x_bestSet : Int32) (x_taped : Int32) (x_keeps : Int32) (x_row : Nat → Int32) (x_dones : Nat → Int32) {r : Int32} (hf : S_X7_sum x_row x_dones = some r) : Met l yX7_sum wsX7_sum rX7_sum (Cpre [.ref ax] D cyI cyC cyS sz [(ax, .inr (7, [.ref ax_row, .ref ax_text, .int x_letters, .int x_at, .ref ax_read, .ref ax_undone, .int x_undos, .ref ax_order, .ref ax_dones, .int x_away, .int x_bestSet, .ref ax_aside, .ref ax_tapedWho, .ref ax_tapedTill, .int x_taped, .ref ax_kept, .int x_keeps])), (ax_row, .inl (cyI, 28, .inl x_row)), (ax_dones, .inl (cyI, 8, .inl x_dones))]) (CQi r D [(ax, .inr (7, [.ref ax_row, .ref ax_text, .int x_letters, .int x_at, .ref ax_read, .ref ax_undone, .int x_undos, .ref ax_order, .ref ax_dones, .int x_away, .int x_bestSet, .ref ax_aside, .ref ax_tapedWho, .ref ax_tapedTill, .int x_taped, .ref ax_kept, .int x_keeps])), (ax_row, .inl (cyI, 28, .inl x_row)), (ax_dones, .inl (cyI, 8, .inl x_dones))] (va_A [(ax, .inr (7, [.ref ax_row, .ref ax_text, .int x_letters, .int x_at, .ref ax_read, .ref ax_undone, .int x_undos, .ref ax_order, .ref ax_dones, .int x_away, .int x_bestSet, .ref ax_aside, .ref ax_tapedWho, .ref ax_tapedTill, .int x_taped, .ref ax_kept, .int x_keeps])), (ax_row, .inl (cyI, 28, .inl x_row)), (ax_dones, .inl (cyI, 8, .inl x_dones))] sz)) 0 0 (va_A [(ax, .inr (7, [.ref ax_row, .ref ax_text, .int x_letters, .int x_at, .ref ax_read, .ref ax_undone, .int x_undos, .ref ax_order, .ref ax_dones, .int x_away, .int x_bestSet, .ref ax_aside, .ref ax_tapedWho, .ref ax_tapedTill, .int x_taped, .ref ax_kept, .int x_keeps])), (ax_row, .inl (cyI, 28, .inl x_row)), (ax_dones, .inl (cyI, 8, .inl x_dones))] sz) := by
  refine Met.ofW (cc := cX7_sum) (maxL := 3) (ret := (some .int)) (by decide) rfl ?_
  intro p e s m args below meth c s₁ B hml hv
  obtain ⟨rfl, hsz, hP, hK, hD0⟩ := hv
  have hx := B.exec
  have hb := B.bytes
  have hr := B.returns
  have hts := atoms_spec (ws := wsX7_sum) B.pre
  have hown : s.vm.findClass RX7 = some m.cls := findClass_of_methodNamed B.named
  have hlocks := B.notSynchronized
  subst hsz
  have hD := hD0.self (sz := s.heap.size)
  generalize hAe : va_A [(ax, .inr (7, [.ref ax_row, .ref ax_text, .int x_letters, .int x_at, .ref ax_read, .ref ax_undone, .int x_undos, .ref ax_order, .ref ax_dones, .int x_away, .int x_bestSet, .ref ax_aside, .ref ax_tapedWho, .ref ax_tapedTill, .int x_taped, .ref ax_kept, .int x_keeps])), (ax_row, .inl (cyI, 28, .inl x_row)), (ax_dones, .inl (cyI, 8, .inl x_dones))] s.heap.size = A at hD ⊢
  have hA : ∀ q : Nat, s.heap.size ≤ q → A q := fun q h => by rw [← hAe]; exact Or.inr h
  have hS : va_S A s.heap s.heap [] := va_S.rf
  have hl := lv_entry ([.ref ax]) (n := 3) (Nat.le_of_ble_eq_true rfl)
  rw [lg_entry_eq]
  generalize (lg_sl ([.ref ax]) ++ List.replicate (3 - (lg_sl ([.ref ax])).length) Slot.unset).toArray = ls at hl ⊢
  have hl : lv_has ls 3 [(0, .ref ax)] := hl
  have f7 := hts (.fieldLink RX7 7 "SecondTillModel" "row" "[I") (by decide +kernel)
  have inX7 : ∀ w ∈ u_ws RX7 TX7 17, w ∈ wsX7_sum := by decide +kernel
  have f25 := hts (.fieldLink RX7 25 "SecondTillModel" "dones" "[I") (by decide +kernel)
  unfold S_X7_sum at hf
  have hP : va_P D vwCl [(ax, .inr (7, [.ref ax_row, .ref ax_text, .int x_letters, .int x_at, .ref ax_read, .ref ax_undone, .int x_undos, .ref ax_order, .ref ax_dones, .int x_away, .int x_bestSet, .ref ax_aside, .ref ax_tapedWho, .ref ax_tapedTill, .int x_taped, .ref ax_kept, .int x_keeps])), (ax_row, .inl (cyI, 28, .inl x_row)), (ax_dones, .inl (cyI, 8, .inl x_dones))] s.heap := hP
  suffices hgo : ∀ (H : Heap) (locs : List Loc), va_P D vwCl [(ax, .inr (7, [.ref ax_row, .ref ax_text, .int x_letters, .int x_at, .ref ax_read, .ref ax_undone, .int x_undos, .ref ax_order, .ref ax_dones, .int x_away, .int x_bestSet, .ref ax_aside, .ref ax_tapedWho, .ref ax_tapedTill, .int x_taped, .ref ax_kept, .int x_keeps])), (ax_row, .inl (cyI, 28, .inl x_row)), (ax_dones, .inl (cyI, 8, .inl x_dones))] H → va_S A s.heap H locs → W p l e rX7_sum s m (([.ref ax] : List Value).toArray) below meth c H locs 0 0 (MQ below (CQi r D [(ax, .inr (7, [.ref ax_row, .ref ax_text, .int x_letters, .int x_at, .ref ax_read, .ref ax_undone, .int x_undos, .ref ax_order, .ref ax_dones, .int x_away, .int x_bestSet, .ref ax_aside, .ref ax_tapedWho, .ref ax_tapedTill, .int x_taped, .ref ax_kept, .int x_keeps])), (ax_row, .inl (cyI, 28, .inl x_row)), (ax_dones, .inl (cyI, 8, .inl x_dones))] A) (([.ref ax] : List Value).toArray) s 0 0 A) (F0 m 0 ls []) from hgo _ _ hP hS
  clear hP hS
  intro H locs hP hS
  refine lv_iconst (v := 0) hx hb dX7_sum_0 (by decide) ?_
  refine lv_istore_n (lv' := [(1, .int (0 : Int32)), (0, .ref ax)]) hx hb dX7_sum_1 rfl hl (by decide) rfl (fun ls hl => ?_)
  refine lv_iconst (v := 0) hx hb dX7_sum_2 (by decide) ?_
  refine lv_istore_n (lv' := [(2, .int (0 : Int32)), (1, .int (0 : Int32)), (0, .ref ax)]) hx hb dX7_sum_3 rfl hl (by decide) rfl (fun ls hl => ?_)
  have hL4 : ∀ (n4 : Nat) (i1 : Int32) (i2 : Int32) (H : Heap) (locs : List Loc) (ls : Array Slot), va_P D vwCl [(ax, .inr (7, [.ref ax_row, .ref ax_text, .int x_letters, .int x_at, .ref ax_read, .ref ax_undone, .int x_undos, .ref ax_order, .ref ax_dones, .int x_away, .int x_bestSet, .ref ax_aside, .ref ax_tapedWho, .ref ax_tapedTill, .int x_taped, .ref ax_kept, .int x_keeps])), (ax_row, .inl (cyI, 28, .inl x_row)), (ax_dones, .inl (cyI, 8, .inl x_dones))] H → va_D A [(ax, .inr (7, [.ref ax_row, .ref ax_text, .int x_letters, .int x_at, .ref ax_read, .ref ax_undone, .int x_undos, .ref ax_order, .ref ax_dones, .int x_away, .int x_bestSet, .ref ax_aside, .ref ax_tapedWho, .ref ax_tapedTill, .int x_taped, .ref ax_kept, .int x_keeps])), (ax_row, .inl (cyI, 28, .inl x_row)), (ax_dones, .inl (cyI, 8, .inl x_dones))] → va_S A s.heap H locs → lv_has ls 3 [(0, .ref ax), (1, .int i1), (2, .int i2)] → S_X7_sum_L4 x_row x_dones n4 i1 i2 = some r → W p l e rX7_sum s m (([.ref ax] : List Value).toArray) below meth c H locs 0 0 (MQ below (CQi r D [(ax, .inr (7, [.ref ax_row, .ref ax_text, .int x_letters, .int x_at, .ref ax_read, .ref ax_undone, .int x_undos, .ref ax_order, .ref ax_dones, .int x_away, .int x_bestSet, .ref ax_aside, .ref ax_tapedWho, .ref ax_tapedTill, .int x_taped, .ref ax_kept, .int x_keeps])), (ax_row, .inl (cyI, 28, .inl x_row)), (ax_dones, .inl (cyI, 8, .inl x_dones))] A) (([.ref ax] : List Value).toArray) s 0 0 A) (F0 m 4 ls []) := by
    intro n4
    induction n4 with
    | zero => intro i1 i2 H locs ls hP hD hS hl hf; exact absurd hf (by simp [S_X7_sum_L4])
    | succ n4 ih4 =>
      intro i1 i2 H locs ls hP hD hS hl hf
      rw [S_X7_sum_L4] at hf
      refine lv_iload_n hx hb dX7_sum_4 rfl (lv_at hl 2 rfl) ?_
      refine lv_aload_n hx hb dX7_sum_5 rfl (lv_at hl 0 rfl) ?_
      refine va_get (C := RX7) (T := TX7) (N := 17) hx hb hts inX7 hown hK.1 hP 0 rfl rfl 0 (by decide) f7 (fun _ h9 => h9) rfl dX7_sum_6 ?_
      refine lv_iconst (v := 0) hx hb dX7_sum_9 (by decide) ?_
      refine a_ild hx hb hK hP 1 rfl (vin (by decide)) 0 (by decide) dX7_sum_10 ?_
      refine lv_icmp_ge (tgt := 29) hx hb dX7_sum_11 (by decide) (fun c11 => ?_) (fun c11 => ?_)
      · replace hf := ip c11 hf
        refine lv_iload_n hx hb dX7_sum_29 rfl (lv_at hl 1 rfl) ?_
        obtain rfl := Option.some.inj hf
        exact W.iret hx hb hr (fun t ht hW => ⟨⟨_, (), rfl, rfl, by rw [ht]; exact hP, hD⟩, hS.F ht⟩) hS.2.2 dX7_sum_30
      · replace hf := iq c11 hf
        refine lv_iload_n hx hb dX7_sum_14 rfl (lv_at hl 1 rfl) ?_
        refine lv_aload_n hx hb dX7_sum_15 rfl (lv_at hl 0 rfl) ?_
        refine va_get (C := RX7) (T := TX7) (N := 17) hx hb hts inX7 hown hK.1 hP 0 rfl rfl 8 (by decide) f25 (fun _ h9 => h9) rfl dX7_sum_16 ?_
        refine lv_iload_n hx hb dX7_sum_19 rfl (lv_at hl 2 rfl) ?_
        obtain ⟨z20, hf⟩ := oi hf
        refine a_ild hx hb hK hP 2 rfl z20 i2.toNatClampNeg rfl dX7_sum_20 ?_
        refine lv_iadd hx hb dX7_sum_21 ?_
        refine lv_istore_n (lv' := [(1, .int (i1 + (x_dones i2.toNatClampNeg))), (0, .ref ax), (2, .int i2)]) hx hb dX7_sum_22 rfl hl (by decide) rfl (fun ls hl => ?_)
        refine lv_iinc (v := i2 + (1 : Int32)) (lv' := [(2, .int (i2 + (1 : Int32))), (1, .int (i1 + (x_dones i2.toNatClampNeg))), (0, .ref ax)]) hx hb dX7_sum_23 hl (k := 2) rfl rfl (by decide) rfl (fun ls hl => ?_)
        refine lv_goto (tgt := 4) hx hb dX7_sum_26 (by decide) ?_
        exact ih4 (i1 + (x_dones i2.toNatClampNeg)) (i2 + (1 : Int32)) _ _ _ hP hD hS (lv_sub hl [2, 1, 0] rfl) hf
  exact hL4 300 (0 : Int32) (0 : Int32) _ _ _ hP hD hS (lv_sub hl [2, 1, 0] rfl) hf
abbrev rX7_latest : Room := { frames := 0, cells := 0, slots := 0, locals := 0 }
set_option maxHeartbeats 4000000 in
set_option maxRecDepth 100000 in
theorem c_X7_latest (l : Launch) (D : va_G) (cyI cyC cyS : ClassId) (sz : Nat) (ax : Nat) (ax_row : Nat) (ax_text : Nat) (ax_read : Nat) (ax_undone : Nat) (ax_order : Nat) (ax_dones : Nat) (ax_aside : Nat) (ax_tapedWho : Nat) (ax_tapedTill : Nat) (ax_kept : Nat) (x_letters : Int32) (x_at : Int32) (x_undos : Int32) (x_away : Int32) (x_bestSet : Int32) (x_taped : Int32) (x_keeps : Int32) (x_row : Nat → Int32) (x_dones : Nat → Int32) {r : Int32} (hf : S_X7_latest x_row x_dones = some r) : Met l yX7_latest wsX7_latest rX7_latest (Cpre [.ref ax] D cyI cyC cyS sz [(ax, .inr (7, [.ref ax_row, .ref ax_text, .int x_letters, .int x_at, .ref ax_read, .ref ax_undone, .int x_undos, .ref ax_order, .ref ax_dones, .int x_away, .int x_bestSet, .ref ax_aside, .ref ax_tapedWho, .ref ax_tapedTill, .int x_taped, .ref ax_kept, .int x_keeps])), (ax_row, .inl (cyI, 28, .inl x_row)), (ax_dones, .inl (cyI, 8, .inl x_dones))]) (CQi r D [(ax, .inr (7, [.ref ax_row, .ref ax_text, .int x_letters, .int x_at, .ref ax_read, .ref ax_undone, .int x_undos, .ref ax_order, .ref ax_dones, .int x_away, .int x_bestSet, .ref ax_aside, .ref ax_tapedWho, .ref ax_tapedTill, .int x_taped, .ref ax_kept, .int x_keeps])), (ax_row, .inl (cyI, 28, .inl x_row)), (ax_dones, .inl (cyI, 8, .inl x_dones))] (va_A [(ax, .inr (7, [.ref ax_row, .ref ax_text, .int x_letters, .int x_at, .ref ax_read, .ref ax_undone, .int x_undos, .ref ax_order, .ref ax_dones, .int x_away, .int x_bestSet, .ref ax_aside, .ref ax_tapedWho, .ref ax_tapedTill, .int x_taped, .ref ax_kept, .int x_keeps])), (ax_row, .inl (cyI, 28, .inl x_row)), (ax_dones, .inl (cyI, 8, .inl x_dones))] sz)) 0 0 (va_A [(ax, .inr (7, [.ref ax_row, .ref ax_text, .int x_letters, .int x_at, .ref ax_read, .ref ax_undone, .int x_undos, .ref ax_order, .ref ax_dones, .int x_away, .int x_bestSet, .ref ax_aside, .ref ax_tapedWho, .ref ax_tapedTill, .int x_taped, .ref ax_kept, .int x_keeps])), (ax_row, .inl (cyI, 28, .inl x_row)), (ax_dones, .inl (cyI, 8, .inl x_dones))] sz) := by
  refine Met.ofW (cc := cX7_latest) (maxL := 3) (ret := (some .int)) (by decide) rfl ?_
  intro p e s m args below meth c s₁ B hml hv
  obtain ⟨rfl, hsz, hP, hK, hD0⟩ := hv
  have hx := B.exec
  have hb := B.bytes
  have hr := B.returns
  have hts := atoms_spec (ws := wsX7_latest) B.pre
  have hown : s.vm.findClass RX7 = some m.cls := findClass_of_methodNamed B.named
  have hlocks := B.notSynchronized
  subst hsz
  have hD := hD0.self (sz := s.heap.size)
  generalize hAe : va_A [(ax, .inr (7, [.ref ax_row, .ref ax_text, .int x_letters, .int x_at, .ref ax_read, .ref ax_undone, .int x_undos, .ref ax_order, .ref ax_dones, .int x_away, .int x_bestSet, .ref ax_aside, .ref ax_tapedWho, .ref ax_tapedTill, .int x_taped, .ref ax_kept, .int x_keeps])), (ax_row, .inl (cyI, 28, .inl x_row)), (ax_dones, .inl (cyI, 8, .inl x_dones))] s.heap.size = A at hD ⊢
  have hA : ∀ q : Nat, s.heap.size ≤ q → A q := fun q h => by rw [← hAe]; exact Or.inr h
  have hS : va_S A s.heap s.heap [] := va_S.rf
  have hl := lv_entry ([.ref ax]) (n := 3) (Nat.le_of_ble_eq_true rfl)
  rw [lg_entry_eq]
  generalize (lg_sl ([.ref ax]) ++ List.replicate (3 - (lg_sl ([.ref ax])).length) Slot.unset).toArray = ls at hl ⊢
  have hl : lv_has ls 3 [(0, .ref ax)] := hl
  have f7 := hts (.fieldLink RX7 7 "SecondTillModel" "row" "[I") (by decide +kernel)
  have inX7 : ∀ w ∈ u_ws RX7 TX7 17, w ∈ wsX7_latest := by decide +kernel
  have f25 := hts (.fieldLink RX7 25 "SecondTillModel" "dones" "[I") (by decide +kernel)
  unfold S_X7_latest at hf
  have hP : va_P D vwCl [(ax, .inr (7, [.ref ax_row, .ref ax_text, .int x_letters, .int x_at, .ref ax_read, .ref ax_undone, .int x_undos, .ref ax_order, .ref ax_dones, .int x_away, .int x_bestSet, .ref ax_aside, .ref ax_tapedWho, .ref ax_tapedTill, .int x_taped, .ref ax_kept, .int x_keeps])), (ax_row, .inl (cyI, 28, .inl x_row)), (ax_dones, .inl (cyI, 8, .inl x_dones))] s.heap := hP
  suffices hgo : ∀ (H : Heap) (locs : List Loc), va_P D vwCl [(ax, .inr (7, [.ref ax_row, .ref ax_text, .int x_letters, .int x_at, .ref ax_read, .ref ax_undone, .int x_undos, .ref ax_order, .ref ax_dones, .int x_away, .int x_bestSet, .ref ax_aside, .ref ax_tapedWho, .ref ax_tapedTill, .int x_taped, .ref ax_kept, .int x_keeps])), (ax_row, .inl (cyI, 28, .inl x_row)), (ax_dones, .inl (cyI, 8, .inl x_dones))] H → va_S A s.heap H locs → W p l e rX7_latest s m (([.ref ax] : List Value).toArray) below meth c H locs 0 0 (MQ below (CQi r D [(ax, .inr (7, [.ref ax_row, .ref ax_text, .int x_letters, .int x_at, .ref ax_read, .ref ax_undone, .int x_undos, .ref ax_order, .ref ax_dones, .int x_away, .int x_bestSet, .ref ax_aside, .ref ax_tapedWho, .ref ax_tapedTill, .int x_taped, .ref ax_kept, .int x_keeps])), (ax_row, .inl (cyI, 28, .inl x_row)), (ax_dones, .inl (cyI, 8, .inl x_dones))] A) (([.ref ax] : List Value).toArray) s 0 0 A) (F0 m 0 ls []) from hgo _ _ hP hS
  clear hP hS
  intro H locs hP hS
  refine lv_iconst (v := 0) hx hb dX7_latest_0 (by decide) ?_
  refine lv_istore_n (lv' := [(1, .int (0 : Int32)), (0, .ref ax)]) hx hb dX7_latest_1 rfl hl (by decide) rfl (fun ls hl => ?_)
  refine lv_iconst (v := 0) hx hb dX7_latest_2 (by decide) ?_
  refine lv_istore_n (lv' := [(2, .int (0 : Int32)), (1, .int (0 : Int32)), (0, .ref ax)]) hx hb dX7_latest_3 rfl hl (by decide) rfl (fun ls hl => ?_)
  have hL4 : ∀ (n4 : Nat) (i1 : Int32) (i2 : Int32) (H : Heap) (locs : List Loc) (ls : Array Slot), va_P D vwCl [(ax, .inr (7, [.ref ax_row, .ref ax_text, .int x_letters, .int x_at, .ref ax_read, .ref ax_undone, .int x_undos, .ref ax_order, .ref ax_dones, .int x_away, .int x_bestSet, .ref ax_aside, .ref ax_tapedWho, .ref ax_tapedTill, .int x_taped, .ref ax_kept, .int x_keeps])), (ax_row, .inl (cyI, 28, .inl x_row)), (ax_dones, .inl (cyI, 8, .inl x_dones))] H → va_D A [(ax, .inr (7, [.ref ax_row, .ref ax_text, .int x_letters, .int x_at, .ref ax_read, .ref ax_undone, .int x_undos, .ref ax_order, .ref ax_dones, .int x_away, .int x_bestSet, .ref ax_aside, .ref ax_tapedWho, .ref ax_tapedTill, .int x_taped, .ref ax_kept, .int x_keeps])), (ax_row, .inl (cyI, 28, .inl x_row)), (ax_dones, .inl (cyI, 8, .inl x_dones))] → va_S A s.heap H locs → lv_has ls 3 [(0, .ref ax), (1, .int i1), (2, .int i2)] → S_X7_latest_L4 x_row x_dones n4 i1 i2 = some r → W p l e rX7_latest s m (([.ref ax] : List Value).toArray) below meth c H locs 0 0 (MQ below (CQi r D [(ax, .inr (7, [.ref ax_row, .ref ax_text, .int x_letters, .int x_at, .ref ax_read, .ref ax_undone, .int x_undos, .ref ax_order, .ref ax_dones, .int x_away, .int x_bestSet, .ref ax_aside, .ref ax_tapedWho, .ref ax_tapedTill, .int x_taped, .ref ax_kept, .int x_keeps])), (ax_row, .inl (cyI, 28, .inl x_row)), (ax_dones, .inl (cyI, 8, .inl x_dones))] A) (([.ref ax] : List Value).toArray) s 0 0 A) (F0 m 4 ls []) := by
    intro n4
    induction n4 with
    | zero => intro i1 i2 H locs ls hP hD hS hl hf; exact absurd hf (by simp [S_X7_latest_L4])
    | succ n4 ih4 =>
      intro i1 i2 H locs ls hP hD hS hl hf
      rw [S_X7_latest_L4] at hf
      refine lv_iload_n hx hb dX7_latest_4 rfl (lv_at hl 2 rfl) ?_
      refine lv_aload_n hx hb dX7_latest_5 rfl (lv_at hl 0 rfl) ?_
      refine va_get (C := RX7) (T := TX7) (N := 17) hx hb hts inX7 hown hK.1 hP 0 rfl rfl 0 (by decide) f7 (fun _ h9 => h9) rfl dX7_latest_6 ?_
      refine lv_iconst (v := 0) hx hb dX7_latest_9 (by decide) ?_
      refine a_ild hx hb hK hP 1 rfl (vin (by decide)) 0 (by decide) dX7_latest_10 ?_
      refine lv_icmp_ge (tgt := 41) hx hb dX7_latest_11 (by decide) (fun c11 => ?_) (fun c11 => ?_)
      · replace hf := ip c11 hf
        refine lv_iload_n hx hb dX7_latest_41 rfl (lv_at hl 1 rfl) ?_
        obtain rfl := Option.some.inj hf
        exact W.iret hx hb hr (fun t ht hW => ⟨⟨_, (), rfl, rfl, by rw [ht]; exact hP, hD⟩, hS.F ht⟩) hS.2.2 dX7_latest_42
      · replace hf := iq c11 hf
        refine lv_aload_n hx hb dX7_latest_14 rfl (lv_at hl 0 rfl) ?_
        refine va_get (C := RX7) (T := TX7) (N := 17) hx hb hts inX7 hown hK.1 hP 0 rfl rfl 8 (by decide) f25 (fun _ h9 => h9) rfl dX7_latest_15 ?_
        refine lv_iload_n hx hb dX7_latest_18 rfl (lv_at hl 2 rfl) ?_
        obtain ⟨z19, hf⟩ := oi hf
        refine a_ild hx hb hK hP 2 rfl z19 i2.toNatClampNeg rfl dX7_latest_19 ?_
        refine lv_iload_n hx hb dX7_latest_20 rfl (lv_at hl 1 rfl) ?_
        refine lv_icmp_le (tgt := 33) hx hb dX7_latest_21 (by decide) (fun c21 => ?_) (fun c21 => ?_)
        · replace hf := ip c21 hf
          refine lv_iload_n hx hb dX7_latest_33 rfl (lv_at hl 1 rfl) ?_
          refine lv_istore_n (lv' := [(1, .int i1), (0, .ref ax), (2, .int i2)]) hx hb dX7_latest_34 rfl hl (by decide) rfl (fun ls hl => ?_)
          refine lv_iinc (v := i2 + (1 : Int32)) (lv' := [(2, .int (i2 + (1 : Int32))), (1, .int i1), (0, .ref ax)]) hx hb dX7_latest_35 hl (k := 2) rfl rfl (by decide) rfl (fun ls hl => ?_)
          refine lv_goto (tgt := 4) hx hb dX7_latest_38 (by decide) ?_
          exact ih4 i1 (i2 + (1 : Int32)) _ _ _ hP hD hS (lv_sub hl [2, 1, 0] rfl) hf
        · replace hf := iq c21 hf
          refine lv_aload_n hx hb dX7_latest_24 rfl (lv_at hl 0 rfl) ?_
          refine va_get (C := RX7) (T := TX7) (N := 17) hx hb hts inX7 hown hK.1 hP 0 rfl rfl 8 (by decide) f25 (fun _ h9 => h9) rfl dX7_latest_25 ?_
          refine lv_iload_n hx hb dX7_latest_28 rfl (lv_at hl 2 rfl) ?_
          obtain ⟨z29, hf⟩ := oi hf
          refine a_ild hx hb hK hP 2 rfl z29 i2.toNatClampNeg rfl dX7_latest_29 ?_
          refine lv_goto (tgt := 34) hx hb dX7_latest_30 (by decide) ?_
          refine lv_istore_n (lv' := [(1, .int (x_dones i2.toNatClampNeg)), (0, .ref ax), (2, .int i2)]) hx hb dX7_latest_34 rfl hl (by decide) rfl (fun ls hl => ?_)
          refine lv_iinc (v := i2 + (1 : Int32)) (lv' := [(2, .int (i2 + (1 : Int32))), (1, .int (x_dones i2.toNatClampNeg)), (0, .ref ax)]) hx hb dX7_latest_35 hl (k := 2) rfl rfl (by decide) rfl (fun ls hl => ?_)
          refine lv_goto (tgt := 4) hx hb dX7_latest_38 (by decide) ?_
          exact ih4 (x_dones i2.toNatClampNeg) (i2 + (1 : Int32)) _ _ _ hP hD hS (lv_sub hl [2, 1, 0] rfl) hf
  exact hL4 300 (0 : Int32) (0 : Int32) _ _ _ hP hD hS (lv_sub hl [2, 1, 0] rfl) hf
abbrev rX7_overtakes : Room := { frames := 0, cells := 0, slots := 0, locals := 0 }
set_option maxHeartbeats 4000000 in
set_option maxRecDepth 100000 in
theorem c_X7_overtakes (l : Launch) (D : va_G) (cyI cyC cyS : ClassId) (sz : Nat) (ax : Nat) (ax_row : Nat) (ax_text : Nat) (ax_read : Nat) (ax_undone : Nat) (ax_order : Nat) (ax_dones : Nat) (ax_aside : Nat) (ax_tapedWho : Nat) (ax_tapedTill : Nat) (ax_kept : Nat) (x_letters : Int32) (x_at : Int32) (x_undos : Int32) (x_away : Int32) (x_bestSet : Int32) (x_taped : Int32) (x_keeps : Int32) (x_row : Nat → Int32) (x_dones : Nat → Int32) (i1 : Int32) {r : Int32} (hf : S_X7_overtakes i1 x_row x_dones = some r) : Met l yX7_overtakes wsX7_overtakes rX7_overtakes (Cpre [.ref ax, .int i1] D cyI cyC cyS sz [(ax, .inr (7, [.ref ax_row, .ref ax_text, .int x_letters, .int x_at, .ref ax_read, .ref ax_undone, .int x_undos, .ref ax_order, .ref ax_dones, .int x_away, .int x_bestSet, .ref ax_aside, .ref ax_tapedWho, .ref ax_tapedTill, .int x_taped, .ref ax_kept, .int x_keeps])), (ax_row, .inl (cyI, 28, .inl x_row)), (ax_dones, .inl (cyI, 8, .inl x_dones))]) (CQi r D [(ax, .inr (7, [.ref ax_row, .ref ax_text, .int x_letters, .int x_at, .ref ax_read, .ref ax_undone, .int x_undos, .ref ax_order, .ref ax_dones, .int x_away, .int x_bestSet, .ref ax_aside, .ref ax_tapedWho, .ref ax_tapedTill, .int x_taped, .ref ax_kept, .int x_keeps])), (ax_row, .inl (cyI, 28, .inl x_row)), (ax_dones, .inl (cyI, 8, .inl x_dones))] (va_A [(ax, .inr (7, [.ref ax_row, .ref ax_text, .int x_letters, .int x_at, .ref ax_read, .ref ax_undone, .int x_undos, .ref ax_order, .ref ax_dones, .int x_away, .int x_bestSet, .ref ax_aside, .ref ax_tapedWho, .ref ax_tapedTill, .int x_taped, .ref ax_kept, .int x_keeps])), (ax_row, .inl (cyI, 28, .inl x_row)), (ax_dones, .inl (cyI, 8, .inl x_dones))] sz)) 0 0 (va_A [(ax, .inr (7, [.ref ax_row, .ref ax_text, .int x_letters, .int x_at, .ref ax_read, .ref ax_undone, .int x_undos, .ref ax_order, .ref ax_dones, .int x_away, .int x_bestSet, .ref ax_aside, .ref ax_tapedWho, .ref ax_tapedTill, .int x_taped, .ref ax_kept, .int x_keeps])), (ax_row, .inl (cyI, 28, .inl x_row)), (ax_dones, .inl (cyI, 8, .inl x_dones))] sz) := by
  refine Met.ofW (cc := cX7_overtakes) (maxL := 4) (ret := (some .int)) (by decide) rfl ?_
  intro p e s m args below meth c s₁ B hml hv
  obtain ⟨rfl, hsz, hP, hK, hD0⟩ := hv
  have hx := B.exec
  have hb := B.bytes
  have hr := B.returns
  have hts := atoms_spec (ws := wsX7_overtakes) B.pre
  have hown : s.vm.findClass RX7 = some m.cls := findClass_of_methodNamed B.named
  have hlocks := B.notSynchronized
  subst hsz
  have hD := hD0.self (sz := s.heap.size)
  generalize hAe : va_A [(ax, .inr (7, [.ref ax_row, .ref ax_text, .int x_letters, .int x_at, .ref ax_read, .ref ax_undone, .int x_undos, .ref ax_order, .ref ax_dones, .int x_away, .int x_bestSet, .ref ax_aside, .ref ax_tapedWho, .ref ax_tapedTill, .int x_taped, .ref ax_kept, .int x_keeps])), (ax_row, .inl (cyI, 28, .inl x_row)), (ax_dones, .inl (cyI, 8, .inl x_dones))] s.heap.size = A at hD ⊢
  have hA : ∀ q : Nat, s.heap.size ≤ q → A q := fun q h => by rw [← hAe]; exact Or.inr h
  have hS : va_S A s.heap s.heap [] := va_S.rf
  have hl := lv_entry ([.ref ax, .int i1]) (n := 4) (Nat.le_of_ble_eq_true rfl)
  rw [lg_entry_eq]
  generalize (lg_sl ([.ref ax, .int i1]) ++ List.replicate (4 - (lg_sl ([.ref ax, .int i1])).length) Slot.unset).toArray = ls at hl ⊢
  have hl : lv_has ls 4 [(0, .ref ax), (1, .int i1)] := hl
  have f7 := hts (.fieldLink RX7 7 "SecondTillModel" "row" "[I") (by decide +kernel)
  have inX7 : ∀ w ∈ u_ws RX7 TX7 17, w ∈ wsX7_overtakes := by decide +kernel
  have f25 := hts (.fieldLink RX7 25 "SecondTillModel" "dones" "[I") (by decide +kernel)
  unfold S_X7_overtakes at hf
  have hP : va_P D vwCl [(ax, .inr (7, [.ref ax_row, .ref ax_text, .int x_letters, .int x_at, .ref ax_read, .ref ax_undone, .int x_undos, .ref ax_order, .ref ax_dones, .int x_away, .int x_bestSet, .ref ax_aside, .ref ax_tapedWho, .ref ax_tapedTill, .int x_taped, .ref ax_kept, .int x_keeps])), (ax_row, .inl (cyI, 28, .inl x_row)), (ax_dones, .inl (cyI, 8, .inl x_dones))] s.heap := hP
  suffices hgo : ∀ (H : Heap) (locs : List Loc), va_P D vwCl [(ax, .inr (7, [.ref ax_row, .ref ax_text, .int x_letters, .int x_at, .ref ax_read, .ref ax_undone, .int x_undos, .ref ax_order, .ref ax_dones, .int x_away, .int x_bestSet, .ref ax_aside, .ref ax_tapedWho, .ref ax_tapedTill, .int x_taped, .ref ax_kept, .int x_keeps])), (ax_row, .inl (cyI, 28, .inl x_row)), (ax_dones, .inl (cyI, 8, .inl x_dones))] H → va_S A s.heap H locs → W p l e rX7_overtakes s m (([.ref ax, .int i1] : List Value).toArray) below meth c H locs 0 0 (MQ below (CQi r D [(ax, .inr (7, [.ref ax_row, .ref ax_text, .int x_letters, .int x_at, .ref ax_read, .ref ax_undone, .int x_undos, .ref ax_order, .ref ax_dones, .int x_away, .int x_bestSet, .ref ax_aside, .ref ax_tapedWho, .ref ax_tapedTill, .int x_taped, .ref ax_kept, .int x_keeps])), (ax_row, .inl (cyI, 28, .inl x_row)), (ax_dones, .inl (cyI, 8, .inl x_dones))] A) (([.ref ax, .int i1] : List Value).toArray) s 0 0 A) (F0 m 0 ls []) from hgo _ _ hP hS
  clear hP hS
  intro H locs hP hS
  refine lv_iconst (v := 0) hx hb dX7_overtakes_0 (by decide) ?_
  refine lv_istore_n (lv' := [(2, .int (0 : Int32)), (0, .ref ax), (1, .int i1)]) hx hb dX7_overtakes_1 rfl hl (by decide) rfl (fun ls hl => ?_)
  refine lv_iload_n hx hb dX7_overtakes_2 rfl (lv_at hl 2 rfl) ?_
  refine lv_iconst (v := 1) hx hb dX7_overtakes_3 (by decide) ?_
  refine lv_iadd hx hb dX7_overtakes_4 ?_
  refine lv_istore_n (lv' := [(3, .int (i1 + (1 : Int32))), (2, .int (0 : Int32)), (0, .ref ax), (1, .int i1)]) hx hb dX7_overtakes_5 rfl hl (by decide) rfl (fun ls hl => ?_)
  have hL6 : ∀ (n6 : Nat) (i2 : Int32) (i3 : Int32) (H : Heap) (locs : List Loc) (ls : Array Slot), va_P D vwCl [(ax, .inr (7, [.ref ax_row, .ref ax_text, .int x_letters, .int x_at, .ref ax_read, .ref ax_undone, .int x_undos, .ref ax_order, .ref ax_dones, .int x_away, .int x_bestSet, .ref ax_aside, .ref ax_tapedWho, .ref ax_tapedTill, .int x_taped, .ref ax_kept, .int x_keeps])), (ax_row, .inl (cyI, 28, .inl x_row)), (ax_dones, .inl (cyI, 8, .inl x_dones))] H → va_D A [(ax, .inr (7, [.ref ax_row, .ref ax_text, .int x_letters, .int x_at, .ref ax_read, .ref ax_undone, .int x_undos, .ref ax_order, .ref ax_dones, .int x_away, .int x_bestSet, .ref ax_aside, .ref ax_tapedWho, .ref ax_tapedTill, .int x_taped, .ref ax_kept, .int x_keeps])), (ax_row, .inl (cyI, 28, .inl x_row)), (ax_dones, .inl (cyI, 8, .inl x_dones))] → va_S A s.heap H locs → lv_has ls 4 [(0, .ref ax), (1, .int i1), (2, .int i2), (3, .int i3)] → S_X7_overtakes_L6 i1 x_row x_dones n6 i2 i3 = some r → W p l e rX7_overtakes s m (([.ref ax, .int i1] : List Value).toArray) below meth c H locs 0 0 (MQ below (CQi r D [(ax, .inr (7, [.ref ax_row, .ref ax_text, .int x_letters, .int x_at, .ref ax_read, .ref ax_undone, .int x_undos, .ref ax_order, .ref ax_dones, .int x_away, .int x_bestSet, .ref ax_aside, .ref ax_tapedWho, .ref ax_tapedTill, .int x_taped, .ref ax_kept, .int x_keeps])), (ax_row, .inl (cyI, 28, .inl x_row)), (ax_dones, .inl (cyI, 8, .inl x_dones))] A) (([.ref ax, .int i1] : List Value).toArray) s 0 0 A) (F0 m 6 ls []) := by
    intro n6
    induction n6 with
    | zero => intro i2 i3 H locs ls hP hD hS hl hf; exact absurd hf (by simp [S_X7_overtakes_L6])
    | succ n6 ih6 =>
      intro i2 i3 H locs ls hP hD hS hl hf
      rw [S_X7_overtakes_L6] at hf
      refine lv_iload_n hx hb dX7_overtakes_6 rfl (lv_at hl 3 rfl) ?_
      refine lv_aload_n hx hb dX7_overtakes_7 rfl (lv_at hl 0 rfl) ?_
      refine va_get (C := RX7) (T := TX7) (N := 17) hx hb hts inX7 hown hK.1 hP 0 rfl rfl 0 (by decide) f7 (fun _ h9 => h9) rfl dX7_overtakes_8 ?_
      refine lv_iconst (v := 0) hx hb dX7_overtakes_11 (by decide) ?_
      refine a_ild hx hb hK hP 1 rfl (vin (by decide)) 0 (by decide) dX7_overtakes_12 ?_
      refine lv_icmp_ge (tgt := 47) hx hb dX7_overtakes_13 (by decide) (fun c13 => ?_) (fun c13 => ?_)
      · replace hf := ip c13 hf
        refine lv_iload_n hx hb dX7_overtakes_47 rfl (lv_at hl 2 rfl) ?_
        obtain rfl := Option.some.inj hf
        exact W.iret hx hb hr (fun t ht hW => ⟨⟨_, (), rfl, rfl, by rw [ht]; exact hP, hD⟩, hS.F ht⟩) hS.2.2 dX7_overtakes_48
      · replace hf := iq c13 hf
        refine lv_iload_n hx hb dX7_overtakes_16 rfl (lv_at hl 2 rfl) ?_
        refine lv_aload_n hx hb dX7_overtakes_17 rfl (lv_at hl 0 rfl) ?_
        refine va_get (C := RX7) (T := TX7) (N := 17) hx hb hts inX7 hown hK.1 hP 0 rfl rfl 8 (by decide) f25 (fun _ h9 => h9) rfl dX7_overtakes_18 ?_
        refine lv_iload_n hx hb dX7_overtakes_21 rfl (lv_at hl 3 rfl) ?_
        obtain ⟨z22, hf⟩ := oi hf
        refine a_ild hx hb hK hP 2 rfl z22 i3.toNatClampNeg rfl dX7_overtakes_22 ?_
        refine lv_aload_n hx hb dX7_overtakes_23 rfl (lv_at hl 0 rfl) ?_
        refine va_get (C := RX7) (T := TX7) (N := 17) hx hb hts inX7 hown hK.1 hP 0 rfl rfl 8 (by decide) f25 (fun _ h9 => h9) rfl dX7_overtakes_24 ?_
        refine lv_iload_n hx hb dX7_overtakes_27 rfl (lv_at hl 1 rfl) ?_
        obtain ⟨z28, hf⟩ := oi hf
        refine a_ild hx hb hK hP 2 rfl z28 i1.toNatClampNeg rfl dX7_overtakes_28 ?_
        refine lv_icmp_ge (tgt := 38) hx hb dX7_overtakes_29 (by decide) (fun c29 => ?_) (fun c29 => ?_)
        · replace hf := ip c29 hf
          refine lv_iconst (v := 0) hx hb dX7_overtakes_38 (by decide) ?_
          refine lv_ior hx hb dX7_overtakes_39 ?_
          refine lv_istore_n (lv' := [(2, .int (i2 ||| (0 : Int32))), (0, .ref ax), (1, .int i1), (3, .int i3)]) hx hb dX7_overtakes_40 rfl hl (by decide) rfl (fun ls hl => ?_)
          refine lv_iinc (v := i3 + (1 : Int32)) (lv' := [(3, .int (i3 + (1 : Int32))), (2, .int (i2 ||| (0 : Int32))), (0, .ref ax), (1, .int i1)]) hx hb dX7_overtakes_41 hl (k := 3) rfl rfl (by decide) rfl (fun ls hl => ?_)
          refine lv_goto (tgt := 6) hx hb dX7_overtakes_44 (by decide) ?_
          exact ih6 (i2 ||| (0 : Int32)) (i3 + (1 : Int32)) _ _ _ hP hD hS (lv_sub hl [2, 3, 1, 0] rfl) hf
        · replace hf := iq c29 hf
          refine lv_iconst (v := 1) hx hb dX7_overtakes_32 (by decide) ?_
          refine lv_iload_n hx hb dX7_overtakes_33 rfl (lv_at hl 3 rfl) ?_
          refine lv_ishl hx hb dX7_overtakes_34 ?_
          refine lv_goto (tgt := 39) hx hb dX7_overtakes_35 (by decide) ?_
          refine lv_ior hx hb dX7_overtakes_39 ?_
          refine lv_istore_n (lv' := [(2, .int (i2 ||| ((1 : Int32) <<< (i3 &&& 31)))), (0, .ref ax), (1, .int i1), (3, .int i3)]) hx hb dX7_overtakes_40 rfl hl (by decide) rfl (fun ls hl => ?_)
          refine lv_iinc (v := i3 + (1 : Int32)) (lv' := [(3, .int (i3 + (1 : Int32))), (2, .int (i2 ||| ((1 : Int32) <<< (i3 &&& 31)))), (0, .ref ax), (1, .int i1)]) hx hb dX7_overtakes_41 hl (k := 3) rfl rfl (by decide) rfl (fun ls hl => ?_)
          refine lv_goto (tgt := 6) hx hb dX7_overtakes_44 (by decide) ?_
          exact ih6 (i2 ||| ((1 : Int32) <<< (i3 &&& 31))) (i3 + (1 : Int32)) _ _ _ hP hD hS (lv_sub hl [2, 3, 1, 0] rfl) hf
  exact hL6 300 (0 : Int32) (i1 + (1 : Int32)) _ _ _ hP hD hS (lv_sub hl [2, 3, 1, 0] rfl) hf
abbrev rX7_overtakings : Room := { frames := 1, cells := 0, slots := 0, locals := 23 }
set_option maxHeartbeats 4000000 in
set_option maxRecDepth 100000 in
theorem c_X7_overtakings (l : Launch) (D : va_G) (cyI cyC cyS : ClassId) (sz : Nat) (ax : Nat) (ax_row : Nat) (ax_text : Nat) (ax_read : Nat) (ax_undone : Nat) (ax_order : Nat) (ax_dones : Nat) (ax_aside : Nat) (ax_tapedWho : Nat) (ax_tapedTill : Nat) (ax_kept : Nat) (x_letters : Int32) (x_at : Int32) (x_undos : Int32) (x_away : Int32) (x_bestSet : Int32) (x_taped : Int32) (x_keeps : Int32) (x_row : Nat → Int32) (x_dones : Nat → Int32) {r : Int32} (hf : S_X7_overtakings x_row x_dones = some r) : Met l yX7_overtakings wsX7_overtakings rX7_overtakings (Cpre [.ref ax] D cyI cyC cyS sz [(ax, .inr (7, [.ref ax_row, .ref ax_text, .int x_letters, .int x_at, .ref ax_read, .ref ax_undone, .int x_undos, .ref ax_order, .ref ax_dones, .int x_away, .int x_bestSet, .ref ax_aside, .ref ax_tapedWho, .ref ax_tapedTill, .int x_taped, .ref ax_kept, .int x_keeps])), (ax_row, .inl (cyI, 28, .inl x_row)), (ax_dones, .inl (cyI, 8, .inl x_dones))]) (CQi r D [(ax, .inr (7, [.ref ax_row, .ref ax_text, .int x_letters, .int x_at, .ref ax_read, .ref ax_undone, .int x_undos, .ref ax_order, .ref ax_dones, .int x_away, .int x_bestSet, .ref ax_aside, .ref ax_tapedWho, .ref ax_tapedTill, .int x_taped, .ref ax_kept, .int x_keeps])), (ax_row, .inl (cyI, 28, .inl x_row)), (ax_dones, .inl (cyI, 8, .inl x_dones))] (va_A [(ax, .inr (7, [.ref ax_row, .ref ax_text, .int x_letters, .int x_at, .ref ax_read, .ref ax_undone, .int x_undos, .ref ax_order, .ref ax_dones, .int x_away, .int x_bestSet, .ref ax_aside, .ref ax_tapedWho, .ref ax_tapedTill, .int x_taped, .ref ax_kept, .int x_keeps])), (ax_row, .inl (cyI, 28, .inl x_row)), (ax_dones, .inl (cyI, 8, .inl x_dones))] sz)) 0 0 (va_A [(ax, .inr (7, [.ref ax_row, .ref ax_text, .int x_letters, .int x_at, .ref ax_read, .ref ax_undone, .int x_undos, .ref ax_order, .ref ax_dones, .int x_away, .int x_bestSet, .ref ax_aside, .ref ax_tapedWho, .ref ax_tapedTill, .int x_taped, .ref ax_kept, .int x_keeps])), (ax_row, .inl (cyI, 28, .inl x_row)), (ax_dones, .inl (cyI, 8, .inl x_dones))] sz) := by
  refine Met.ofW (cc := cX7_overtakings) (maxL := 3) (ret := (some .int)) (by decide) rfl ?_
  intro p e s m args below meth c s₁ B hml hv
  obtain ⟨rfl, hsz, hP, hK, hD0⟩ := hv
  have hx := B.exec
  have hb := B.bytes
  have hr := B.returns
  have hts := atoms_spec (ws := wsX7_overtakings) B.pre
  have hown : s.vm.findClass RX7 = some m.cls := findClass_of_methodNamed B.named
  have hlocks := B.notSynchronized
  subst hsz
  have hD := hD0.self (sz := s.heap.size)
  generalize hAe : va_A [(ax, .inr (7, [.ref ax_row, .ref ax_text, .int x_letters, .int x_at, .ref ax_read, .ref ax_undone, .int x_undos, .ref ax_order, .ref ax_dones, .int x_away, .int x_bestSet, .ref ax_aside, .ref ax_tapedWho, .ref ax_tapedTill, .int x_taped, .ref ax_kept, .int x_keeps])), (ax_row, .inl (cyI, 28, .inl x_row)), (ax_dones, .inl (cyI, 8, .inl x_dones))] s.heap.size = A at hD ⊢
  have hA : ∀ q : Nat, s.heap.size ≤ q → A q := fun q h => by rw [← hAe]; exact Or.inr h
  have hS : va_S A s.heap s.heap [] := va_S.rf
  have hl := lv_entry ([.ref ax]) (n := 3) (Nat.le_of_ble_eq_true rfl)
  rw [lg_entry_eq]
  generalize (lg_sl ([.ref ax]) ++ List.replicate (3 - (lg_sl ([.ref ax])).length) Slot.unset).toArray = ls at hl ⊢
  have hl : lv_has ls 3 [(0, .ref ax)] := hl
  have f7 := hts (.fieldLink RX7 7 "SecondTillModel" "row" "[I") (by decide +kernel)
  have inX7 : ∀ w ∈ u_ws RX7 TX7 17, w ∈ wsX7_overtakings := by decide +kernel
  unfold S_X7_overtakings at hf
  have hP : va_P D vwCl [(ax, .inr (7, [.ref ax_row, .ref ax_text, .int x_letters, .int x_at, .ref ax_read, .ref ax_undone, .int x_undos, .ref ax_order, .ref ax_dones, .int x_away, .int x_bestSet, .ref ax_aside, .ref ax_tapedWho, .ref ax_tapedTill, .int x_taped, .ref ax_kept, .int x_keeps])), (ax_row, .inl (cyI, 28, .inl x_row)), (ax_dones, .inl (cyI, 8, .inl x_dones))] s.heap := hP
  suffices hgo : ∀ (H : Heap) (locs : List Loc), va_P D vwCl [(ax, .inr (7, [.ref ax_row, .ref ax_text, .int x_letters, .int x_at, .ref ax_read, .ref ax_undone, .int x_undos, .ref ax_order, .ref ax_dones, .int x_away, .int x_bestSet, .ref ax_aside, .ref ax_tapedWho, .ref ax_tapedTill, .int x_taped, .ref ax_kept, .int x_keeps])), (ax_row, .inl (cyI, 28, .inl x_row)), (ax_dones, .inl (cyI, 8, .inl x_dones))] H → va_S A s.heap H locs → W p l e rX7_overtakings s m (([.ref ax] : List Value).toArray) below meth c H locs 0 0 (MQ below (CQi r D [(ax, .inr (7, [.ref ax_row, .ref ax_text, .int x_letters, .int x_at, .ref ax_read, .ref ax_undone, .int x_undos, .ref ax_order, .ref ax_dones, .int x_away, .int x_bestSet, .ref ax_aside, .ref ax_tapedWho, .ref ax_tapedTill, .int x_taped, .ref ax_kept, .int x_keeps])), (ax_row, .inl (cyI, 28, .inl x_row)), (ax_dones, .inl (cyI, 8, .inl x_dones))] A) (([.ref ax] : List Value).toArray) s 0 0 A) (F0 m 0 ls []) from hgo _ _ hP hS
  clear hP hS
  intro H locs hP hS
  refine lv_iconst (v := 0) hx hb dX7_overtakings_0 (by decide) ?_
  refine lv_istore_n (lv' := [(1, .int (0 : Int32)), (0, .ref ax)]) hx hb dX7_overtakings_1 rfl hl (by decide) rfl (fun ls hl => ?_)
  refine lv_iconst (v := 0) hx hb dX7_overtakings_2 (by decide) ?_
  refine lv_istore_n (lv' := [(2, .int (0 : Int32)), (1, .int (0 : Int32)), (0, .ref ax)]) hx hb dX7_overtakings_3 rfl hl (by decide) rfl (fun ls hl => ?_)
  have hL4 : ∀ (n4 : Nat) (i1 : Int32) (i2 : Int32) (H : Heap) (locs : List Loc) (ls : Array Slot), va_P D vwCl [(ax, .inr (7, [.ref ax_row, .ref ax_text, .int x_letters, .int x_at, .ref ax_read, .ref ax_undone, .int x_undos, .ref ax_order, .ref ax_dones, .int x_away, .int x_bestSet, .ref ax_aside, .ref ax_tapedWho, .ref ax_tapedTill, .int x_taped, .ref ax_kept, .int x_keeps])), (ax_row, .inl (cyI, 28, .inl x_row)), (ax_dones, .inl (cyI, 8, .inl x_dones))] H → va_D A [(ax, .inr (7, [.ref ax_row, .ref ax_text, .int x_letters, .int x_at, .ref ax_read, .ref ax_undone, .int x_undos, .ref ax_order, .ref ax_dones, .int x_away, .int x_bestSet, .ref ax_aside, .ref ax_tapedWho, .ref ax_tapedTill, .int x_taped, .ref ax_kept, .int x_keeps])), (ax_row, .inl (cyI, 28, .inl x_row)), (ax_dones, .inl (cyI, 8, .inl x_dones))] → va_S A s.heap H locs → lv_has ls 3 [(0, .ref ax), (1, .int i1), (2, .int i2)] → S_X7_overtakings_L4 x_row x_dones n4 i1 i2 = some r → W p l e rX7_overtakings s m (([.ref ax] : List Value).toArray) below meth c H locs 0 0 (MQ below (CQi r D [(ax, .inr (7, [.ref ax_row, .ref ax_text, .int x_letters, .int x_at, .ref ax_read, .ref ax_undone, .int x_undos, .ref ax_order, .ref ax_dones, .int x_away, .int x_bestSet, .ref ax_aside, .ref ax_tapedWho, .ref ax_tapedTill, .int x_taped, .ref ax_kept, .int x_keeps])), (ax_row, .inl (cyI, 28, .inl x_row)), (ax_dones, .inl (cyI, 8, .inl x_dones))] A) (([.ref ax] : List Value).toArray) s 0 0 A) (F0 m 4 ls []) := by
    intro n4
    induction n4 with
    | zero => intro i1 i2 H locs ls hP hD hS hl hf; exact absurd hf (by simp [S_X7_overtakings_L4])
    | succ n4 ih4 =>
      intro i1 i2 H locs ls hP hD hS hl hf
      rw [S_X7_overtakings_L4] at hf
      refine lv_iload_n hx hb dX7_overtakings_4 rfl (lv_at hl 2 rfl) ?_
      refine lv_aload_n hx hb dX7_overtakings_5 rfl (lv_at hl 0 rfl) ?_
      refine va_get (C := RX7) (T := TX7) (N := 17) hx hb hts inX7 hown hK.1 hP 0 rfl rfl 0 (by decide) f7 (fun _ h9 => h9) rfl dX7_overtakings_6 ?_
      refine lv_iconst (v := 0) hx hb dX7_overtakings_9 (by decide) ?_
      refine a_ild hx hb hK hP 1 rfl (vin (by decide)) 0 (by decide) dX7_overtakings_10 ?_
      refine lv_icmp_ge (tgt := 31) hx hb dX7_overtakings_11 (by decide) (fun c11 => ?_) (fun c11 => ?_)
      · replace hf := ip c11 hf
        refine lv_iload_n hx hb dX7_overtakings_31 rfl (lv_at hl 1 rfl) ?_
        obtain rfl := Option.some.inj hf
        exact W.iret hx hb hr (fun t ht hW => ⟨⟨_, (), rfl, rfl, by rw [ht]; exact hP, hD⟩, hS.F ht⟩) hS.2.2 dX7_overtakings_32
      · replace hf := iq c11 hf
        refine lv_iload_n hx hb dX7_overtakings_14 rfl (lv_at hl 1 rfl) ?_
        refine lv_aload_n hx hb dX7_overtakings_15 rfl (lv_at hl 0 rfl) ?_
        refine lv_iload_n hx hb dX7_overtakings_16 rfl (lv_at hl 2 rfl) ?_
        obtain ⟨r17, q17, hf⟩ := ob hf
        refine k_i (wc := [(ax, .inr (7, [.ref ax_row, .ref ax_text, .int x_letters, .int x_at, .ref ax_read, .ref ax_undone, .int x_undos, .ref ax_order, .ref ax_dones, .int x_away, .int x_bestSet, .ref ax_aside, .ref ax_tapedWho, .ref ax_tapedTill, .int x_taped, .ref ax_kept, .int x_keeps])), (ax_row, .inl (cyI, 28, .inl x_row)), (ax_dones, .inl (cyI, 8, .inl x_dones))]) (wr := []) (w1 := [(ax, .inr (7, [.ref ax_row, .ref ax_text, .int x_letters, .int x_at, .ref ax_read, .ref ax_undone, .int x_undos, .ref ax_order, .ref ax_dones, .int x_away, .int x_bestSet, .ref ax_aside, .ref ax_tapedWho, .ref ax_tapedTill, .int x_taped, .ref ax_kept, .int x_keeps])), (ax_row, .inl (cyI, 28, .inl x_row)), (ax_dones, .inl (cyI, 8, .inl x_dones))]) (wn := [(ax, .inr (7, [.ref ax_row, .ref ax_text, .int x_letters, .int x_at, .ref ax_read, .ref ax_undone, .int x_undos, .ref ax_order, .ref ax_dones, .int x_away, .int x_bestSet, .ref ax_aside, .ref ax_tapedWho, .ref ax_tapedTill, .int x_taped, .ref ax_kept, .int x_keeps])), (ax_row, .inl (cyI, 28, .inl x_row)), (ax_dones, .inl (cyI, 8, .inl x_dones))]) (va_runV (As := [.int i2]) (rest := [.int i1]) ⟨hx, hb, hml, hown, hts⟩ (c_X7_overtakes l D cyI cyC cyS H.size ax ax_row ax_text ax_read ax_undone ax_order ax_dones ax_aside ax_tapedWho ax_tapedTill ax_kept x_letters x_at x_undos x_away x_bestSet x_taped x_keeps x_row x_dones i2 q17) (cwV 1 hts gX7_overtakings_X7_overtakes rfl rfl rfl (by decide +kernel) ⟨Nat.le_of_ble_eq_true rfl, Nat.le_of_ble_eq_true rfl⟩) (preV (ci := 7) hK (hP.subm (ws' := [(ax, .inr (7, [.ref ax_row, .ref ax_text, .int x_letters, .int x_at, .ref ax_read, .ref ax_undone, .int x_undos, .ref ax_order, .ref ax_dones, .int x_away, .int x_bestSet, .ref ax_aside, .ref ax_tapedWho, .ref ax_tapedTill, .int x_taped, .ref ax_kept, .int x_keeps])), (ax_row, .inl (cyI, 28, .inl x_row)), (ax_dones, .inl (cyI, 8, .inl x_dones))]) [0, 1, 2] rfl) (hD.sub (ws' := [(ax, .inr (7, [.ref ax_row, .ref ax_text, .int x_letters, .int x_at, .ref ax_read, .ref ax_undone, .int x_undos, .ref ax_order, .ref ax_dones, .int x_away, .int x_bestSet, .ref ax_aside, .ref ax_tapedWho, .ref ax_tapedTill, .int x_taped, .ref ax_kept, .int x_keeps])), (ax_row, .inl (cyI, 28, .inl x_row)), (ax_dones, .inl (cyI, 8, .inl x_dones))]) [0, 1, 2] (by decide) rfl) rfl rfl) rfl rfl hl.1 rfl (lv_room (Nat.le_of_ble_eq_true rfl)) dX7_overtakings_17 ⟨Nat.le_of_ble_eq_true rfl, Nat.le_of_ble_eq_true rfl⟩) hP hD hS hA [0, 1, 2] [] [0, 1, 2] rfl rfl rfl (by decide) (by decide) (by decide) (fun H locs hP hD hS => ?_)
        obtain ⟨r20, q20, hf⟩ := ob hf
        refine k_i (wc := []) (wr := [(ax, .inr (7, [.ref ax_row, .ref ax_text, .int x_letters, .int x_at, .ref ax_read, .ref ax_undone, .int x_undos, .ref ax_order, .ref ax_dones, .int x_away, .int x_bestSet, .ref ax_aside, .ref ax_tapedWho, .ref ax_tapedTill, .int x_taped, .ref ax_kept, .int x_keeps])), (ax_row, .inl (cyI, 28, .inl x_row)), (ax_dones, .inl (cyI, 8, .inl x_dones))]) (w1 := []) (wn := [(ax, .inr (7, [.ref ax_row, .ref ax_text, .int x_letters, .int x_at, .ref ax_read, .ref ax_undone, .int x_undos, .ref ax_order, .ref ax_dones, .int x_away, .int x_bestSet, .ref ax_aside, .ref ax_tapedWho, .ref ax_tapedTill, .int x_taped, .ref ax_kept, .int x_keeps])), (ax_row, .inl (cyI, 28, .inl x_row)), (ax_dones, .inl (cyI, 8, .inl x_dones))]) (va_runS (As := [.int r17]) (rest := [.int i1]) ⟨hx, hb, hml, hown, hts⟩ (c_X7_many l D cyI cyC cyS H.size r17 q20) (va_cwS 1 hts gX7_overtakings_X7_many rfl rfl rfl (by decide +kernel) ⟨Nat.le_of_ble_eq_true rfl, Nat.le_of_ble_eq_true rfl⟩) (preS hK (hP.subm (ws' := []) [] rfl) (hD.sub (ws' := []) [] (by decide) rfl)) rfl rfl hl.1 rfl (lv_room (Nat.le_of_ble_eq_true rfl)) dX7_overtakings_20 ⟨Nat.le_of_ble_eq_true rfl, Nat.le_of_ble_eq_true rfl⟩) hP hD hS hA [] [0, 1, 2] [0, 1, 2] rfl rfl rfl (by decide) (by decide) (by decide) (fun H locs hP hD hS => ?_)
        refine lv_iadd hx hb dX7_overtakings_23 ?_
        refine lv_istore_n (lv' := [(1, .int (i1 + r20)), (0, .ref ax), (2, .int i2)]) hx hb dX7_overtakings_24 rfl hl (by decide) rfl (fun ls hl => ?_)
        refine lv_iinc (v := i2 + (1 : Int32)) (lv' := [(2, .int (i2 + (1 : Int32))), (1, .int (i1 + r20)), (0, .ref ax)]) hx hb dX7_overtakings_25 hl (k := 2) rfl rfl (by decide) rfl (fun ls hl => ?_)
        refine lv_goto (tgt := 4) hx hb dX7_overtakings_28 (by decide) ?_
        exact ih4 (i1 + r20) (i2 + (1 : Int32)) _ _ _ hP hD hS (lv_sub hl [2, 1, 0] rfl) hf
  exact hL4 300 (0 : Int32) (0 : Int32) _ _ _ hP hD hS (lv_sub hl [2, 1, 0] rfl) hf
abbrev rX7_goes : Room := { frames := 4, cells := 0, slots := 0, locals := 91 }
set_option maxHeartbeats 4000000 in
set_option maxRecDepth 100000 in
theorem c_X7_goes (l : Launch) (D : va_G) (cyI cyC cyS : ClassId) (sz : Nat) (ax : Nat) (ax_row : Nat) (ax_text : Nat) (ax_read : Nat) (ax_undone : Nat) (ax_order : Nat) (ax_dones : Nat) (ax_aside : Nat) (ax_tapedWho : Nat) (ax_tapedTill : Nat) (ax_kept : Nat) (x_letters : Int32) (x_at : Int32) (x_undos : Int32) (x_away : Int32) (x_bestSet : Int32) (x_taped : Int32) (x_keeps : Int32) (x_row : Nat → Int32) (x_order : Nat → Int32) (x_dones : Nat → Int32) (i1 : Int32) {r : Int32} {o_x_away : Int32} {o_x_order : Nat → Int32} {o_x_dones : Nat → Int32} (hf : S_X7_goes i1 x_away x_row x_order x_dones = some (r, o_x_away, o_x_order, o_x_dones)) : Met l yX7_goes wsX7_goes rX7_goes (Cpre [.ref ax, .int i1] D cyI cyC cyS sz [(ax, .inr (7, [.ref ax_row, .ref ax_text, .int x_letters, .int x_at, .ref ax_read, .ref ax_undone, .int x_undos, .ref ax_order, .ref ax_dones, .int x_away, .int x_bestSet, .ref ax_aside, .ref ax_tapedWho, .ref ax_tapedTill, .int x_taped, .ref ax_kept, .int x_keeps])), (ax_row, .inl (cyI, 28, .inl x_row)), (ax_order, .inl (cyI, 8, .inl x_order)), (ax_dones, .inl (cyI, 8, .inl x_dones))]) (CQi r D [(ax, .inr (7, [.ref ax_row, .ref ax_text, .int x_letters, .int x_at, .ref ax_read, .ref ax_undone, .int x_undos, .ref ax_order, .ref ax_dones, .int o_x_away, .int x_bestSet, .ref ax_aside, .ref ax_tapedWho, .ref ax_tapedTill, .int x_taped, .ref ax_kept, .int x_keeps])), (ax_row, .inl (cyI, 28, .inl x_row)), (ax_order, .inl (cyI, 8, .inl o_x_order)), (ax_dones, .inl (cyI, 8, .inl o_x_dones))] (va_A [(ax, .inr (7, [.ref ax_row, .ref ax_text, .int x_letters, .int x_at, .ref ax_read, .ref ax_undone, .int x_undos, .ref ax_order, .ref ax_dones, .int x_away, .int x_bestSet, .ref ax_aside, .ref ax_tapedWho, .ref ax_tapedTill, .int x_taped, .ref ax_kept, .int x_keeps])), (ax_row, .inl (cyI, 28, .inl x_row)), (ax_order, .inl (cyI, 8, .inl x_order)), (ax_dones, .inl (cyI, 8, .inl x_dones))] sz)) 0 0 (va_A [(ax, .inr (7, [.ref ax_row, .ref ax_text, .int x_letters, .int x_at, .ref ax_read, .ref ax_undone, .int x_undos, .ref ax_order, .ref ax_dones, .int x_away, .int x_bestSet, .ref ax_aside, .ref ax_tapedWho, .ref ax_tapedTill, .int x_taped, .ref ax_kept, .int x_keeps])), (ax_row, .inl (cyI, 28, .inl x_row)), (ax_order, .inl (cyI, 8, .inl x_order)), (ax_dones, .inl (cyI, 8, .inl x_dones))] sz) := by
  refine Met.ofW (cc := cX7_goes) (maxL := 6) (ret := (some .int)) (by decide) rfl ?_
  intro p e s m args below meth c s₁ B hml hv
  obtain ⟨rfl, hsz, hP, hK, hD0⟩ := hv
  have hx := B.exec
  have hb := B.bytes
  have hr := B.returns
  have hts := atoms_spec (ws := wsX7_goes) B.pre
  have hown : s.vm.findClass RX7 = some m.cls := findClass_of_methodNamed B.named
  have hlocks := B.notSynchronized
  subst hsz
  have hD := hD0.self (sz := s.heap.size)
  generalize hAe : va_A [(ax, .inr (7, [.ref ax_row, .ref ax_text, .int x_letters, .int x_at, .ref ax_read, .ref ax_undone, .int x_undos, .ref ax_order, .ref ax_dones, .int x_away, .int x_bestSet, .ref ax_aside, .ref ax_tapedWho, .ref ax_tapedTill, .int x_taped, .ref ax_kept, .int x_keeps])), (ax_row, .inl (cyI, 28, .inl x_row)), (ax_order, .inl (cyI, 8, .inl x_order)), (ax_dones, .inl (cyI, 8, .inl x_dones))] s.heap.size = A at hD ⊢
  have hA : ∀ q : Nat, s.heap.size ≤ q → A q := fun q h => by rw [← hAe]; exact Or.inr h
  have hS : va_S A s.heap s.heap [] := va_S.rf
  have hl := lv_entry ([.ref ax, .int i1]) (n := 6) (Nat.le_of_ble_eq_true rfl)
  rw [lg_entry_eq]
  generalize (lg_sl ([.ref ax, .int i1]) ++ List.replicate (6 - (lg_sl ([.ref ax, .int i1])).length) Slot.unset).toArray = ls at hl ⊢
  have hl : lv_has ls 6 [(0, .ref ax), (1, .int i1)] := hl
  have k141 := hts (.constantLong RX7 141 (-1)) (by decide +kernel)
  have k143 := hts (.constantLong RX7 143 (7)) (by decide +kernel)
  have f7 := hts (.fieldLink RX7 7 "SecondTillModel" "row" "[I") (by decide +kernel)
  have inX7 : ∀ w ∈ u_ws RX7 TX7 17, w ∈ wsX7_goes := by decide +kernel
  have f119 := hts (.fieldLink RX7 119 "SecondTillModel" "away" "I") (by decide +kernel)
  have f22 := hts (.fieldLink RX7 22 "SecondTillModel" "order" "[I") (by decide +kernel)
  unfold S_X7_goes at hf
  have hP : va_P D vwCl [(ax, .inr (7, [.ref ax_row, .ref ax_text, .int x_letters, .int x_at, .ref ax_read, .ref ax_undone, .int x_undos, .ref ax_order, .ref ax_dones, .int x_away, .int x_bestSet, .ref ax_aside, .ref ax_tapedWho, .ref ax_tapedTill, .int x_taped, .ref ax_kept, .int x_keeps])), (ax_row, .inl (cyI, 28, .inl x_row)), (ax_order, .inl (cyI, 8, .inl x_order)), (ax_dones, .inl (cyI, 8, .inl x_dones))] s.heap := hP
  suffices hgo : ∀ (H : Heap) (locs : List Loc), va_P D vwCl [(ax, .inr (7, [.ref ax_row, .ref ax_text, .int x_letters, .int x_at, .ref ax_read, .ref ax_undone, .int x_undos, .ref ax_order, .ref ax_dones, .int x_away, .int x_bestSet, .ref ax_aside, .ref ax_tapedWho, .ref ax_tapedTill, .int x_taped, .ref ax_kept, .int x_keeps])), (ax_row, .inl (cyI, 28, .inl x_row)), (ax_order, .inl (cyI, 8, .inl x_order)), (ax_dones, .inl (cyI, 8, .inl x_dones))] H → va_S A s.heap H locs → W p l e rX7_goes s m (([.ref ax, .int i1] : List Value).toArray) below meth c H locs 0 0 (MQ below (CQi r D [(ax, .inr (7, [.ref ax_row, .ref ax_text, .int x_letters, .int x_at, .ref ax_read, .ref ax_undone, .int x_undos, .ref ax_order, .ref ax_dones, .int o_x_away, .int x_bestSet, .ref ax_aside, .ref ax_tapedWho, .ref ax_tapedTill, .int x_taped, .ref ax_kept, .int x_keeps])), (ax_row, .inl (cyI, 28, .inl x_row)), (ax_order, .inl (cyI, 8, .inl o_x_order)), (ax_dones, .inl (cyI, 8, .inl o_x_dones))] A) (([.ref ax, .int i1] : List Value).toArray) s 0 0 A) (F0 m 0 ls []) from hgo _ _ hP hS
  clear hP hS
  intro H locs hP hS
  refine lv_iload_n hx hb dX7_goes_0 rfl (lv_at hl 1 rfl) ?_
  refine lv_i2l (v := i1.toInt64) hx hb dX7_goes_1 rfl ?_
  refine lv_ldc2 hx hb hown k141 dX7_goes_2 ?_
  refine lv_ldc2 hx hb hown k143 dX7_goes_5 ?_
  obtain ⟨r8, q8, hf⟩ := ob hf
  refine k_i (wc := []) (wr := [(ax, .inr (7, [.ref ax_row, .ref ax_text, .int x_letters, .int x_at, .ref ax_read, .ref ax_undone, .int x_undos, .ref ax_order, .ref ax_dones, .int x_away, .int x_bestSet, .ref ax_aside, .ref ax_tapedWho, .ref ax_tapedTill, .int x_taped, .ref ax_kept, .int x_keeps])), (ax_row, .inl (cyI, 28, .inl x_row)), (ax_order, .inl (cyI, 8, .inl x_order)), (ax_dones, .inl (cyI, 8, .inl x_dones))]) (w1 := []) (wn := [(ax, .inr (7, [.ref ax_row, .ref ax_text, .int x_letters, .int x_at, .ref ax_read, .ref ax_undone, .int x_undos, .ref ax_order, .ref ax_dones, .int x_away, .int x_bestSet, .ref ax_aside, .ref ax_tapedWho, .ref ax_tapedTill, .int x_taped, .ref ax_kept, .int x_keeps])), (ax_row, .inl (cyI, 28, .inl x_row)), (ax_order, .inl (cyI, 8, .inl x_order)), (ax_dones, .inl (cyI, 8, .inl x_dones))]) (va_runS (As := [.long i1.toInt64, .long (-1 : Int64), .long (7 : Int64)]) (rest := []) ⟨hx, hb, hml, hown, hts⟩ (c_X7_in l D cyI cyC cyS H.size i1.toInt64 (-1 : Int64) (7 : Int64) q8) (va_cwS 3 hts gX7_goes_X7_in rfl rfl rfl (by decide +kernel) ⟨Nat.le_of_ble_eq_true rfl, Nat.le_of_ble_eq_true rfl⟩) (preS hK (hP.subm (ws' := []) [] rfl) (hD.sub (ws' := []) [] (by decide) rfl)) rfl rfl hl.1 rfl (lv_room (Nat.le_of_ble_eq_true rfl)) dX7_goes_8 ⟨Nat.le_of_ble_eq_true rfl, Nat.le_of_ble_eq_true rfl⟩) hP hD hS hA [] [0, 1, 2, 3] [0, 1, 2, 3] rfl rfl rfl (by decide) (by decide) (by decide) (fun H locs hP hD hS => ?_)
  refine lv_if_ne (tgt := 16) hx hb dX7_goes_11 (by decide) (fun c11 => ?_) (fun c11 => ?_)
  · replace hf := iq c11 hf
    refine lv_aload_n hx hb dX7_goes_16 rfl (lv_at hl 0 rfl) ?_
    obtain ⟨⟨x_away_o17, x_order_o17, x_dones_o17⟩, q17, hf⟩ := ob hf
    replace hf : _ = _ := hf
    refine k_v (wc := [(ax, .inr (7, [.ref ax_row, .ref ax_text, .int x_letters, .int x_at, .ref ax_read, .ref ax_undone, .int x_undos, .ref ax_order, .ref ax_dones, .int x_away, .int x_bestSet, .ref ax_aside, .ref ax_tapedWho, .ref ax_tapedTill, .int x_taped, .ref ax_kept, .int x_keeps])), (ax_row, .inl (cyI, 28, .inl x_row)), (ax_order, .inl (cyI, 8, .inl x_order)), (ax_dones, .inl (cyI, 8, .inl x_dones))]) (wr := []) (w1 := [(ax, .inr (7, [.ref ax_row, .ref ax_text, .int x_letters, .int x_at, .ref ax_read, .ref ax_undone, .int x_undos, .ref ax_order, .ref ax_dones, .int x_away_o17, .int x_bestSet, .ref ax_aside, .ref ax_tapedWho, .ref ax_tapedTill, .int x_taped, .ref ax_kept, .int x_keeps])), (ax_row, .inl (cyI, 28, .inl x_row)), (ax_order, .inl (cyI, 8, .inl x_order_o17)), (ax_dones, .inl (cyI, 8, .inl x_dones_o17))]) (wn := [(ax, .inr (7, [.ref ax_row, .ref ax_text, .int x_letters, .int x_at, .ref ax_read, .ref ax_undone, .int x_undos, .ref ax_order, .ref ax_dones, .int x_away_o17, .int x_bestSet, .ref ax_aside, .ref ax_tapedWho, .ref ax_tapedTill, .int x_taped, .ref ax_kept, .int x_keeps])), (ax_row, .inl (cyI, 28, .inl x_row)), (ax_order, .inl (cyI, 8, .inl x_order_o17)), (ax_dones, .inl (cyI, 8, .inl x_dones_o17))]) (va_runV (As := []) (rest := []) ⟨hx, hb, hml, hown, hts⟩ (c_X7_opens l D cyI cyC cyS H.size ax ax_row ax_text ax_read ax_undone ax_order ax_dones ax_aside ax_tapedWho ax_tapedTill ax_kept x_letters x_at x_undos x_away x_bestSet x_taped x_keeps x_row x_order x_dones q17) (cwV 0 hts gX7_goes_X7_opens rfl rfl rfl (by decide +kernel) ⟨Nat.le_of_ble_eq_true rfl, Nat.le_of_ble_eq_true rfl⟩) (preV (ci := 7) hK (hP.subm (ws' := [(ax, .inr (7, [.ref ax_row, .ref ax_text, .int x_letters, .int x_at, .ref ax_read, .ref ax_undone, .int x_undos, .ref ax_order, .ref ax_dones, .int x_away, .int x_bestSet, .ref ax_aside, .ref ax_tapedWho, .ref ax_tapedTill, .int x_taped, .ref ax_kept, .int x_keeps])), (ax_row, .inl (cyI, 28, .inl x_row)), (ax_order, .inl (cyI, 8, .inl x_order)), (ax_dones, .inl (cyI, 8, .inl x_dones))]) [0, 1, 2, 3] rfl) (hD.sub (ws' := [(ax, .inr (7, [.ref ax_row, .ref ax_text, .int x_letters, .int x_at, .ref ax_read, .ref ax_undone, .int x_undos, .ref ax_order, .ref ax_dones, .int x_away, .int x_bestSet, .ref ax_aside, .ref ax_tapedWho, .ref ax_tapedTill, .int x_taped, .ref ax_kept, .int x_keeps])), (ax_row, .inl (cyI, 28, .inl x_row)), (ax_order, .inl (cyI, 8, .inl x_order)), (ax_dones, .inl (cyI, 8, .inl x_dones))]) [0, 1, 2, 3] (by decide) rfl) rfl rfl) rfl rfl hl.1 rfl (lv_room (Nat.le_of_ble_eq_true rfl)) dX7_goes_17 ⟨Nat.le_of_ble_eq_true rfl, Nat.le_of_ble_eq_true rfl⟩) hP hD hS hA [0, 1, 2, 3] [] [0, 1, 2, 3] rfl rfl rfl (by decide) (by decide) (by decide) (fun H locs hP hD hS => ?_)
    refine lv_iload_n hx hb dX7_goes_20 rfl (lv_at hl 1 rfl) ?_
    refine lv_if_ge (tgt := 29) hx hb dX7_goes_21 (by decide) (fun c21 => ?_) (fun c21 => ?_)
    · replace hf := ip c21 hf
      refine lv_iconst (v := 0) hx hb dX7_goes_29 (by decide) ?_
      refine lv_istore_n (lv' := [(2, .int (0 : Int32)), (0, .ref ax), (1, .int i1)]) hx hb dX7_goes_30 rfl hl (by decide) rfl (fun ls hl => ?_)
      refine lv_bipush (v := -4) hx hb dX7_goes_31 (by decide) ?_
      refine lv_istore_n (lv' := [(3, .int (-4 : Int32)), (2, .int (0 : Int32)), (0, .ref ax), (1, .int i1)]) hx hb dX7_goes_33 rfl hl (by decide) rfl (fun ls hl => ?_)
      refine lv_iconst (v := 0) hx hb dX7_goes_34 (by decide) ?_
      refine lv_istore (lv' := [(4, .int (0 : Int32)), (3, .int (-4 : Int32)), (2, .int (0 : Int32)), (0, .ref ax), (1, .int i1)]) hx hb dX7_goes_35 hl (by decide) rfl (fun ls hl => ?_)
      have hL37 : ∀ (n37 : Nat) (x_away : Int32) (x_order : Nat → Int32) (x_dones : Nat → Int32) (i2 : Int32) (i3 : Int32) (i4 : Int32) (H : Heap) (locs : List Loc) (ls : Array Slot), va_P D vwCl [(ax, .inr (7, [.ref ax_row, .ref ax_text, .int x_letters, .int x_at, .ref ax_read, .ref ax_undone, .int x_undos, .ref ax_order, .ref ax_dones, .int x_away, .int x_bestSet, .ref ax_aside, .ref ax_tapedWho, .ref ax_tapedTill, .int x_taped, .ref ax_kept, .int x_keeps])), (ax_row, .inl (cyI, 28, .inl x_row)), (ax_order, .inl (cyI, 8, .inl x_order)), (ax_dones, .inl (cyI, 8, .inl x_dones))] H → va_D A [(ax, .inr (7, [.ref ax_row, .ref ax_text, .int x_letters, .int x_at, .ref ax_read, .ref ax_undone, .int x_undos, .ref ax_order, .ref ax_dones, .int x_away, .int x_bestSet, .ref ax_aside, .ref ax_tapedWho, .ref ax_tapedTill, .int x_taped, .ref ax_kept, .int x_keeps])), (ax_row, .inl (cyI, 28, .inl x_row)), (ax_order, .inl (cyI, 8, .inl x_order)), (ax_dones, .inl (cyI, 8, .inl x_dones))] → va_S A s.heap H locs → lv_has ls 6 [(0, .ref ax), (1, .int i1), (2, .int i2), (3, .int i3), (4, .int i4)] → S_X7_goes_L37 i1 x_away x_order x_dones x_row n37 i2 i3 i4 = some (r, o_x_away, o_x_order, o_x_dones) → W p l e rX7_goes s m (([.ref ax, .int i1] : List Value).toArray) below meth c H locs 0 0 (MQ below (CQi r D [(ax, .inr (7, [.ref ax_row, .ref ax_text, .int x_letters, .int x_at, .ref ax_read, .ref ax_undone, .int x_undos, .ref ax_order, .ref ax_dones, .int o_x_away, .int x_bestSet, .ref ax_aside, .ref ax_tapedWho, .ref ax_tapedTill, .int x_taped, .ref ax_kept, .int x_keeps])), (ax_row, .inl (cyI, 28, .inl x_row)), (ax_order, .inl (cyI, 8, .inl o_x_order)), (ax_dones, .inl (cyI, 8, .inl o_x_dones))] A) (([.ref ax, .int i1] : List Value).toArray) s 0 0 A) (F0 m 37 ls []) := by
        intro n37
        induction n37 with
        | zero => intro x_away x_order x_dones i2 i3 i4 H locs ls hP hD hS hl hf; exact absurd hf (by simp [S_X7_goes_L37])
        | succ n37 ih37 =>
          intro x_away x_order x_dones i2 i3 i4 H locs ls hP hD hS hl hf
          rw [S_X7_goes_L37] at hf
          refine lv_iload hx hb dX7_goes_37 (lv_at hl 4 rfl) ?_
          refine lv_aload_n hx hb dX7_goes_39 rfl (lv_at hl 0 rfl) ?_
          refine va_get (C := RX7) (T := TX7) (N := 17) hx hb hts inX7 hown hK.1 hP 0 rfl rfl 0 (by decide) f7 (fun _ h9 => h9) rfl dX7_goes_40 ?_
          refine lv_iconst (v := 0) hx hb dX7_goes_43 (by decide) ?_
          refine a_ild hx hb hK hP 1 rfl (vin (by decide)) 0 (by decide) dX7_goes_44 ?_
          refine lv_icmp_ge (tgt := 114) hx hb dX7_goes_45 (by decide) (fun c45 => ?_) (fun c45 => ?_)
          · replace hf := ip c45 hf
            refine lv_iload_n hx hb dX7_goes_114 rfl (lv_at hl 3 rfl) ?_
            simp only [Option.some.injEq, Prod.mk.injEq] at hf
            obtain ⟨rfl, rfl, rfl, rfl⟩ := hf
            exact W.iret hx hb hr (fun t ht hW => ⟨⟨_, (), rfl, rfl, by rw [ht]; exact hP, hD⟩, hS.F ht⟩) hS.2.2 dX7_goes_115
          · replace hf := iq c45 hf
            refine lv_aload_n hx hb dX7_goes_48 rfl (lv_at hl 0 rfl) ?_
            refine va_get (C := RX7) (T := TX7) (N := 17) hx hb hts inX7 hown hK.1 hP 0 rfl rfl 9 (by decide) f119 (fun _ h9 => h9) rfl dX7_goes_49 ?_
            refine lv_aload_n hx hb dX7_goes_52 rfl (lv_at hl 0 rfl) ?_
            refine va_get (C := RX7) (T := TX7) (N := 17) hx hb hts inX7 hown hK.1 hP 0 rfl rfl 7 (by decide) f22 (fun _ h9 => h9) rfl dX7_goes_53 ?_
            refine lv_iload hx hb dX7_goes_56 (lv_at hl 4 rfl) ?_
            obtain ⟨z58, hf⟩ := oi hf
            refine a_ild hx hb hK hP 2 rfl z58 i4.toNatClampNeg rfl dX7_goes_58 ?_
            refine lv_ishr hx hb dX7_goes_59 ?_
            refine lv_iconst (v := 1) hx hb dX7_goes_60 (by decide) ?_
            refine lv_iand hx hb dX7_goes_61 ?_
            refine lv_iconst (v := 1) hx hb dX7_goes_62 (by decide) ?_
            have hJ71 : ∀ (s0_71 : Int32) (H : Heap) (locs : List Loc) (ls : Array Slot), va_P D vwCl [(ax, .inr (7, [.ref ax_row, .ref ax_text, .int x_letters, .int x_at, .ref ax_read, .ref ax_undone, .int x_undos, .ref ax_order, .ref ax_dones, .int x_away, .int x_bestSet, .ref ax_aside, .ref ax_tapedWho, .ref ax_tapedTill, .int x_taped, .ref ax_kept, .int x_keeps])), (ax_row, .inl (cyI, 28, .inl x_row)), (ax_order, .inl (cyI, 8, .inl x_order)), (ax_dones, .inl (cyI, 8, .inl x_dones))] H → va_D A [(ax, .inr (7, [.ref ax_row, .ref ax_text, .int x_letters, .int x_at, .ref ax_read, .ref ax_undone, .int x_undos, .ref ax_order, .ref ax_dones, .int x_away, .int x_bestSet, .ref ax_aside, .ref ax_tapedWho, .ref ax_tapedTill, .int x_taped, .ref ax_kept, .int x_keeps])), (ax_row, .inl (cyI, 28, .inl x_row)), (ax_order, .inl (cyI, 8, .inl x_order)), (ax_dones, .inl (cyI, 8, .inl x_dones))] → va_S A s.heap H locs → lv_has ls 6 [(0, .ref ax), (1, .int i1), (2, .int i2), (3, .int i3), (4, .int i4)] → (jn (fun (s0_94 : Int32) => (if s0_71 = 0 then
((S_X7_goes_L37 i1 x_away x_order x_dones x_row n37) (i2 + (0 : Int32)) s0_94 (i4 + (1 : Int32))) else
((S_X7_goes_L37 i1 x_away x_order x_dones x_row n37) (i2 + (1 : Int32)) s0_94 (i4 + (1 : Int32))))) (fun J94 =>
(jn ((J94 i3)) (fun J93 =>
(if s0_71 = 0 then
J93 else
(if i2 = i1 then
(if i4 < 0 ∨ 8 ≤ i4.toNatClampNeg then none else
(J94 (x_order i4.toNatClampNeg))) else
J93)))))) = some (r, o_x_away, o_x_order, o_x_dones) → W p l e rX7_goes s m (([.ref ax, .int i1] : List Value).toArray) below meth c H locs 0 0 (MQ below (CQi r D [(ax, .inr (7, [.ref ax_row, .ref ax_text, .int x_letters, .int x_at, .ref ax_read, .ref ax_undone, .int x_undos, .ref ax_order, .ref ax_dones, .int o_x_away, .int x_bestSet, .ref ax_aside, .ref ax_tapedWho, .ref ax_tapedTill, .int x_taped, .ref ax_kept, .int x_keeps])), (ax_row, .inl (cyI, 28, .inl x_row)), (ax_order, .inl (cyI, 8, .inl o_x_order)), (ax_dones, .inl (cyI, 8, .inl o_x_dones))] A) (([.ref ax, .int i1] : List Value).toArray) s 0 0 A) (F0 m 71 ls [.int s0_71]) := by
              intro s0_71 H locs ls hP hD hS hl hf
              refine lv_istore (lv' := [(5, .int s0_71), (0, .ref ax), (1, .int i1), (2, .int i2), (3, .int i3), (4, .int i4)]) hx hb dX7_goes_71 hl (by decide) rfl (fun ls hl => ?_)
              refine lv_iload hx hb dX7_goes_73 (lv_at hl 0 rfl) ?_
              have hJ94 : ∀ (s0_94 : Int32) (H : Heap) (locs : List Loc) (ls : Array Slot), va_P D vwCl [(ax, .inr (7, [.ref ax_row, .ref ax_text, .int x_letters, .int x_at, .ref ax_read, .ref ax_undone, .int x_undos, .ref ax_order, .ref ax_dones, .int x_away, .int x_bestSet, .ref ax_aside, .ref ax_tapedWho, .ref ax_tapedTill, .int x_taped, .ref ax_kept, .int x_keeps])), (ax_row, .inl (cyI, 28, .inl x_row)), (ax_order, .inl (cyI, 8, .inl x_order)), (ax_dones, .inl (cyI, 8, .inl x_dones))] H → va_D A [(ax, .inr (7, [.ref ax_row, .ref ax_text, .int x_letters, .int x_at, .ref ax_read, .ref ax_undone, .int x_undos, .ref ax_order, .ref ax_dones, .int x_away, .int x_bestSet, .ref ax_aside, .ref ax_tapedWho, .ref ax_tapedTill, .int x_taped, .ref ax_kept, .int x_keeps])), (ax_row, .inl (cyI, 28, .inl x_row)), (ax_order, .inl (cyI, 8, .inl x_order)), (ax_dones, .inl (cyI, 8, .inl x_dones))] → va_S A s.heap H locs → lv_has ls 6 [(0, .ref ax), (1, .int i1), (2, .int i2), (4, .int i4), (5, .int s0_71)] → (if s0_71 = 0 then
((S_X7_goes_L37 i1 x_away x_order x_dones x_row n37) (i2 + (0 : Int32)) s0_94 (i4 + (1 : Int32))) else
((S_X7_goes_L37 i1 x_away x_order x_dones x_row n37) (i2 + (1 : Int32)) s0_94 (i4 + (1 : Int32)))) = some (r, o_x_away, o_x_order, o_x_dones) → W p l e rX7_goes s m (([.ref ax, .int i1] : List Value).toArray) below meth c H locs 0 0 (MQ below (CQi r D [(ax, .inr (7, [.ref ax_row, .ref ax_text, .int x_letters, .int x_at, .ref ax_read, .ref ax_undone, .int x_undos, .ref ax_order, .ref ax_dones, .int o_x_away, .int x_bestSet, .ref ax_aside, .ref ax_tapedWho, .ref ax_tapedTill, .int x_taped, .ref ax_kept, .int x_keeps])), (ax_row, .inl (cyI, 28, .inl x_row)), (ax_order, .inl (cyI, 8, .inl o_x_order)), (ax_dones, .inl (cyI, 8, .inl o_x_dones))] A) (([.ref ax, .int i1] : List Value).toArray) s 0 0 A) (F0 m 94 ls [.int s0_94]) := by
                intro s0_94 H locs ls hP hD hS hl hf
                refine lv_istore_n (lv' := [(3, .int s0_94), (0, .ref ax), (1, .int i1), (2, .int i2), (4, .int i4), (5, .int s0_71)]) hx hb dX7_goes_94 rfl hl (by decide) rfl (fun ls hl => ?_)
                refine lv_iload_n hx hb dX7_goes_95 rfl (lv_at hl 3 rfl) ?_
                refine lv_iload hx hb dX7_goes_96 (lv_at hl 5 rfl) ?_
                refine lv_if_eq (tgt := 105) hx hb dX7_goes_98 (by decide) (fun c98 => ?_) (fun c98 => ?_)
                · replace hf := ip c98 hf
                  refine lv_iconst (v := 0) hx hb dX7_goes_105 (by decide) ?_
                  refine lv_iadd hx hb dX7_goes_106 ?_
                  refine lv_istore_n (lv' := [(2, .int (i2 + (0 : Int32))), (3, .int s0_94), (0, .ref ax), (1, .int i1), (4, .int i4), (5, .int s0_71)]) hx hb dX7_goes_107 rfl hl (by decide) rfl (fun ls hl => ?_)
                  refine lv_iinc (v := i4 + (1 : Int32)) (lv' := [(4, .int (i4 + (1 : Int32))), (2, .int (i2 + (0 : Int32))), (3, .int s0_94), (0, .ref ax), (1, .int i1), (5, .int s0_71)]) hx hb dX7_goes_108 hl (k := 4) rfl rfl (by decide) rfl (fun ls hl => ?_)
                  refine lv_goto (tgt := 37) hx hb dX7_goes_111 (by decide) ?_
                  exact ih37 x_away x_order x_dones (i2 + (0 : Int32)) s0_94 (i4 + (1 : Int32)) _ _ _ hP hD hS (lv_sub hl [3, 4, 1, 2, 0] rfl) hf
                · replace hf := iq c98 hf
                  refine lv_iconst (v := 1) hx hb dX7_goes_101 (by decide) ?_
                  refine lv_goto (tgt := 106) hx hb dX7_goes_102 (by decide) ?_
                  refine lv_iadd hx hb dX7_goes_106 ?_
                  refine lv_istore_n (lv' := [(2, .int (i2 + (1 : Int32))), (3, .int s0_94), (0, .ref ax), (1, .int i1), (4, .int i4), (5, .int s0_71)]) hx hb dX7_goes_107 rfl hl (by decide) rfl (fun ls hl => ?_)
                  refine lv_iinc (v := i4 + (1 : Int32)) (lv' := [(4, .int (i4 + (1 : Int32))), (2, .int (i2 + (1 : Int32))), (3, .int s0_94), (0, .ref ax), (1, .int i1), (5, .int s0_71)]) hx hb dX7_goes_108 hl (k := 4) rfl rfl (by decide) rfl (fun ls hl => ?_)
                  refine lv_goto (tgt := 37) hx hb dX7_goes_111 (by decide) ?_
                  exact ih37 x_away x_order x_dones (i2 + (1 : Int32)) s0_94 (i4 + (1 : Int32)) _ _ _ hP hD hS (lv_sub hl [3, 4, 1, 2, 0] rfl) hf
              replace hf := jn_h hf
              have hJ93 : ∀ (H : Heap) (locs : List Loc) (ls : Array Slot), va_P D vwCl [(ax, .inr (7, [.ref ax_row, .ref ax_text, .int x_letters, .int x_at, .ref ax_read, .ref ax_undone, .int x_undos, .ref ax_order, .ref ax_dones, .int x_away, .int x_bestSet, .ref ax_aside, .ref ax_tapedWho, .ref ax_tapedTill, .int x_taped, .ref ax_kept, .int x_keeps])), (ax_row, .inl (cyI, 28, .inl x_row)), (ax_order, .inl (cyI, 8, .inl x_order)), (ax_dones, .inl (cyI, 8, .inl x_dones))] H → va_D A [(ax, .inr (7, [.ref ax_row, .ref ax_text, .int x_letters, .int x_at, .ref ax_read, .ref ax_undone, .int x_undos, .ref ax_order, .ref ax_dones, .int x_away, .int x_bestSet, .ref ax_aside, .ref ax_tapedWho, .ref ax_tapedTill, .int x_taped, .ref ax_kept, .int x_keeps])), (ax_row, .inl (cyI, 28, .inl x_row)), (ax_order, .inl (cyI, 8, .inl x_order)), (ax_dones, .inl (cyI, 8, .inl x_dones))] → va_S A s.heap H locs → lv_has ls 6 [(0, .ref ax), (1, .int i1), (2, .int i2), (3, .int i3), (4, .int i4), (5, .int s0_71)] → ((fun (s0_94 : Int32) => (if s0_71 = 0 then ((S_X7_goes_L37 i1 x_away x_order x_dones x_row n37) (i2 + (0 : Int32)) s0_94 (i4 + (1 : Int32))) else ((S_X7_goes_L37 i1 x_away x_order x_dones x_row n37) (i2 + (1 : Int32)) s0_94 (i4 + (1 : Int32))))) i3) = some (r, o_x_away, o_x_order, o_x_dones) → W p l e rX7_goes s m (([.ref ax, .int i1] : List Value).toArray) below meth c H locs 0 0 (MQ below (CQi r D [(ax, .inr (7, [.ref ax_row, .ref ax_text, .int x_letters, .int x_at, .ref ax_read, .ref ax_undone, .int x_undos, .ref ax_order, .ref ax_dones, .int o_x_away, .int x_bestSet, .ref ax_aside, .ref ax_tapedWho, .ref ax_tapedTill, .int x_taped, .ref ax_kept, .int x_keeps])), (ax_row, .inl (cyI, 28, .inl x_row)), (ax_order, .inl (cyI, 8, .inl o_x_order)), (ax_dones, .inl (cyI, 8, .inl o_x_dones))] A) (([.ref ax, .int i1] : List Value).toArray) s 0 0 A) (F0 m 93 ls []) := by
                intro  H locs ls hP hD hS hl hf
                refine lv_iload_n hx hb dX7_goes_93 rfl (lv_at hl 3 rfl) ?_
                exact hJ94 i3 _ _ _ hP hD hS (lv_sub hl [0, 1, 2, 4, 5] rfl) hf
              replace hf := jn_h hf
              refine lv_if_eq (tgt := 93) hx hb dX7_goes_75 (by decide) (fun c75 => ?_) (fun c75 => ?_)
              · replace hf := ip c75 hf
                exact hJ93 _ _ _ hP hD hS (lv_sub hl [1, 2, 3, 4, 5, 0] rfl) hf
              · replace hf := iq c75 hf
                refine lv_iload_n hx hb dX7_goes_78 rfl (lv_at hl 3 rfl) ?_
                refine lv_iload_n hx hb dX7_goes_79 rfl (lv_at hl 2 rfl) ?_
                refine lv_icmp_ne (tgt := 93) hx hb dX7_goes_80 (by decide) (fun c80 => ?_) (fun c80 => ?_)
                · replace hf := iq c80 hf
                  exact hJ93 _ _ _ hP hD hS (lv_sub hl [1, 2, 3, 4, 5, 0] rfl) hf
                · replace hf := ip c80 hf
                  refine lv_aload_n hx hb dX7_goes_83 rfl (lv_at hl 1 rfl) ?_
                  refine va_get (C := RX7) (T := TX7) (N := 17) hx hb hts inX7 hown hK.1 hP 0 rfl rfl 7 (by decide) f22 (fun _ h9 => h9) rfl dX7_goes_84 ?_
                  refine lv_iload hx hb dX7_goes_87 (lv_at hl 5 rfl) ?_
                  obtain ⟨z89, hf⟩ := oi hf
                  refine a_ild hx hb hK hP 2 rfl z89 i4.toNatClampNeg rfl dX7_goes_89 ?_
                  refine lv_goto (tgt := 94) hx hb dX7_goes_90 (by decide) ?_
                  exact hJ94 (x_order i4.toNatClampNeg) _ _ _ hP hD hS (lv_sub hl [1, 2, 3, 5, 0] rfl) hf
            replace hf := jn_h hf
            refine lv_icmp_ne (tgt := 70) hx hb dX7_goes_63 (by decide) (fun c63 => ?_) (fun c63 => ?_)
            · replace hf := iq c63 hf
              refine lv_iconst (v := 0) hx hb dX7_goes_70 (by decide) ?_
              exact hJ71 (0 : Int32) _ _ _ hP hD hS (lv_sub hl [0, 1, 2, 3, 4] rfl) hf
            · replace hf := ip c63 hf
              refine lv_iconst (v := 1) hx hb dX7_goes_66 (by decide) ?_
              refine lv_goto (tgt := 71) hx hb dX7_goes_67 (by decide) ?_
              exact hJ71 (1 : Int32) _ _ _ hP hD hS (lv_sub hl [0, 1, 2, 3, 4] rfl) hf
      exact hL37 300 x_away_o17 x_order_o17 x_dones_o17 (0 : Int32) (-4 : Int32) (0 : Int32) _ _ _ hP hD hS (lv_sub hl [3, 4, 2, 1, 0] rfl) hf
    · replace hf := iq c21 hf
      refine lv_aload_n hx hb dX7_goes_24 rfl (lv_at hl 0 rfl) ?_
      refine va_get (C := RX7) (T := TX7) (N := 17) hx hb hts inX7 hown hK.1 hP 0 rfl rfl 9 (by decide) f119 (fun _ h9 => h9) rfl dX7_goes_25 ?_
      simp only [Option.some.injEq, Prod.mk.injEq] at hf
      obtain ⟨rfl, rfl, rfl, rfl⟩ := hf
      exact W.iret hx hb hr (fun t ht hW => ⟨⟨_, (), rfl, rfl, by rw [ht]; exact hP, hD⟩, hS.F ht⟩) hS.2.2 dX7_goes_28
  · replace hf := ip c11 hf
    refine lv_iconst (v := -1) hx hb dX7_goes_14 (by decide) ?_
    simp only [Option.some.injEq, Prod.mk.injEq] at hf
    obtain ⟨rfl, rfl, rfl, rfl⟩ := hf
    exact W.iret hx hb hr (fun t ht hW => ⟨⟨_, (), rfl, rfl, by rw [ht]; exact hP, hD⟩, hS.F ht⟩) hS.2.2 dX7_goes_15
abbrev rX7_isAsked : Room := { frames := 2, cells := 0, slots := 0, locals := 46 }
set_option maxHeartbeats 4000000 in
set_option maxRecDepth 100000 in
theorem c_X7_isAsked (l : Launch) (D : va_G) (cyI cyC cyS : ClassId) (sz : Nat) (ax : Nat) (ax_row : Nat) (ax_text : Nat) (ax_read : Nat) (ax_undone : Nat) (ax_order : Nat) (ax_dones : Nat) (ax_aside : Nat) (ax_tapedWho : Nat) (ax_tapedTill : Nat) (ax_kept : Nat) (x_letters : Int32) (x_at : Int32) (x_undos : Int32) (x_away : Int32) (x_bestSet : Int32) (x_taped : Int32) (x_keeps : Int32) (x_row : Nat → Int32) (i1 : Int32) {r : Int32} (hf : S_X7_isAsked i1 x_row = some r) : Met l yX7_isAsked wsX7_isAsked rX7_isAsked (Cpre [.ref ax, .int i1] D cyI cyC cyS sz [(ax, .inr (7, [.ref ax_row, .ref ax_text, .int x_letters, .int x_at, .ref ax_read, .ref ax_undone, .int x_undos, .ref ax_order, .ref ax_dones, .int x_away, .int x_bestSet, .ref ax_aside, .ref ax_tapedWho, .ref ax_tapedTill, .int x_taped, .ref ax_kept, .int x_keeps])), (ax_row, .inl (cyI, 28, .inl x_row))]) (CQi r D [(ax, .inr (7, [.ref ax_row, .ref ax_text, .int x_letters, .int x_at, .ref ax_read, .ref ax_undone, .int x_undos, .ref ax_order, .ref ax_dones, .int x_away, .int x_bestSet, .ref ax_aside, .ref ax_tapedWho, .ref ax_tapedTill, .int x_taped, .ref ax_kept, .int x_keeps])), (ax_row, .inl (cyI, 28, .inl x_row))] (va_A [(ax, .inr (7, [.ref ax_row, .ref ax_text, .int x_letters, .int x_at, .ref ax_read, .ref ax_undone, .int x_undos, .ref ax_order, .ref ax_dones, .int x_away, .int x_bestSet, .ref ax_aside, .ref ax_tapedWho, .ref ax_tapedTill, .int x_taped, .ref ax_kept, .int x_keeps])), (ax_row, .inl (cyI, 28, .inl x_row))] sz)) 0 0 (va_A [(ax, .inr (7, [.ref ax_row, .ref ax_text, .int x_letters, .int x_at, .ref ax_read, .ref ax_undone, .int x_undos, .ref ax_order, .ref ax_dones, .int x_away, .int x_bestSet, .ref ax_aside, .ref ax_tapedWho, .ref ax_tapedTill, .int x_taped, .ref ax_kept, .int x_keeps])), (ax_row, .inl (cyI, 28, .inl x_row))] sz) := by
  refine Met.ofW (cc := cX7_isAsked) (maxL := 2) (ret := (some .boolean)) (by decide) rfl ?_
  intro p e s m args below meth c s₁ B hml hv
  obtain ⟨rfl, hsz, hP, hK, hD0⟩ := hv
  have hx := B.exec
  have hb := B.bytes
  have hr := B.returns
  have hts := atoms_spec (ws := wsX7_isAsked) B.pre
  have hown : s.vm.findClass RX7 = some m.cls := findClass_of_methodNamed B.named
  have hlocks := B.notSynchronized
  subst hsz
  have hD := hD0.self (sz := s.heap.size)
  generalize hAe : va_A [(ax, .inr (7, [.ref ax_row, .ref ax_text, .int x_letters, .int x_at, .ref ax_read, .ref ax_undone, .int x_undos, .ref ax_order, .ref ax_dones, .int x_away, .int x_bestSet, .ref ax_aside, .ref ax_tapedWho, .ref ax_tapedTill, .int x_taped, .ref ax_kept, .int x_keeps])), (ax_row, .inl (cyI, 28, .inl x_row))] s.heap.size = A at hD ⊢
  have hA : ∀ q : Nat, s.heap.size ≤ q → A q := fun q h => by rw [← hAe]; exact Or.inr h
  have hS : va_S A s.heap s.heap [] := va_S.rf
  have hl := lv_entry ([.ref ax, .int i1]) (n := 2) (Nat.le_of_ble_eq_true rfl)
  rw [lg_entry_eq]
  generalize (lg_sl ([.ref ax, .int i1]) ++ List.replicate (2 - (lg_sl ([.ref ax, .int i1])).length) Slot.unset).toArray = ls at hl ⊢
  have hl : lv_has ls 2 [(0, .ref ax), (1, .int i1)] := hl
  unfold S_X7_isAsked at hf
  have hP : va_P D vwCl [(ax, .inr (7, [.ref ax_row, .ref ax_text, .int x_letters, .int x_at, .ref ax_read, .ref ax_undone, .int x_undos, .ref ax_order, .ref ax_dones, .int x_away, .int x_bestSet, .ref ax_aside, .ref ax_tapedWho, .ref ax_tapedTill, .int x_taped, .ref ax_kept, .int x_keeps])), (ax_row, .inl (cyI, 28, .inl x_row))] s.heap := hP
  suffices hgo : ∀ (H : Heap) (locs : List Loc), va_P D vwCl [(ax, .inr (7, [.ref ax_row, .ref ax_text, .int x_letters, .int x_at, .ref ax_read, .ref ax_undone, .int x_undos, .ref ax_order, .ref ax_dones, .int x_away, .int x_bestSet, .ref ax_aside, .ref ax_tapedWho, .ref ax_tapedTill, .int x_taped, .ref ax_kept, .int x_keeps])), (ax_row, .inl (cyI, 28, .inl x_row))] H → va_S A s.heap H locs → W p l e rX7_isAsked s m (([.ref ax, .int i1] : List Value).toArray) below meth c H locs 0 0 (MQ below (CQi r D [(ax, .inr (7, [.ref ax_row, .ref ax_text, .int x_letters, .int x_at, .ref ax_read, .ref ax_undone, .int x_undos, .ref ax_order, .ref ax_dones, .int x_away, .int x_bestSet, .ref ax_aside, .ref ax_tapedWho, .ref ax_tapedTill, .int x_taped, .ref ax_kept, .int x_keeps])), (ax_row, .inl (cyI, 28, .inl x_row))] A) (([.ref ax, .int i1] : List Value).toArray) s 0 0 A) (F0 m 0 ls []) from hgo _ _ hP hS
  clear hP hS
  intro H locs hP hS
  refine lv_iload_n hx hb dX7_isAsked_0 rfl (lv_at hl 1 rfl) ?_
  refine lv_iconst (v := -1) hx hb dX7_isAsked_1 (by decide) ?_
  refine lv_icmp_eq (tgt := 19) hx hb dX7_isAsked_2 (by decide) (fun c2 => ?_) (fun c2 => ?_)
  · replace hf := ip c2 hf
    refine lv_iconst (v := 1) hx hb dX7_isAsked_19 (by decide) ?_
    refine lv_goto (tgt := 24) hx hb dX7_isAsked_20 (by decide) ?_
    obtain rfl := Option.some.inj hf
    exact W.zret hx hb hr rfl (fun t ht hW => ⟨⟨_, (), rfl, rfl, by rw [ht]; exact hP, hD⟩, hS.F ht⟩) hS.2.2 dX7_isAsked_24
  · replace hf := iq c2 hf
    refine lv_iload_n hx hb dX7_isAsked_5 rfl (lv_at hl 1 rfl) ?_
    refine lv_bipush (v := -2) hx hb dX7_isAsked_6 (by decide) ?_
    refine lv_icmp_eq (tgt := 19) hx hb dX7_isAsked_8 (by decide) (fun c8 => ?_) (fun c8 => ?_)
    · replace hf := ip c8 hf
      refine lv_iconst (v := 1) hx hb dX7_isAsked_19 (by decide) ?_
      refine lv_goto (tgt := 24) hx hb dX7_isAsked_20 (by decide) ?_
      obtain rfl := Option.some.inj hf
      exact W.zret hx hb hr rfl (fun t ht hW => ⟨⟨_, (), rfl, rfl, by rw [ht]; exact hP, hD⟩, hS.F ht⟩) hS.2.2 dX7_isAsked_24
    · replace hf := iq c8 hf
      refine lv_aload_n hx hb dX7_isAsked_11 rfl (lv_at hl 0 rfl) ?_
      refine lv_iload_n hx hb dX7_isAsked_12 rfl (lv_at hl 1 rfl) ?_
      obtain ⟨r13, q13, hf⟩ := ob hf
      refine k_i (wc := [(ax, .inr (7, [.ref ax_row, .ref ax_text, .int x_letters, .int x_at, .ref ax_read, .ref ax_undone, .int x_undos, .ref ax_order, .ref ax_dones, .int x_away, .int x_bestSet, .ref ax_aside, .ref ax_tapedWho, .ref ax_tapedTill, .int x_taped, .ref ax_kept, .int x_keeps])), (ax_row, .inl (cyI, 28, .inl x_row))]) (wr := []) (w1 := [(ax, .inr (7, [.ref ax_row, .ref ax_text, .int x_letters, .int x_at, .ref ax_read, .ref ax_undone, .int x_undos, .ref ax_order, .ref ax_dones, .int x_away, .int x_bestSet, .ref ax_aside, .ref ax_tapedWho, .ref ax_tapedTill, .int x_taped, .ref ax_kept, .int x_keeps])), (ax_row, .inl (cyI, 28, .inl x_row))]) (wn := [(ax, .inr (7, [.ref ax_row, .ref ax_text, .int x_letters, .int x_at, .ref ax_read, .ref ax_undone, .int x_undos, .ref ax_order, .ref ax_dones, .int x_away, .int x_bestSet, .ref ax_aside, .ref ax_tapedWho, .ref ax_tapedTill, .int x_taped, .ref ax_kept, .int x_keeps])), (ax_row, .inl (cyI, 28, .inl x_row))]) (va_runV (As := [.int i1]) (rest := []) ⟨hx, hb, hml, hown, hts⟩ (c_X7_isPerson l D cyI cyC cyS H.size ax ax_row ax_text ax_read ax_undone ax_order ax_dones ax_aside ax_tapedWho ax_tapedTill ax_kept x_letters x_at x_undos x_away x_bestSet x_taped x_keeps x_row i1 q13) (cwV 1 hts gX7_isAsked_X7_isPerson rfl rfl rfl (by decide +kernel) ⟨Nat.le_of_ble_eq_true rfl, Nat.le_of_ble_eq_true rfl⟩) (preV (ci := 7) hK (hP.subm (ws' := [(ax, .inr (7, [.ref ax_row, .ref ax_text, .int x_letters, .int x_at, .ref ax_read, .ref ax_undone, .int x_undos, .ref ax_order, .ref ax_dones, .int x_away, .int x_bestSet, .ref ax_aside, .ref ax_tapedWho, .ref ax_tapedTill, .int x_taped, .ref ax_kept, .int x_keeps])), (ax_row, .inl (cyI, 28, .inl x_row))]) [0, 1] rfl) (hD.sub (ws' := [(ax, .inr (7, [.ref ax_row, .ref ax_text, .int x_letters, .int x_at, .ref ax_read, .ref ax_undone, .int x_undos, .ref ax_order, .ref ax_dones, .int x_away, .int x_bestSet, .ref ax_aside, .ref ax_tapedWho, .ref ax_tapedTill, .int x_taped, .ref ax_kept, .int x_keeps])), (ax_row, .inl (cyI, 28, .inl x_row))]) [0, 1] (by decide) rfl) rfl rfl) rfl rfl hl.1 rfl (lv_room (Nat.le_of_ble_eq_true rfl)) dX7_isAsked_13 ⟨Nat.le_of_ble_eq_true rfl, Nat.le_of_ble_eq_true rfl⟩) hP hD hS hA [0, 1] [] [0, 1] rfl rfl rfl (by decide) (by decide) (by decide) (fun H locs hP hD hS => ?_)
      refine lv_if_eq (tgt := 23) hx hb dX7_isAsked_16 (by decide) (fun c16 => ?_) (fun c16 => ?_)
      · replace hf := ip c16 hf
        refine lv_iconst (v := 0) hx hb dX7_isAsked_23 (by decide) ?_
        obtain rfl := Option.some.inj hf
        exact W.zret hx hb hr rfl (fun t ht hW => ⟨⟨_, (), rfl, rfl, by rw [ht]; exact hP, hD⟩, hS.F ht⟩) hS.2.2 dX7_isAsked_24
      · replace hf := iq c16 hf
        refine lv_iconst (v := 1) hx hb dX7_isAsked_19 (by decide) ?_
        refine lv_goto (tgt := 24) hx hb dX7_isAsked_20 (by decide) ?_
        obtain rfl := Option.some.inj hf
        exact W.zret hx hb hr rfl (fun t ht hW => ⟨⟨_, (), rfl, rfl, by rw [ht]; exact hP, hD⟩, hS.F ht⟩) hS.2.2 dX7_isAsked_24
abbrev rX7_asked : Room := { frames := 1, cells := 0, slots := 0, locals := 22 }
set_option maxHeartbeats 4000000 in
set_option maxRecDepth 100000 in
theorem c_X7_asked (l : Launch) (D : va_G) (cyI cyC cyS : ClassId) (sz : Nat) (ax : Nat) (ax_row : Nat) (ax_text : Nat) (ax_read : Nat) (ax_undone : Nat) (ax_order : Nat) (ax_dones : Nat) (ax_aside : Nat) (ax_tapedWho : Nat) (ax_tapedTill : Nat) (ax_kept : Nat) (x_letters : Int32) (x_at : Int32) (x_undos : Int32) (x_away : Int32) (x_bestSet : Int32) (x_taped : Int32) (x_keeps : Int32) (x_row : Nat → Int32) (x_dones : Nat → Int32) (i1 : Int32) {r : Int32} (hf : S_X7_asked i1 x_row x_dones = some r) : Met l yX7_asked wsX7_asked rX7_asked (Cpre [.ref ax, .int i1] D cyI cyC cyS sz [(ax, .inr (7, [.ref ax_row, .ref ax_text, .int x_letters, .int x_at, .ref ax_read, .ref ax_undone, .int x_undos, .ref ax_order, .ref ax_dones, .int x_away, .int x_bestSet, .ref ax_aside, .ref ax_tapedWho, .ref ax_tapedTill, .int x_taped, .ref ax_kept, .int x_keeps])), (ax_row, .inl (cyI, 28, .inl x_row)), (ax_dones, .inl (cyI, 8, .inl x_dones))]) (CQi r D [(ax, .inr (7, [.ref ax_row, .ref ax_text, .int x_letters, .int x_at, .ref ax_read, .ref ax_undone, .int x_undos, .ref ax_order, .ref ax_dones, .int x_away, .int x_bestSet, .ref ax_aside, .ref ax_tapedWho, .ref ax_tapedTill, .int x_taped, .ref ax_kept, .int x_keeps])), (ax_row, .inl (cyI, 28, .inl x_row)), (ax_dones, .inl (cyI, 8, .inl x_dones))] (va_A [(ax, .inr (7, [.ref ax_row, .ref ax_text, .int x_letters, .int x_at, .ref ax_read, .ref ax_undone, .int x_undos, .ref ax_order, .ref ax_dones, .int x_away, .int x_bestSet, .ref ax_aside, .ref ax_tapedWho, .ref ax_tapedTill, .int x_taped, .ref ax_kept, .int x_keeps])), (ax_row, .inl (cyI, 28, .inl x_row)), (ax_dones, .inl (cyI, 8, .inl x_dones))] sz)) 0 0 (va_A [(ax, .inr (7, [.ref ax_row, .ref ax_text, .int x_letters, .int x_at, .ref ax_read, .ref ax_undone, .int x_undos, .ref ax_order, .ref ax_dones, .int x_away, .int x_bestSet, .ref ax_aside, .ref ax_tapedWho, .ref ax_tapedTill, .int x_taped, .ref ax_kept, .int x_keeps])), (ax_row, .inl (cyI, 28, .inl x_row)), (ax_dones, .inl (cyI, 8, .inl x_dones))] sz) := by
  refine Met.ofW (cc := cX7_asked) (maxL := 2) (ret := (some .int)) (by decide) rfl ?_
  intro p e s m args below meth c s₁ B hml hv
  obtain ⟨rfl, hsz, hP, hK, hD0⟩ := hv
  have hx := B.exec
  have hb := B.bytes
  have hr := B.returns
  have hts := atoms_spec (ws := wsX7_asked) B.pre
  have hown : s.vm.findClass RX7 = some m.cls := findClass_of_methodNamed B.named
  have hlocks := B.notSynchronized
  subst hsz
  have hD := hD0.self (sz := s.heap.size)
  generalize hAe : va_A [(ax, .inr (7, [.ref ax_row, .ref ax_text, .int x_letters, .int x_at, .ref ax_read, .ref ax_undone, .int x_undos, .ref ax_order, .ref ax_dones, .int x_away, .int x_bestSet, .ref ax_aside, .ref ax_tapedWho, .ref ax_tapedTill, .int x_taped, .ref ax_kept, .int x_keeps])), (ax_row, .inl (cyI, 28, .inl x_row)), (ax_dones, .inl (cyI, 8, .inl x_dones))] s.heap.size = A at hD ⊢
  have hA : ∀ q : Nat, s.heap.size ≤ q → A q := fun q h => by rw [← hAe]; exact Or.inr h
  have hS : va_S A s.heap s.heap [] := va_S.rf
  have hl := lv_entry ([.ref ax, .int i1]) (n := 2) (Nat.le_of_ble_eq_true rfl)
  rw [lg_entry_eq]
  generalize (lg_sl ([.ref ax, .int i1]) ++ List.replicate (2 - (lg_sl ([.ref ax, .int i1])).length) Slot.unset).toArray = ls at hl ⊢
  have hl : lv_has ls 2 [(0, .ref ax), (1, .int i1)] := hl
  have f25 := hts (.fieldLink RX7 25 "SecondTillModel" "dones" "[I") (by decide +kernel)
  have inX7 : ∀ w ∈ u_ws RX7 TX7 17, w ∈ wsX7_asked := by decide +kernel
  unfold S_X7_asked at hf
  have hP : va_P D vwCl [(ax, .inr (7, [.ref ax_row, .ref ax_text, .int x_letters, .int x_at, .ref ax_read, .ref ax_undone, .int x_undos, .ref ax_order, .ref ax_dones, .int x_away, .int x_bestSet, .ref ax_aside, .ref ax_tapedWho, .ref ax_tapedTill, .int x_taped, .ref ax_kept, .int x_keeps])), (ax_row, .inl (cyI, 28, .inl x_row)), (ax_dones, .inl (cyI, 8, .inl x_dones))] s.heap := hP
  suffices hgo : ∀ (H : Heap) (locs : List Loc), va_P D vwCl [(ax, .inr (7, [.ref ax_row, .ref ax_text, .int x_letters, .int x_at, .ref ax_read, .ref ax_undone, .int x_undos, .ref ax_order, .ref ax_dones, .int x_away, .int x_bestSet, .ref ax_aside, .ref ax_tapedWho, .ref ax_tapedTill, .int x_taped, .ref ax_kept, .int x_keeps])), (ax_row, .inl (cyI, 28, .inl x_row)), (ax_dones, .inl (cyI, 8, .inl x_dones))] H → va_S A s.heap H locs → W p l e rX7_asked s m (([.ref ax, .int i1] : List Value).toArray) below meth c H locs 0 0 (MQ below (CQi r D [(ax, .inr (7, [.ref ax_row, .ref ax_text, .int x_letters, .int x_at, .ref ax_read, .ref ax_undone, .int x_undos, .ref ax_order, .ref ax_dones, .int x_away, .int x_bestSet, .ref ax_aside, .ref ax_tapedWho, .ref ax_tapedTill, .int x_taped, .ref ax_kept, .int x_keeps])), (ax_row, .inl (cyI, 28, .inl x_row)), (ax_dones, .inl (cyI, 8, .inl x_dones))] A) (([.ref ax, .int i1] : List Value).toArray) s 0 0 A) (F0 m 0 ls []) from hgo _ _ hP hS
  clear hP hS
  intro H locs hP hS
  refine lv_iload_n hx hb dX7_asked_0 rfl (lv_at hl 1 rfl) ?_
  refine lv_iconst (v := -1) hx hb dX7_asked_1 (by decide) ?_
  refine lv_icmp_ne (tgt := 12) hx hb dX7_asked_2 (by decide) (fun c2 => ?_) (fun c2 => ?_)
  · replace hf := iq c2 hf
    refine lv_iload_n hx hb dX7_asked_12 rfl (lv_at hl 1 rfl) ?_
    refine lv_bipush (v := -2) hx hb dX7_asked_13 (by decide) ?_
    refine lv_icmp_ne (tgt := 25) hx hb dX7_asked_15 (by decide) (fun c15 => ?_) (fun c15 => ?_)
    · replace hf := iq c15 hf
      refine lv_aload_n hx hb dX7_asked_25 rfl (lv_at hl 0 rfl) ?_
      refine va_get (C := RX7) (T := TX7) (N := 17) hx hb hts inX7 hown hK.1 hP 0 rfl rfl 8 (by decide) f25 (fun _ h9 => h9) rfl dX7_asked_26 ?_
      refine lv_iload_n hx hb dX7_asked_29 rfl (lv_at hl 1 rfl) ?_
      obtain ⟨z30, hf⟩ := oi hf
      refine a_ild hx hb hK hP 2 rfl z30 i1.toNatClampNeg rfl dX7_asked_30 ?_
      obtain rfl := Option.some.inj hf
      exact W.iret hx hb hr (fun t ht hW => ⟨⟨_, (), rfl, rfl, by rw [ht]; exact hP, hD⟩, hS.F ht⟩) hS.2.2 dX7_asked_31
    · replace hf := ip c15 hf
      refine lv_aload_n hx hb dX7_asked_18 rfl (lv_at hl 0 rfl) ?_
      obtain ⟨r19, q19, hf⟩ := ob hf
      refine k_i (wc := [(ax, .inr (7, [.ref ax_row, .ref ax_text, .int x_letters, .int x_at, .ref ax_read, .ref ax_undone, .int x_undos, .ref ax_order, .ref ax_dones, .int x_away, .int x_bestSet, .ref ax_aside, .ref ax_tapedWho, .ref ax_tapedTill, .int x_taped, .ref ax_kept, .int x_keeps])), (ax_row, .inl (cyI, 28, .inl x_row)), (ax_dones, .inl (cyI, 8, .inl x_dones))]) (wr := []) (w1 := [(ax, .inr (7, [.ref ax_row, .ref ax_text, .int x_letters, .int x_at, .ref ax_read, .ref ax_undone, .int x_undos, .ref ax_order, .ref ax_dones, .int x_away, .int x_bestSet, .ref ax_aside, .ref ax_tapedWho, .ref ax_tapedTill, .int x_taped, .ref ax_kept, .int x_keeps])), (ax_row, .inl (cyI, 28, .inl x_row)), (ax_dones, .inl (cyI, 8, .inl x_dones))]) (wn := [(ax, .inr (7, [.ref ax_row, .ref ax_text, .int x_letters, .int x_at, .ref ax_read, .ref ax_undone, .int x_undos, .ref ax_order, .ref ax_dones, .int x_away, .int x_bestSet, .ref ax_aside, .ref ax_tapedWho, .ref ax_tapedTill, .int x_taped, .ref ax_kept, .int x_keeps])), (ax_row, .inl (cyI, 28, .inl x_row)), (ax_dones, .inl (cyI, 8, .inl x_dones))]) (va_runV (As := []) (rest := []) ⟨hx, hb, hml, hown, hts⟩ (c_X7_sum l D cyI cyC cyS H.size ax ax_row ax_text ax_read ax_undone ax_order ax_dones ax_aside ax_tapedWho ax_tapedTill ax_kept x_letters x_at x_undos x_away x_bestSet x_taped x_keeps x_row x_dones q19) (cwV 0 hts gX7_asked_X7_sum rfl rfl rfl (by decide +kernel) ⟨Nat.le_of_ble_eq_true rfl, Nat.le_of_ble_eq_true rfl⟩) (preV (ci := 7) hK (hP.subm (ws' := [(ax, .inr (7, [.ref ax_row, .ref ax_text, .int x_letters, .int x_at, .ref ax_read, .ref ax_undone, .int x_undos, .ref ax_order, .ref ax_dones, .int x_away, .int x_bestSet, .ref ax_aside, .ref ax_tapedWho, .ref ax_tapedTill, .int x_taped, .ref ax_kept, .int x_keeps])), (ax_row, .inl (cyI, 28, .inl x_row)), (ax_dones, .inl (cyI, 8, .inl x_dones))]) [0, 1, 2] rfl) (hD.sub (ws' := [(ax, .inr (7, [.ref ax_row, .ref ax_text, .int x_letters, .int x_at, .ref ax_read, .ref ax_undone, .int x_undos, .ref ax_order, .ref ax_dones, .int x_away, .int x_bestSet, .ref ax_aside, .ref ax_tapedWho, .ref ax_tapedTill, .int x_taped, .ref ax_kept, .int x_keeps])), (ax_row, .inl (cyI, 28, .inl x_row)), (ax_dones, .inl (cyI, 8, .inl x_dones))]) [0, 1, 2] (by decide) rfl) rfl rfl) rfl rfl hl.1 rfl (lv_room (Nat.le_of_ble_eq_true rfl)) dX7_asked_19 ⟨Nat.le_of_ble_eq_true rfl, Nat.le_of_ble_eq_true rfl⟩) hP hD hS hA [0, 1, 2] [] [0, 1, 2] rfl rfl rfl (by decide) (by decide) (by decide) (fun H locs hP hD hS => ?_)
      refine lv_goto (tgt := 31) hx hb dX7_asked_22 (by decide) ?_
      obtain rfl := Option.some.inj hf
      exact W.iret hx hb hr (fun t ht hW => ⟨⟨_, (), rfl, rfl, by rw [ht]; exact hP, hD⟩, hS.F ht⟩) hS.2.2 dX7_asked_31
  · replace hf := ip c2 hf
    refine lv_aload_n hx hb dX7_asked_5 rfl (lv_at hl 0 rfl) ?_
    obtain ⟨r6, q6, hf⟩ := ob hf
    refine k_i (wc := [(ax, .inr (7, [.ref ax_row, .ref ax_text, .int x_letters, .int x_at, .ref ax_read, .ref ax_undone, .int x_undos, .ref ax_order, .ref ax_dones, .int x_away, .int x_bestSet, .ref ax_aside, .ref ax_tapedWho, .ref ax_tapedTill, .int x_taped, .ref ax_kept, .int x_keeps])), (ax_row, .inl (cyI, 28, .inl x_row)), (ax_dones, .inl (cyI, 8, .inl x_dones))]) (wr := []) (w1 := [(ax, .inr (7, [.ref ax_row, .ref ax_text, .int x_letters, .int x_at, .ref ax_read, .ref ax_undone, .int x_undos, .ref ax_order, .ref ax_dones, .int x_away, .int x_bestSet, .ref ax_aside, .ref ax_tapedWho, .ref ax_tapedTill, .int x_taped, .ref ax_kept, .int x_keeps])), (ax_row, .inl (cyI, 28, .inl x_row)), (ax_dones, .inl (cyI, 8, .inl x_dones))]) (wn := [(ax, .inr (7, [.ref ax_row, .ref ax_text, .int x_letters, .int x_at, .ref ax_read, .ref ax_undone, .int x_undos, .ref ax_order, .ref ax_dones, .int x_away, .int x_bestSet, .ref ax_aside, .ref ax_tapedWho, .ref ax_tapedTill, .int x_taped, .ref ax_kept, .int x_keeps])), (ax_row, .inl (cyI, 28, .inl x_row)), (ax_dones, .inl (cyI, 8, .inl x_dones))]) (va_runV (As := []) (rest := []) ⟨hx, hb, hml, hown, hts⟩ (c_X7_latest l D cyI cyC cyS H.size ax ax_row ax_text ax_read ax_undone ax_order ax_dones ax_aside ax_tapedWho ax_tapedTill ax_kept x_letters x_at x_undos x_away x_bestSet x_taped x_keeps x_row x_dones q6) (cwV 0 hts gX7_asked_X7_latest rfl rfl rfl (by decide +kernel) ⟨Nat.le_of_ble_eq_true rfl, Nat.le_of_ble_eq_true rfl⟩) (preV (ci := 7) hK (hP.subm (ws' := [(ax, .inr (7, [.ref ax_row, .ref ax_text, .int x_letters, .int x_at, .ref ax_read, .ref ax_undone, .int x_undos, .ref ax_order, .ref ax_dones, .int x_away, .int x_bestSet, .ref ax_aside, .ref ax_tapedWho, .ref ax_tapedTill, .int x_taped, .ref ax_kept, .int x_keeps])), (ax_row, .inl (cyI, 28, .inl x_row)), (ax_dones, .inl (cyI, 8, .inl x_dones))]) [0, 1, 2] rfl) (hD.sub (ws' := [(ax, .inr (7, [.ref ax_row, .ref ax_text, .int x_letters, .int x_at, .ref ax_read, .ref ax_undone, .int x_undos, .ref ax_order, .ref ax_dones, .int x_away, .int x_bestSet, .ref ax_aside, .ref ax_tapedWho, .ref ax_tapedTill, .int x_taped, .ref ax_kept, .int x_keeps])), (ax_row, .inl (cyI, 28, .inl x_row)), (ax_dones, .inl (cyI, 8, .inl x_dones))]) [0, 1, 2] (by decide) rfl) rfl rfl) rfl rfl hl.1 rfl (lv_room (Nat.le_of_ble_eq_true rfl)) dX7_asked_6 ⟨Nat.le_of_ble_eq_true rfl, Nat.le_of_ble_eq_true rfl⟩) hP hD hS hA [0, 1, 2] [] [0, 1, 2] rfl rfl rfl (by decide) (by decide) (by decide) (fun H locs hP hD hS => ?_)
    refine lv_goto (tgt := 31) hx hb dX7_asked_9 (by decide) ?_
    obtain rfl := Option.some.inj hf
    exact W.iret hx hb hr (fun t ht hW => ⟨⟨_, (), rfl, rfl, by rw [ht]; exact hP, hD⟩, hS.F ht⟩) hS.2.2 dX7_asked_31
abbrev rX7_done : Room := { frames := 4, cells := 0, slots := 0, locals := 91 }
set_option maxHeartbeats 4000000 in
set_option maxRecDepth 100000 in
theorem c_X7_done (l : Launch) (D : va_G) (cyI cyC cyS : ClassId) (sz : Nat) (ax : Nat) (ax_row : Nat) (ax_text : Nat) (ax_read : Nat) (ax_undone : Nat) (ax_order : Nat) (ax_dones : Nat) (ax_aside : Nat) (ax_tapedWho : Nat) (ax_tapedTill : Nat) (ax_kept : Nat) (x_letters : Int32) (x_at : Int32) (x_undos : Int32) (x_away : Int32) (x_bestSet : Int32) (x_taped : Int32) (x_keeps : Int32) (x_row : Nat → Int32) (x_order : Nat → Int32) (x_dones : Nat → Int32) (i1 : Int32) (i2 : Int32) {r : Int32} {o_x_away : Int32} {o_x_order : Nat → Int32} {o_x_dones : Nat → Int32} (hf : S_X7_done i1 i2 x_away x_row x_order x_dones = some (r, o_x_away, o_x_order, o_x_dones)) : Met l yX7_done wsX7_done rX7_done (Cpre [.ref ax, .int i1, .int i2] D cyI cyC cyS sz [(ax, .inr (7, [.ref ax_row, .ref ax_text, .int x_letters, .int x_at, .ref ax_read, .ref ax_undone, .int x_undos, .ref ax_order, .ref ax_dones, .int x_away, .int x_bestSet, .ref ax_aside, .ref ax_tapedWho, .ref ax_tapedTill, .int x_taped, .ref ax_kept, .int x_keeps])), (ax_row, .inl (cyI, 28, .inl x_row)), (ax_order, .inl (cyI, 8, .inl x_order)), (ax_dones, .inl (cyI, 8, .inl x_dones))]) (CQi r D [(ax, .inr (7, [.ref ax_row, .ref ax_text, .int x_letters, .int x_at, .ref ax_read, .ref ax_undone, .int x_undos, .ref ax_order, .ref ax_dones, .int o_x_away, .int x_bestSet, .ref ax_aside, .ref ax_tapedWho, .ref ax_tapedTill, .int x_taped, .ref ax_kept, .int x_keeps])), (ax_row, .inl (cyI, 28, .inl x_row)), (ax_order, .inl (cyI, 8, .inl o_x_order)), (ax_dones, .inl (cyI, 8, .inl o_x_dones))] (va_A [(ax, .inr (7, [.ref ax_row, .ref ax_text, .int x_letters, .int x_at, .ref ax_read, .ref ax_undone, .int x_undos, .ref ax_order, .ref ax_dones, .int x_away, .int x_bestSet, .ref ax_aside, .ref ax_tapedWho, .ref ax_tapedTill, .int x_taped, .ref ax_kept, .int x_keeps])), (ax_row, .inl (cyI, 28, .inl x_row)), (ax_order, .inl (cyI, 8, .inl x_order)), (ax_dones, .inl (cyI, 8, .inl x_dones))] sz)) 0 0 (va_A [(ax, .inr (7, [.ref ax_row, .ref ax_text, .int x_letters, .int x_at, .ref ax_read, .ref ax_undone, .int x_undos, .ref ax_order, .ref ax_dones, .int x_away, .int x_bestSet, .ref ax_aside, .ref ax_tapedWho, .ref ax_tapedTill, .int x_taped, .ref ax_kept, .int x_keeps])), (ax_row, .inl (cyI, 28, .inl x_row)), (ax_order, .inl (cyI, 8, .inl x_order)), (ax_dones, .inl (cyI, 8, .inl x_dones))] sz) := by
  refine Met.ofW (cc := cX7_done) (maxL := 3) (ret := (some .int)) (by decide) rfl ?_
  intro p e s m args below meth c s₁ B hml hv
  obtain ⟨rfl, hsz, hP, hK, hD0⟩ := hv
  have hx := B.exec
  have hb := B.bytes
  have hr := B.returns
  have hts := atoms_spec (ws := wsX7_done) B.pre
  have hown : s.vm.findClass RX7 = some m.cls := findClass_of_methodNamed B.named
  have hlocks := B.notSynchronized
  subst hsz
  have hD := hD0.self (sz := s.heap.size)
  generalize hAe : va_A [(ax, .inr (7, [.ref ax_row, .ref ax_text, .int x_letters, .int x_at, .ref ax_read, .ref ax_undone, .int x_undos, .ref ax_order, .ref ax_dones, .int x_away, .int x_bestSet, .ref ax_aside, .ref ax_tapedWho, .ref ax_tapedTill, .int x_taped, .ref ax_kept, .int x_keeps])), (ax_row, .inl (cyI, 28, .inl x_row)), (ax_order, .inl (cyI, 8, .inl x_order)), (ax_dones, .inl (cyI, 8, .inl x_dones))] s.heap.size = A at hD ⊢
  have hA : ∀ q : Nat, s.heap.size ≤ q → A q := fun q h => by rw [← hAe]; exact Or.inr h
  have hS : va_S A s.heap s.heap [] := va_S.rf
  have hl := lv_entry ([.ref ax, .int i1, .int i2]) (n := 3) (Nat.le_of_ble_eq_true rfl)
  rw [lg_entry_eq]
  generalize (lg_sl ([.ref ax, .int i1, .int i2]) ++ List.replicate (3 - (lg_sl ([.ref ax, .int i1, .int i2])).length) Slot.unset).toArray = ls at hl ⊢
  have hl : lv_has ls 3 [(0, .ref ax), (1, .int i1), (2, .int i2)] := hl
  unfold S_X7_done at hf
  have hP : va_P D vwCl [(ax, .inr (7, [.ref ax_row, .ref ax_text, .int x_letters, .int x_at, .ref ax_read, .ref ax_undone, .int x_undos, .ref ax_order, .ref ax_dones, .int x_away, .int x_bestSet, .ref ax_aside, .ref ax_tapedWho, .ref ax_tapedTill, .int x_taped, .ref ax_kept, .int x_keeps])), (ax_row, .inl (cyI, 28, .inl x_row)), (ax_order, .inl (cyI, 8, .inl x_order)), (ax_dones, .inl (cyI, 8, .inl x_dones))] s.heap := hP
  suffices hgo : ∀ (H : Heap) (locs : List Loc), va_P D vwCl [(ax, .inr (7, [.ref ax_row, .ref ax_text, .int x_letters, .int x_at, .ref ax_read, .ref ax_undone, .int x_undos, .ref ax_order, .ref ax_dones, .int x_away, .int x_bestSet, .ref ax_aside, .ref ax_tapedWho, .ref ax_tapedTill, .int x_taped, .ref ax_kept, .int x_keeps])), (ax_row, .inl (cyI, 28, .inl x_row)), (ax_order, .inl (cyI, 8, .inl x_order)), (ax_dones, .inl (cyI, 8, .inl x_dones))] H → va_S A s.heap H locs → W p l e rX7_done s m (([.ref ax, .int i1, .int i2] : List Value).toArray) below meth c H locs 0 0 (MQ below (CQi r D [(ax, .inr (7, [.ref ax_row, .ref ax_text, .int x_letters, .int x_at, .ref ax_read, .ref ax_undone, .int x_undos, .ref ax_order, .ref ax_dones, .int o_x_away, .int x_bestSet, .ref ax_aside, .ref ax_tapedWho, .ref ax_tapedTill, .int x_taped, .ref ax_kept, .int x_keeps])), (ax_row, .inl (cyI, 28, .inl x_row)), (ax_order, .inl (cyI, 8, .inl o_x_order)), (ax_dones, .inl (cyI, 8, .inl o_x_dones))] A) (([.ref ax, .int i1, .int i2] : List Value).toArray) s 0 0 A) (F0 m 0 ls []) from hgo _ _ hP hS
  clear hP hS
  intro H locs hP hS
  refine lv_aload_n hx hb dX7_done_0 rfl (lv_at hl 0 rfl) ?_
  refine lv_iload_n hx hb dX7_done_1 rfl (lv_at hl 1 rfl) ?_
  obtain ⟨r2, q2, hf⟩ := ob hf
  refine k_i (wc := [(ax, .inr (7, [.ref ax_row, .ref ax_text, .int x_letters, .int x_at, .ref ax_read, .ref ax_undone, .int x_undos, .ref ax_order, .ref ax_dones, .int x_away, .int x_bestSet, .ref ax_aside, .ref ax_tapedWho, .ref ax_tapedTill, .int x_taped, .ref ax_kept, .int x_keeps])), (ax_row, .inl (cyI, 28, .inl x_row))]) (wr := [(ax_order, .inl (cyI, 8, .inl x_order)), (ax_dones, .inl (cyI, 8, .inl x_dones))]) (w1 := [(ax, .inr (7, [.ref ax_row, .ref ax_text, .int x_letters, .int x_at, .ref ax_read, .ref ax_undone, .int x_undos, .ref ax_order, .ref ax_dones, .int x_away, .int x_bestSet, .ref ax_aside, .ref ax_tapedWho, .ref ax_tapedTill, .int x_taped, .ref ax_kept, .int x_keeps])), (ax_row, .inl (cyI, 28, .inl x_row))]) (wn := [(ax, .inr (7, [.ref ax_row, .ref ax_text, .int x_letters, .int x_at, .ref ax_read, .ref ax_undone, .int x_undos, .ref ax_order, .ref ax_dones, .int x_away, .int x_bestSet, .ref ax_aside, .ref ax_tapedWho, .ref ax_tapedTill, .int x_taped, .ref ax_kept, .int x_keeps])), (ax_row, .inl (cyI, 28, .inl x_row)), (ax_order, .inl (cyI, 8, .inl x_order)), (ax_dones, .inl (cyI, 8, .inl x_dones))]) (va_runV (As := [.int i1]) (rest := []) ⟨hx, hb, hml, hown, hts⟩ (c_X7_isAsked l D cyI cyC cyS H.size ax ax_row ax_text ax_read ax_undone ax_order ax_dones ax_aside ax_tapedWho ax_tapedTill ax_kept x_letters x_at x_undos x_away x_bestSet x_taped x_keeps x_row i1 q2) (cwV 1 hts gX7_done_X7_isAsked rfl rfl rfl (by decide +kernel) ⟨Nat.le_of_ble_eq_true rfl, Nat.le_of_ble_eq_true rfl⟩) (preV (ci := 7) hK (hP.subm (ws' := [(ax, .inr (7, [.ref ax_row, .ref ax_text, .int x_letters, .int x_at, .ref ax_read, .ref ax_undone, .int x_undos, .ref ax_order, .ref ax_dones, .int x_away, .int x_bestSet, .ref ax_aside, .ref ax_tapedWho, .ref ax_tapedTill, .int x_taped, .ref ax_kept, .int x_keeps])), (ax_row, .inl (cyI, 28, .inl x_row))]) [0, 1] rfl) (hD.sub (ws' := [(ax, .inr (7, [.ref ax_row, .ref ax_text, .int x_letters, .int x_at, .ref ax_read, .ref ax_undone, .int x_undos, .ref ax_order, .ref ax_dones, .int x_away, .int x_bestSet, .ref ax_aside, .ref ax_tapedWho, .ref ax_tapedTill, .int x_taped, .ref ax_kept, .int x_keeps])), (ax_row, .inl (cyI, 28, .inl x_row))]) [0, 1] (by decide) rfl) rfl rfl) rfl rfl hl.1 rfl (lv_room (Nat.le_of_ble_eq_true rfl)) dX7_done_2 ⟨Nat.le_of_ble_eq_true rfl, Nat.le_of_ble_eq_true rfl⟩) hP hD hS hA [0, 1] [2, 3] [2, 3, 0, 1] rfl rfl rfl (by decide) (by decide) (by decide) (fun H locs hP hD hS => ?_)
  refine lv_if_eq (tgt := 18) hx hb dX7_done_5 (by decide) (fun c5 => ?_) (fun c5 => ?_)
  · replace hf := ip c5 hf
    refine lv_iconst (v := -1) hx hb dX7_done_18 (by decide) ?_
    simp only [Option.some.injEq, Prod.mk.injEq] at hf
    obtain ⟨rfl, rfl, rfl, rfl⟩ := hf
    exact W.iret hx hb hr (fun t ht hW => ⟨⟨_, (), rfl, rfl, by rw [ht]; exact hP, hD⟩, hS.F ht⟩) hS.2.2 dX7_done_19
  · replace hf := iq c5 hf
    refine lv_iload_n hx hb dX7_done_8 rfl (lv_at hl 2 rfl) ?_
    refine lv_i2l (v := i2.toInt64) hx hb dX7_done_9 rfl ?_
    refine lv_lconst (v := 0) hx hb dX7_done_10 (by decide) ?_
    refine lv_lconst (v := 1) hx hb dX7_done_11 (by decide) ?_
    obtain ⟨r12, q12, hf⟩ := ob hf
    refine k_i (wc := []) (wr := [(ax, .inr (7, [.ref ax_row, .ref ax_text, .int x_letters, .int x_at, .ref ax_read, .ref ax_undone, .int x_undos, .ref ax_order, .ref ax_dones, .int x_away, .int x_bestSet, .ref ax_aside, .ref ax_tapedWho, .ref ax_tapedTill, .int x_taped, .ref ax_kept, .int x_keeps])), (ax_row, .inl (cyI, 28, .inl x_row)), (ax_order, .inl (cyI, 8, .inl x_order)), (ax_dones, .inl (cyI, 8, .inl x_dones))]) (w1 := []) (wn := [(ax, .inr (7, [.ref ax_row, .ref ax_text, .int x_letters, .int x_at, .ref ax_read, .ref ax_undone, .int x_undos, .ref ax_order, .ref ax_dones, .int x_away, .int x_bestSet, .ref ax_aside, .ref ax_tapedWho, .ref ax_tapedTill, .int x_taped, .ref ax_kept, .int x_keeps])), (ax_row, .inl (cyI, 28, .inl x_row)), (ax_order, .inl (cyI, 8, .inl x_order)), (ax_dones, .inl (cyI, 8, .inl x_dones))]) (va_runS (As := [.long i2.toInt64, .long (0 : Int64), .long (1 : Int64)]) (rest := []) ⟨hx, hb, hml, hown, hts⟩ (c_X7_in l D cyI cyC cyS H.size i2.toInt64 (0 : Int64) (1 : Int64) q12) (va_cwS 3 hts gX7_done_X7_in rfl rfl rfl (by decide +kernel) ⟨Nat.le_of_ble_eq_true rfl, Nat.le_of_ble_eq_true rfl⟩) (preS hK (hP.subm (ws' := []) [] rfl) (hD.sub (ws' := []) [] (by decide) rfl)) rfl rfl hl.1 rfl (lv_room (Nat.le_of_ble_eq_true rfl)) dX7_done_12 ⟨Nat.le_of_ble_eq_true rfl, Nat.le_of_ble_eq_true rfl⟩) hP hD hS hA [] [0, 1, 2, 3] [0, 1, 2, 3] rfl rfl rfl (by decide) (by decide) (by decide) (fun H locs hP hD hS => ?_)
    refine lv_if_ne (tgt := 20) hx hb dX7_done_15 (by decide) (fun c15 => ?_) (fun c15 => ?_)
    · replace hf := iq c15 hf
      refine lv_iload_n hx hb dX7_done_20 rfl (lv_at hl 2 rfl) ?_
      refine lv_iconst (v := 1) hx hb dX7_done_21 (by decide) ?_
      have hJ37 : ∀ (x_away_37 : Int32) (x_order_37 : Nat → Int32) (x_dones_37 : Nat → Int32) (H : Heap) (locs : List Loc) (ls : Array Slot), va_P D vwCl [(ax, .inr (7, [.ref ax_row, .ref ax_text, .int x_letters, .int x_at, .ref ax_read, .ref ax_undone, .int x_undos, .ref ax_order, .ref ax_dones, .int x_away_37, .int x_bestSet, .ref ax_aside, .ref ax_tapedWho, .ref ax_tapedTill, .int x_taped, .ref ax_kept, .int x_keeps])), (ax_row, .inl (cyI, 28, .inl x_row)), (ax_order, .inl (cyI, 8, .inl x_order_37)), (ax_dones, .inl (cyI, 8, .inl x_dones_37))] H → va_D A [(ax, .inr (7, [.ref ax_row, .ref ax_text, .int x_letters, .int x_at, .ref ax_read, .ref ax_undone, .int x_undos, .ref ax_order, .ref ax_dones, .int x_away_37, .int x_bestSet, .ref ax_aside, .ref ax_tapedWho, .ref ax_tapedTill, .int x_taped, .ref ax_kept, .int x_keeps])), (ax_row, .inl (cyI, 28, .inl x_row)), (ax_order, .inl (cyI, 8, .inl x_order_37)), (ax_dones, .inl (cyI, 8, .inl x_dones_37))] → va_S A s.heap H locs → lv_has ls 3 [(0, .ref ax), (1, .int i1)] → (Option.bind (S_X7_asked i1 x_row x_dones_37) (fun r39 =>
some (r39, x_away_37, x_order_37, x_dones_37))) = some (r, o_x_away, o_x_order, o_x_dones) → W p l e rX7_done s m (([.ref ax, .int i1, .int i2] : List Value).toArray) below meth c H locs 0 0 (MQ below (CQi r D [(ax, .inr (7, [.ref ax_row, .ref ax_text, .int x_letters, .int x_at, .ref ax_read, .ref ax_undone, .int x_undos, .ref ax_order, .ref ax_dones, .int o_x_away, .int x_bestSet, .ref ax_aside, .ref ax_tapedWho, .ref ax_tapedTill, .int x_taped, .ref ax_kept, .int x_keeps])), (ax_row, .inl (cyI, 28, .inl x_row)), (ax_order, .inl (cyI, 8, .inl o_x_order)), (ax_dones, .inl (cyI, 8, .inl o_x_dones))] A) (([.ref ax, .int i1, .int i2] : List Value).toArray) s 0 0 A) (F0 m 37 ls []) := by
        intro x_away_37 x_order_37 x_dones_37 H locs ls hP hD hS hl hf
        refine lv_aload_n hx hb dX7_done_37 rfl (lv_at hl 0 rfl) ?_
        refine lv_iload_n hx hb dX7_done_38 rfl (lv_at hl 1 rfl) ?_
        obtain ⟨r39, q39, hf⟩ := ob hf
        refine k_i (wc := [(ax, .inr (7, [.ref ax_row, .ref ax_text, .int x_letters, .int x_at, .ref ax_read, .ref ax_undone, .int x_undos, .ref ax_order, .ref ax_dones, .int x_away_37, .int x_bestSet, .ref ax_aside, .ref ax_tapedWho, .ref ax_tapedTill, .int x_taped, .ref ax_kept, .int x_keeps])), (ax_row, .inl (cyI, 28, .inl x_row)), (ax_dones, .inl (cyI, 8, .inl x_dones_37))]) (wr := [(ax_order, .inl (cyI, 8, .inl x_order_37))]) (w1 := [(ax, .inr (7, [.ref ax_row, .ref ax_text, .int x_letters, .int x_at, .ref ax_read, .ref ax_undone, .int x_undos, .ref ax_order, .ref ax_dones, .int x_away_37, .int x_bestSet, .ref ax_aside, .ref ax_tapedWho, .ref ax_tapedTill, .int x_taped, .ref ax_kept, .int x_keeps])), (ax_row, .inl (cyI, 28, .inl x_row)), (ax_dones, .inl (cyI, 8, .inl x_dones_37))]) (wn := [(ax, .inr (7, [.ref ax_row, .ref ax_text, .int x_letters, .int x_at, .ref ax_read, .ref ax_undone, .int x_undos, .ref ax_order, .ref ax_dones, .int x_away_37, .int x_bestSet, .ref ax_aside, .ref ax_tapedWho, .ref ax_tapedTill, .int x_taped, .ref ax_kept, .int x_keeps])), (ax_row, .inl (cyI, 28, .inl x_row)), (ax_order, .inl (cyI, 8, .inl x_order_37)), (ax_dones, .inl (cyI, 8, .inl x_dones_37))]) (va_runV (As := [.int i1]) (rest := []) ⟨hx, hb, hml, hown, hts⟩ (c_X7_asked l D cyI cyC cyS H.size ax ax_row ax_text ax_read ax_undone ax_order ax_dones ax_aside ax_tapedWho ax_tapedTill ax_kept x_letters x_at x_undos x_away_37 x_bestSet x_taped x_keeps x_row x_dones_37 i1 q39) (cwV 1 hts gX7_done_X7_asked rfl rfl rfl (by decide +kernel) ⟨Nat.le_of_ble_eq_true rfl, Nat.le_of_ble_eq_true rfl⟩) (preV (ci := 7) hK (hP.subm (ws' := [(ax, .inr (7, [.ref ax_row, .ref ax_text, .int x_letters, .int x_at, .ref ax_read, .ref ax_undone, .int x_undos, .ref ax_order, .ref ax_dones, .int x_away_37, .int x_bestSet, .ref ax_aside, .ref ax_tapedWho, .ref ax_tapedTill, .int x_taped, .ref ax_kept, .int x_keeps])), (ax_row, .inl (cyI, 28, .inl x_row)), (ax_dones, .inl (cyI, 8, .inl x_dones_37))]) [0, 1, 3] rfl) (hD.sub (ws' := [(ax, .inr (7, [.ref ax_row, .ref ax_text, .int x_letters, .int x_at, .ref ax_read, .ref ax_undone, .int x_undos, .ref ax_order, .ref ax_dones, .int x_away_37, .int x_bestSet, .ref ax_aside, .ref ax_tapedWho, .ref ax_tapedTill, .int x_taped, .ref ax_kept, .int x_keeps])), (ax_row, .inl (cyI, 28, .inl x_row)), (ax_dones, .inl (cyI, 8, .inl x_dones_37))]) [0, 1, 3] (by decide) rfl) rfl rfl) rfl rfl hl.1 rfl (lv_room (Nat.le_of_ble_eq_true rfl)) dX7_done_39 ⟨Nat.le_of_ble_eq_true rfl, Nat.le_of_ble_eq_true rfl⟩) hP hD hS hA [0, 1, 3] [2] [1, 2, 0, 3] rfl rfl rfl (by decide) (by decide) (by decide) (fun H locs hP hD hS => ?_)
        simp only [Option.some.injEq, Prod.mk.injEq] at hf
        obtain ⟨rfl, rfl, rfl, rfl⟩ := hf
        exact W.iret hx hb hr (fun t ht hW => ⟨⟨_, (), rfl, rfl, by rw [ht]; exact hP, hD⟩, hS.F ht⟩) hS.2.2 dX7_done_42
      replace hf := jn_h hf
      refine lv_icmp_ne (tgt := 32) hx hb dX7_done_22 (by decide) (fun c22 => ?_) (fun c22 => ?_)
      · replace hf := iq c22 hf
        refine lv_aload_n hx hb dX7_done_32 rfl (lv_at hl 0 rfl) ?_
        refine lv_iconst (v := 0) hx hb dX7_done_33 (by decide) ?_
        obtain ⟨⟨x_away_o34, x_order_o34, x_dones_o34⟩, q34, hf⟩ := ob hf
        replace hf : _ = _ := hf
        refine k_v (wc := [(ax, .inr (7, [.ref ax_row, .ref ax_text, .int x_letters, .int x_at, .ref ax_read, .ref ax_undone, .int x_undos, .ref ax_order, .ref ax_dones, .int x_away, .int x_bestSet, .ref ax_aside, .ref ax_tapedWho, .ref ax_tapedTill, .int x_taped, .ref ax_kept, .int x_keeps])), (ax_row, .inl (cyI, 28, .inl x_row)), (ax_order, .inl (cyI, 8, .inl x_order)), (ax_dones, .inl (cyI, 8, .inl x_dones))]) (wr := []) (w1 := [(ax, .inr (7, [.ref ax_row, .ref ax_text, .int x_letters, .int x_at, .ref ax_read, .ref ax_undone, .int x_undos, .ref ax_order, .ref ax_dones, .int x_away_o34, .int x_bestSet, .ref ax_aside, .ref ax_tapedWho, .ref ax_tapedTill, .int x_taped, .ref ax_kept, .int x_keeps])), (ax_row, .inl (cyI, 28, .inl x_row)), (ax_order, .inl (cyI, 8, .inl x_order_o34)), (ax_dones, .inl (cyI, 8, .inl x_dones_o34))]) (wn := [(ax, .inr (7, [.ref ax_row, .ref ax_text, .int x_letters, .int x_at, .ref ax_read, .ref ax_undone, .int x_undos, .ref ax_order, .ref ax_dones, .int x_away_o34, .int x_bestSet, .ref ax_aside, .ref ax_tapedWho, .ref ax_tapedTill, .int x_taped, .ref ax_kept, .int x_keeps])), (ax_row, .inl (cyI, 28, .inl x_row)), (ax_order, .inl (cyI, 8, .inl x_order_o34)), (ax_dones, .inl (cyI, 8, .inl x_dones_o34))]) (va_runV (As := [.int (0 : Int32)]) (rest := []) ⟨hx, hb, hml, hown, hts⟩ (c_X7_sends l D cyI cyC cyS H.size ax ax_row ax_text ax_read ax_undone ax_order ax_dones ax_aside ax_tapedWho ax_tapedTill ax_kept x_letters x_at x_undos x_away x_bestSet x_taped x_keeps x_row x_order x_dones (0 : Int32) q34) (cwV 1 hts gX7_done_X7_sends rfl rfl rfl (by decide +kernel) ⟨Nat.le_of_ble_eq_true rfl, Nat.le_of_ble_eq_true rfl⟩) (preV (ci := 7) hK (hP.subm (ws' := [(ax, .inr (7, [.ref ax_row, .ref ax_text, .int x_letters, .int x_at, .ref ax_read, .ref ax_undone, .int x_undos, .ref ax_order, .ref ax_dones, .int x_away, .int x_bestSet, .ref ax_aside, .ref ax_tapedWho, .ref ax_tapedTill, .int x_taped, .ref ax_kept, .int x_keeps])), (ax_row, .inl (cyI, 28, .inl x_row)), (ax_order, .inl (cyI, 8, .inl x_order)), (ax_dones, .inl (cyI, 8, .inl x_dones))]) [0, 1, 2, 3] rfl) (hD.sub (ws' := [(ax, .inr (7, [.ref ax_row, .ref ax_text, .int x_letters, .int x_at, .ref ax_read, .ref ax_undone, .int x_undos, .ref ax_order, .ref ax_dones, .int x_away, .int x_bestSet, .ref ax_aside, .ref ax_tapedWho, .ref ax_tapedTill, .int x_taped, .ref ax_kept, .int x_keeps])), (ax_row, .inl (cyI, 28, .inl x_row)), (ax_order, .inl (cyI, 8, .inl x_order)), (ax_dones, .inl (cyI, 8, .inl x_dones))]) [0, 1, 2, 3] (by decide) rfl) rfl rfl) rfl rfl hl.1 rfl (lv_room (Nat.le_of_ble_eq_true rfl)) dX7_done_34 ⟨Nat.le_of_ble_eq_true rfl, Nat.le_of_ble_eq_true rfl⟩) hP hD hS hA [0, 1, 2, 3] [] [0, 1, 2, 3] rfl rfl rfl (by decide) (by decide) (by decide) (fun H locs hP hD hS => ?_)
        exact hJ37 x_away_o34 x_order_o34 x_dones_o34 _ _ _ hP hD hS (lv_sub hl [0, 1] rfl) hf
      · replace hf := ip c22 hf
        refine lv_aload_n hx hb dX7_done_25 rfl (lv_at hl 0 rfl) ?_
        obtain ⟨⟨x_away_o26, x_order_o26, x_dones_o26⟩, q26, hf⟩ := ob hf
        replace hf : _ = _ := hf
        refine k_v (wc := [(ax, .inr (7, [.ref ax_row, .ref ax_text, .int x_letters, .int x_at, .ref ax_read, .ref ax_undone, .int x_undos, .ref ax_order, .ref ax_dones, .int x_away, .int x_bestSet, .ref ax_aside, .ref ax_tapedWho, .ref ax_tapedTill, .int x_taped, .ref ax_kept, .int x_keeps])), (ax_row, .inl (cyI, 28, .inl x_row)), (ax_order, .inl (cyI, 8, .inl x_order)), (ax_dones, .inl (cyI, 8, .inl x_dones))]) (wr := []) (w1 := [(ax, .inr (7, [.ref ax_row, .ref ax_text, .int x_letters, .int x_at, .ref ax_read, .ref ax_undone, .int x_undos, .ref ax_order, .ref ax_dones, .int x_away_o26, .int x_bestSet, .ref ax_aside, .ref ax_tapedWho, .ref ax_tapedTill, .int x_taped, .ref ax_kept, .int x_keeps])), (ax_row, .inl (cyI, 28, .inl x_row)), (ax_order, .inl (cyI, 8, .inl x_order_o26)), (ax_dones, .inl (cyI, 8, .inl x_dones_o26))]) (wn := [(ax, .inr (7, [.ref ax_row, .ref ax_text, .int x_letters, .int x_at, .ref ax_read, .ref ax_undone, .int x_undos, .ref ax_order, .ref ax_dones, .int x_away_o26, .int x_bestSet, .ref ax_aside, .ref ax_tapedWho, .ref ax_tapedTill, .int x_taped, .ref ax_kept, .int x_keeps])), (ax_row, .inl (cyI, 28, .inl x_row)), (ax_order, .inl (cyI, 8, .inl x_order_o26)), (ax_dones, .inl (cyI, 8, .inl x_dones_o26))]) (va_runV (As := []) (rest := []) ⟨hx, hb, hml, hown, hts⟩ (c_X7_opens l D cyI cyC cyS H.size ax ax_row ax_text ax_read ax_undone ax_order ax_dones ax_aside ax_tapedWho ax_tapedTill ax_kept x_letters x_at x_undos x_away x_bestSet x_taped x_keeps x_row x_order x_dones q26) (cwV 0 hts gX7_done_X7_opens rfl rfl rfl (by decide +kernel) ⟨Nat.le_of_ble_eq_true rfl, Nat.le_of_ble_eq_true rfl⟩) (preV (ci := 7) hK (hP.subm (ws' := [(ax, .inr (7, [.ref ax_row, .ref ax_text, .int x_letters, .int x_at, .ref ax_read, .ref ax_undone, .int x_undos, .ref ax_order, .ref ax_dones, .int x_away, .int x_bestSet, .ref ax_aside, .ref ax_tapedWho, .ref ax_tapedTill, .int x_taped, .ref ax_kept, .int x_keeps])), (ax_row, .inl (cyI, 28, .inl x_row)), (ax_order, .inl (cyI, 8, .inl x_order)), (ax_dones, .inl (cyI, 8, .inl x_dones))]) [0, 1, 2, 3] rfl) (hD.sub (ws' := [(ax, .inr (7, [.ref ax_row, .ref ax_text, .int x_letters, .int x_at, .ref ax_read, .ref ax_undone, .int x_undos, .ref ax_order, .ref ax_dones, .int x_away, .int x_bestSet, .ref ax_aside, .ref ax_tapedWho, .ref ax_tapedTill, .int x_taped, .ref ax_kept, .int x_keeps])), (ax_row, .inl (cyI, 28, .inl x_row)), (ax_order, .inl (cyI, 8, .inl x_order)), (ax_dones, .inl (cyI, 8, .inl x_dones))]) [0, 1, 2, 3] (by decide) rfl) rfl rfl) rfl rfl hl.1 rfl (lv_room (Nat.le_of_ble_eq_true rfl)) dX7_done_26 ⟨Nat.le_of_ble_eq_true rfl, Nat.le_of_ble_eq_true rfl⟩) hP hD hS hA [0, 1, 2, 3] [] [0, 1, 2, 3] rfl rfl rfl (by decide) (by decide) (by decide) (fun H locs hP hD hS => ?_)
        refine lv_goto (tgt := 37) hx hb dX7_done_29 (by decide) ?_
        exact hJ37 x_away_o26 x_order_o26 x_dones_o26 _ _ _ hP hD hS (lv_sub hl [0, 1] rfl) hf
    · replace hf := ip c15 hf
      refine lv_iconst (v := -1) hx hb dX7_done_18 (by decide) ?_
      simp only [Option.some.injEq, Prod.mk.injEq] at hf
      obtain ⟨rfl, rfl, rfl, rfl⟩ := hf
      exact W.iret hx hb hr (fun t ht hW => ⟨⟨_, (), rfl, rfl, by rw [ht]; exact hP, hD⟩, hS.F ht⟩) hS.2.2 dX7_done_19
abbrev rX7_overtaken : Room := { frames := 4, cells := 0, slots := 0, locals := 91 }
set_option maxHeartbeats 4000000 in
set_option maxRecDepth 100000 in
theorem c_X7_overtaken (l : Launch) (D : va_G) (cyI cyC cyS : ClassId) (sz : Nat) (ax : Nat) (ax_row : Nat) (ax_text : Nat) (ax_read : Nat) (ax_undone : Nat) (ax_order : Nat) (ax_dones : Nat) (ax_aside : Nat) (ax_tapedWho : Nat) (ax_tapedTill : Nat) (ax_kept : Nat) (x_letters : Int32) (x_at : Int32) (x_undos : Int32) (x_away : Int32) (x_bestSet : Int32) (x_taped : Int32) (x_keeps : Int32) (x_row : Nat → Int32) (x_order : Nat → Int32) (x_dones : Nat → Int32) (i1 : Int32) {r : Int32} {o_x_away : Int32} {o_x_order : Nat → Int32} {o_x_dones : Nat → Int32} (hf : S_X7_overtaken i1 x_away x_row x_order x_dones = some (r, o_x_away, o_x_order, o_x_dones)) : Met l yX7_overtaken wsX7_overtaken rX7_overtaken (Cpre [.ref ax, .int i1] D cyI cyC cyS sz [(ax, .inr (7, [.ref ax_row, .ref ax_text, .int x_letters, .int x_at, .ref ax_read, .ref ax_undone, .int x_undos, .ref ax_order, .ref ax_dones, .int x_away, .int x_bestSet, .ref ax_aside, .ref ax_tapedWho, .ref ax_tapedTill, .int x_taped, .ref ax_kept, .int x_keeps])), (ax_row, .inl (cyI, 28, .inl x_row)), (ax_order, .inl (cyI, 8, .inl x_order)), (ax_dones, .inl (cyI, 8, .inl x_dones))]) (CQi r D [(ax, .inr (7, [.ref ax_row, .ref ax_text, .int x_letters, .int x_at, .ref ax_read, .ref ax_undone, .int x_undos, .ref ax_order, .ref ax_dones, .int o_x_away, .int x_bestSet, .ref ax_aside, .ref ax_tapedWho, .ref ax_tapedTill, .int x_taped, .ref ax_kept, .int x_keeps])), (ax_row, .inl (cyI, 28, .inl x_row)), (ax_order, .inl (cyI, 8, .inl o_x_order)), (ax_dones, .inl (cyI, 8, .inl o_x_dones))] (va_A [(ax, .inr (7, [.ref ax_row, .ref ax_text, .int x_letters, .int x_at, .ref ax_read, .ref ax_undone, .int x_undos, .ref ax_order, .ref ax_dones, .int x_away, .int x_bestSet, .ref ax_aside, .ref ax_tapedWho, .ref ax_tapedTill, .int x_taped, .ref ax_kept, .int x_keeps])), (ax_row, .inl (cyI, 28, .inl x_row)), (ax_order, .inl (cyI, 8, .inl x_order)), (ax_dones, .inl (cyI, 8, .inl x_dones))] sz)) 0 0 (va_A [(ax, .inr (7, [.ref ax_row, .ref ax_text, .int x_letters, .int x_at, .ref ax_read, .ref ax_undone, .int x_undos, .ref ax_order, .ref ax_dones, .int x_away, .int x_bestSet, .ref ax_aside, .ref ax_tapedWho, .ref ax_tapedTill, .int x_taped, .ref ax_kept, .int x_keeps])), (ax_row, .inl (cyI, 28, .inl x_row)), (ax_order, .inl (cyI, 8, .inl x_order)), (ax_dones, .inl (cyI, 8, .inl x_dones))] sz) := by
  refine Met.ofW (cc := cX7_overtaken) (maxL := 2) (ret := (some .int)) (by decide) rfl ?_
  intro p e s m args below meth c s₁ B hml hv
  obtain ⟨rfl, hsz, hP, hK, hD0⟩ := hv
  have hx := B.exec
  have hb := B.bytes
  have hr := B.returns
  have hts := atoms_spec (ws := wsX7_overtaken) B.pre
  have hown : s.vm.findClass RX7 = some m.cls := findClass_of_methodNamed B.named
  have hlocks := B.notSynchronized
  subst hsz
  have hD := hD0.self (sz := s.heap.size)
  generalize hAe : va_A [(ax, .inr (7, [.ref ax_row, .ref ax_text, .int x_letters, .int x_at, .ref ax_read, .ref ax_undone, .int x_undos, .ref ax_order, .ref ax_dones, .int x_away, .int x_bestSet, .ref ax_aside, .ref ax_tapedWho, .ref ax_tapedTill, .int x_taped, .ref ax_kept, .int x_keeps])), (ax_row, .inl (cyI, 28, .inl x_row)), (ax_order, .inl (cyI, 8, .inl x_order)), (ax_dones, .inl (cyI, 8, .inl x_dones))] s.heap.size = A at hD ⊢
  have hA : ∀ q : Nat, s.heap.size ≤ q → A q := fun q h => by rw [← hAe]; exact Or.inr h
  have hS : va_S A s.heap s.heap [] := va_S.rf
  have hl := lv_entry ([.ref ax, .int i1]) (n := 2) (Nat.le_of_ble_eq_true rfl)
  rw [lg_entry_eq]
  generalize (lg_sl ([.ref ax, .int i1]) ++ List.replicate (2 - (lg_sl ([.ref ax, .int i1])).length) Slot.unset).toArray = ls at hl ⊢
  have hl : lv_has ls 2 [(0, .ref ax), (1, .int i1)] := hl
  unfold S_X7_overtaken at hf
  have hP : va_P D vwCl [(ax, .inr (7, [.ref ax_row, .ref ax_text, .int x_letters, .int x_at, .ref ax_read, .ref ax_undone, .int x_undos, .ref ax_order, .ref ax_dones, .int x_away, .int x_bestSet, .ref ax_aside, .ref ax_tapedWho, .ref ax_tapedTill, .int x_taped, .ref ax_kept, .int x_keeps])), (ax_row, .inl (cyI, 28, .inl x_row)), (ax_order, .inl (cyI, 8, .inl x_order)), (ax_dones, .inl (cyI, 8, .inl x_dones))] s.heap := hP
  suffices hgo : ∀ (H : Heap) (locs : List Loc), va_P D vwCl [(ax, .inr (7, [.ref ax_row, .ref ax_text, .int x_letters, .int x_at, .ref ax_read, .ref ax_undone, .int x_undos, .ref ax_order, .ref ax_dones, .int x_away, .int x_bestSet, .ref ax_aside, .ref ax_tapedWho, .ref ax_tapedTill, .int x_taped, .ref ax_kept, .int x_keeps])), (ax_row, .inl (cyI, 28, .inl x_row)), (ax_order, .inl (cyI, 8, .inl x_order)), (ax_dones, .inl (cyI, 8, .inl x_dones))] H → va_S A s.heap H locs → W p l e rX7_overtaken s m (([.ref ax, .int i1] : List Value).toArray) below meth c H locs 0 0 (MQ below (CQi r D [(ax, .inr (7, [.ref ax_row, .ref ax_text, .int x_letters, .int x_at, .ref ax_read, .ref ax_undone, .int x_undos, .ref ax_order, .ref ax_dones, .int o_x_away, .int x_bestSet, .ref ax_aside, .ref ax_tapedWho, .ref ax_tapedTill, .int x_taped, .ref ax_kept, .int x_keeps])), (ax_row, .inl (cyI, 28, .inl x_row)), (ax_order, .inl (cyI, 8, .inl o_x_order)), (ax_dones, .inl (cyI, 8, .inl o_x_dones))] A) (([.ref ax, .int i1] : List Value).toArray) s 0 0 A) (F0 m 0 ls []) from hgo _ _ hP hS
  clear hP hS
  intro H locs hP hS
  refine lv_iload_n hx hb dX7_overtaken_0 rfl (lv_at hl 1 rfl) ?_
  refine lv_iconst (v := -1) hx hb dX7_overtaken_1 (by decide) ?_
  have hJ15 : ∀ (H : Heap) (locs : List Loc) (ls : Array Slot), va_P D vwCl [(ax, .inr (7, [.ref ax_row, .ref ax_text, .int x_letters, .int x_at, .ref ax_read, .ref ax_undone, .int x_undos, .ref ax_order, .ref ax_dones, .int x_away, .int x_bestSet, .ref ax_aside, .ref ax_tapedWho, .ref ax_tapedTill, .int x_taped, .ref ax_kept, .int x_keeps])), (ax_row, .inl (cyI, 28, .inl x_row)), (ax_order, .inl (cyI, 8, .inl x_order)), (ax_dones, .inl (cyI, 8, .inl x_dones))] H → va_D A [(ax, .inr (7, [.ref ax_row, .ref ax_text, .int x_letters, .int x_at, .ref ax_read, .ref ax_undone, .int x_undos, .ref ax_order, .ref ax_dones, .int x_away, .int x_bestSet, .ref ax_aside, .ref ax_tapedWho, .ref ax_tapedTill, .int x_taped, .ref ax_kept, .int x_keeps])), (ax_row, .inl (cyI, 28, .inl x_row)), (ax_order, .inl (cyI, 8, .inl x_order)), (ax_dones, .inl (cyI, 8, .inl x_dones))] → va_S A s.heap H locs → lv_has ls 2 [(0, .ref ax), (1, .int i1)] → (Option.bind (S_X7_opens x_row x_order x_dones) (fun (x_away_o16, x_order_o16, x_dones_o16) =>
(if 0 ≤ i1 then
(Option.bind (S_X7_overtakes i1 x_row x_dones_o16) (fun r32 =>
some (r32, x_away_o16, x_order_o16, x_dones_o16))) else
(Option.bind (S_X7_overtakings x_row x_dones_o16) (fun r24 =>
some (r24, x_away_o16, x_order_o16, x_dones_o16)))))) = some (r, o_x_away, o_x_order, o_x_dones) → W p l e rX7_overtaken s m (([.ref ax, .int i1] : List Value).toArray) below meth c H locs 0 0 (MQ below (CQi r D [(ax, .inr (7, [.ref ax_row, .ref ax_text, .int x_letters, .int x_at, .ref ax_read, .ref ax_undone, .int x_undos, .ref ax_order, .ref ax_dones, .int o_x_away, .int x_bestSet, .ref ax_aside, .ref ax_tapedWho, .ref ax_tapedTill, .int x_taped, .ref ax_kept, .int x_keeps])), (ax_row, .inl (cyI, 28, .inl x_row)), (ax_order, .inl (cyI, 8, .inl o_x_order)), (ax_dones, .inl (cyI, 8, .inl o_x_dones))] A) (([.ref ax, .int i1] : List Value).toArray) s 0 0 A) (F0 m 15 ls []) := by
    intro  H locs ls hP hD hS hl hf
    refine lv_aload_n hx hb dX7_overtaken_15 rfl (lv_at hl 0 rfl) ?_
    obtain ⟨⟨x_away_o16, x_order_o16, x_dones_o16⟩, q16, hf⟩ := ob hf
    replace hf : _ = _ := hf
    refine k_v (wc := [(ax, .inr (7, [.ref ax_row, .ref ax_text, .int x_letters, .int x_at, .ref ax_read, .ref ax_undone, .int x_undos, .ref ax_order, .ref ax_dones, .int x_away, .int x_bestSet, .ref ax_aside, .ref ax_tapedWho, .ref ax_tapedTill, .int x_taped, .ref ax_kept, .int x_keeps])), (ax_row, .inl (cyI, 28, .inl x_row)), (ax_order, .inl (cyI, 8, .inl x_order)), (ax_dones, .inl (cyI, 8, .inl x_dones))]) (wr := []) (w1 := [(ax, .inr (7, [.ref ax_row, .ref ax_text, .int x_letters, .int x_at, .ref ax_read, .ref ax_undone, .int x_undos, .ref ax_order, .ref ax_dones, .int x_away_o16, .int x_bestSet, .ref ax_aside, .ref ax_tapedWho, .ref ax_tapedTill, .int x_taped, .ref ax_kept, .int x_keeps])), (ax_row, .inl (cyI, 28, .inl x_row)), (ax_order, .inl (cyI, 8, .inl x_order_o16)), (ax_dones, .inl (cyI, 8, .inl x_dones_o16))]) (wn := [(ax, .inr (7, [.ref ax_row, .ref ax_text, .int x_letters, .int x_at, .ref ax_read, .ref ax_undone, .int x_undos, .ref ax_order, .ref ax_dones, .int x_away_o16, .int x_bestSet, .ref ax_aside, .ref ax_tapedWho, .ref ax_tapedTill, .int x_taped, .ref ax_kept, .int x_keeps])), (ax_row, .inl (cyI, 28, .inl x_row)), (ax_order, .inl (cyI, 8, .inl x_order_o16)), (ax_dones, .inl (cyI, 8, .inl x_dones_o16))]) (va_runV (As := []) (rest := []) ⟨hx, hb, hml, hown, hts⟩ (c_X7_opens l D cyI cyC cyS H.size ax ax_row ax_text ax_read ax_undone ax_order ax_dones ax_aside ax_tapedWho ax_tapedTill ax_kept x_letters x_at x_undos x_away x_bestSet x_taped x_keeps x_row x_order x_dones q16) (cwV 0 hts gX7_overtaken_X7_opens rfl rfl rfl (by decide +kernel) ⟨Nat.le_of_ble_eq_true rfl, Nat.le_of_ble_eq_true rfl⟩) (preV (ci := 7) hK (hP.subm (ws' := [(ax, .inr (7, [.ref ax_row, .ref ax_text, .int x_letters, .int x_at, .ref ax_read, .ref ax_undone, .int x_undos, .ref ax_order, .ref ax_dones, .int x_away, .int x_bestSet, .ref ax_aside, .ref ax_tapedWho, .ref ax_tapedTill, .int x_taped, .ref ax_kept, .int x_keeps])), (ax_row, .inl (cyI, 28, .inl x_row)), (ax_order, .inl (cyI, 8, .inl x_order)), (ax_dones, .inl (cyI, 8, .inl x_dones))]) [0, 1, 2, 3] rfl) (hD.sub (ws' := [(ax, .inr (7, [.ref ax_row, .ref ax_text, .int x_letters, .int x_at, .ref ax_read, .ref ax_undone, .int x_undos, .ref ax_order, .ref ax_dones, .int x_away, .int x_bestSet, .ref ax_aside, .ref ax_tapedWho, .ref ax_tapedTill, .int x_taped, .ref ax_kept, .int x_keeps])), (ax_row, .inl (cyI, 28, .inl x_row)), (ax_order, .inl (cyI, 8, .inl x_order)), (ax_dones, .inl (cyI, 8, .inl x_dones))]) [0, 1, 2, 3] (by decide) rfl) rfl rfl) rfl rfl hl.1 rfl (lv_room (Nat.le_of_ble_eq_true rfl)) dX7_overtaken_16 ⟨Nat.le_of_ble_eq_true rfl, Nat.le_of_ble_eq_true rfl⟩) hP hD hS hA [0, 1, 2, 3] [] [0, 1, 2, 3] rfl rfl rfl (by decide) (by decide) (by decide) (fun H locs hP hD hS => ?_)
    refine lv_iload_n hx hb dX7_overtaken_19 rfl (lv_at hl 1 rfl) ?_
    refine lv_if_ge (tgt := 30) hx hb dX7_overtaken_20 (by decide) (fun c20 => ?_) (fun c20 => ?_)
    · replace hf := ip c20 hf
      refine lv_aload_n hx hb dX7_overtaken_30 rfl (lv_at hl 0 rfl) ?_
      refine lv_iload_n hx hb dX7_overtaken_31 rfl (lv_at hl 1 rfl) ?_
      obtain ⟨r32, q32, hf⟩ := ob hf
      refine k_i (wc := [(ax, .inr (7, [.ref ax_row, .ref ax_text, .int x_letters, .int x_at, .ref ax_read, .ref ax_undone, .int x_undos, .ref ax_order, .ref ax_dones, .int x_away_o16, .int x_bestSet, .ref ax_aside, .ref ax_tapedWho, .ref ax_tapedTill, .int x_taped, .ref ax_kept, .int x_keeps])), (ax_row, .inl (cyI, 28, .inl x_row)), (ax_dones, .inl (cyI, 8, .inl x_dones_o16))]) (wr := [(ax_order, .inl (cyI, 8, .inl x_order_o16))]) (w1 := [(ax, .inr (7, [.ref ax_row, .ref ax_text, .int x_letters, .int x_at, .ref ax_read, .ref ax_undone, .int x_undos, .ref ax_order, .ref ax_dones, .int x_away_o16, .int x_bestSet, .ref ax_aside, .ref ax_tapedWho, .ref ax_tapedTill, .int x_taped, .ref ax_kept, .int x_keeps])), (ax_row, .inl (cyI, 28, .inl x_row)), (ax_dones, .inl (cyI, 8, .inl x_dones_o16))]) (wn := [(ax, .inr (7, [.ref ax_row, .ref ax_text, .int x_letters, .int x_at, .ref ax_read, .ref ax_undone, .int x_undos, .ref ax_order, .ref ax_dones, .int x_away_o16, .int x_bestSet, .ref ax_aside, .ref ax_tapedWho, .ref ax_tapedTill, .int x_taped, .ref ax_kept, .int x_keeps])), (ax_row, .inl (cyI, 28, .inl x_row)), (ax_order, .inl (cyI, 8, .inl x_order_o16)), (ax_dones, .inl (cyI, 8, .inl x_dones_o16))]) (va_runV (As := [.int i1]) (rest := []) ⟨hx, hb, hml, hown, hts⟩ (c_X7_overtakes l D cyI cyC cyS H.size ax ax_row ax_text ax_read ax_undone ax_order ax_dones ax_aside ax_tapedWho ax_tapedTill ax_kept x_letters x_at x_undos x_away_o16 x_bestSet x_taped x_keeps x_row x_dones_o16 i1 q32) (cwV 1 hts gX7_overtaken_X7_overtakes rfl rfl rfl (by decide +kernel) ⟨Nat.le_of_ble_eq_true rfl, Nat.le_of_ble_eq_true rfl⟩) (preV (ci := 7) hK (hP.subm (ws' := [(ax, .inr (7, [.ref ax_row, .ref ax_text, .int x_letters, .int x_at, .ref ax_read, .ref ax_undone, .int x_undos, .ref ax_order, .ref ax_dones, .int x_away_o16, .int x_bestSet, .ref ax_aside, .ref ax_tapedWho, .ref ax_tapedTill, .int x_taped, .ref ax_kept, .int x_keeps])), (ax_row, .inl (cyI, 28, .inl x_row)), (ax_dones, .inl (cyI, 8, .inl x_dones_o16))]) [0, 1, 3] rfl) (hD.sub (ws' := [(ax, .inr (7, [.ref ax_row, .ref ax_text, .int x_letters, .int x_at, .ref ax_read, .ref ax_undone, .int x_undos, .ref ax_order, .ref ax_dones, .int x_away_o16, .int x_bestSet, .ref ax_aside, .ref ax_tapedWho, .ref ax_tapedTill, .int x_taped, .ref ax_kept, .int x_keeps])), (ax_row, .inl (cyI, 28, .inl x_row)), (ax_dones, .inl (cyI, 8, .inl x_dones_o16))]) [0, 1, 3] (by decide) rfl) rfl rfl) rfl rfl hl.1 rfl (lv_room (Nat.le_of_ble_eq_true rfl)) dX7_overtaken_32 ⟨Nat.le_of_ble_eq_true rfl, Nat.le_of_ble_eq_true rfl⟩) hP hD hS hA [0, 1, 3] [2] [1, 2, 0, 3] rfl rfl rfl (by decide) (by decide) (by decide) (fun H locs hP hD hS => ?_)
      simp only [Option.some.injEq, Prod.mk.injEq] at hf
      obtain ⟨rfl, rfl, rfl, rfl⟩ := hf
      exact W.iret hx hb hr (fun t ht hW => ⟨⟨_, (), rfl, rfl, by rw [ht]; exact hP, hD⟩, hS.F ht⟩) hS.2.2 dX7_overtaken_35
    · replace hf := iq c20 hf
      refine lv_aload_n hx hb dX7_overtaken_23 rfl (lv_at hl 0 rfl) ?_
      obtain ⟨r24, q24, hf⟩ := ob hf
      refine k_i (wc := [(ax, .inr (7, [.ref ax_row, .ref ax_text, .int x_letters, .int x_at, .ref ax_read, .ref ax_undone, .int x_undos, .ref ax_order, .ref ax_dones, .int x_away_o16, .int x_bestSet, .ref ax_aside, .ref ax_tapedWho, .ref ax_tapedTill, .int x_taped, .ref ax_kept, .int x_keeps])), (ax_row, .inl (cyI, 28, .inl x_row)), (ax_dones, .inl (cyI, 8, .inl x_dones_o16))]) (wr := [(ax_order, .inl (cyI, 8, .inl x_order_o16))]) (w1 := [(ax, .inr (7, [.ref ax_row, .ref ax_text, .int x_letters, .int x_at, .ref ax_read, .ref ax_undone, .int x_undos, .ref ax_order, .ref ax_dones, .int x_away_o16, .int x_bestSet, .ref ax_aside, .ref ax_tapedWho, .ref ax_tapedTill, .int x_taped, .ref ax_kept, .int x_keeps])), (ax_row, .inl (cyI, 28, .inl x_row)), (ax_dones, .inl (cyI, 8, .inl x_dones_o16))]) (wn := [(ax, .inr (7, [.ref ax_row, .ref ax_text, .int x_letters, .int x_at, .ref ax_read, .ref ax_undone, .int x_undos, .ref ax_order, .ref ax_dones, .int x_away_o16, .int x_bestSet, .ref ax_aside, .ref ax_tapedWho, .ref ax_tapedTill, .int x_taped, .ref ax_kept, .int x_keeps])), (ax_row, .inl (cyI, 28, .inl x_row)), (ax_order, .inl (cyI, 8, .inl x_order_o16)), (ax_dones, .inl (cyI, 8, .inl x_dones_o16))]) (va_runV (As := []) (rest := []) ⟨hx, hb, hml, hown, hts⟩ (c_X7_overtakings l D cyI cyC cyS H.size ax ax_row ax_text ax_read ax_undone ax_order ax_dones ax_aside ax_tapedWho ax_tapedTill ax_kept x_letters x_at x_undos x_away_o16 x_bestSet x_taped x_keeps x_row x_dones_o16 q24) (cwV 0 hts gX7_overtaken_X7_overtakings rfl rfl rfl (by decide +kernel) ⟨Nat.le_of_ble_eq_true rfl, Nat.le_of_ble_eq_true rfl⟩) (preV (ci := 7) hK (hP.subm (ws' := [(ax, .inr (7, [.ref ax_row, .ref ax_text, .int x_letters, .int x_at, .ref ax_read, .ref ax_undone, .int x_undos, .ref ax_order, .ref ax_dones, .int x_away_o16, .int x_bestSet, .ref ax_aside, .ref ax_tapedWho, .ref ax_tapedTill, .int x_taped, .ref ax_kept, .int x_keeps])), (ax_row, .inl (cyI, 28, .inl x_row)), (ax_dones, .inl (cyI, 8, .inl x_dones_o16))]) [0, 1, 3] rfl) (hD.sub (ws' := [(ax, .inr (7, [.ref ax_row, .ref ax_text, .int x_letters, .int x_at, .ref ax_read, .ref ax_undone, .int x_undos, .ref ax_order, .ref ax_dones, .int x_away_o16, .int x_bestSet, .ref ax_aside, .ref ax_tapedWho, .ref ax_tapedTill, .int x_taped, .ref ax_kept, .int x_keeps])), (ax_row, .inl (cyI, 28, .inl x_row)), (ax_dones, .inl (cyI, 8, .inl x_dones_o16))]) [0, 1, 3] (by decide) rfl) rfl rfl) rfl rfl hl.1 rfl (lv_room (Nat.le_of_ble_eq_true rfl)) dX7_overtaken_24 ⟨Nat.le_of_ble_eq_true rfl, Nat.le_of_ble_eq_true rfl⟩) hP hD hS hA [0, 1, 3] [2] [1, 2, 0, 3] rfl rfl rfl (by decide) (by decide) (by decide) (fun H locs hP hD hS => ?_)
      refine lv_goto (tgt := 35) hx hb dX7_overtaken_27 (by decide) ?_
      simp only [Option.some.injEq, Prod.mk.injEq] at hf
      obtain ⟨rfl, rfl, rfl, rfl⟩ := hf
      exact W.iret hx hb hr (fun t ht hW => ⟨⟨_, (), rfl, rfl, by rw [ht]; exact hP, hD⟩, hS.F ht⟩) hS.2.2 dX7_overtaken_35
  replace hf := jn_h hf
  refine lv_icmp_eq (tgt := 15) hx hb dX7_overtaken_2 (by decide) (fun c2 => ?_) (fun c2 => ?_)
  · replace hf := ip c2 hf
    exact hJ15 _ _ _ hP hD hS (lv_sub hl [0, 1] rfl) hf
  · replace hf := iq c2 hf
    refine lv_aload_n hx hb dX7_overtaken_5 rfl (lv_at hl 0 rfl) ?_
    refine lv_iload_n hx hb dX7_overtaken_6 rfl (lv_at hl 1 rfl) ?_
    obtain ⟨r7, q7, hf⟩ := ob hf
    refine k_i (wc := [(ax, .inr (7, [.ref ax_row, .ref ax_text, .int x_letters, .int x_at, .ref ax_read, .ref ax_undone, .int x_undos, .ref ax_order, .ref ax_dones, .int x_away, .int x_bestSet, .ref ax_aside, .ref ax_tapedWho, .ref ax_tapedTill, .int x_taped, .ref ax_kept, .int x_keeps])), (ax_row, .inl (cyI, 28, .inl x_row))]) (wr := [(ax_order, .inl (cyI, 8, .inl x_order)), (ax_dones, .inl (cyI, 8, .inl x_dones))]) (w1 := [(ax, .inr (7, [.ref ax_row, .ref ax_text, .int x_letters, .int x_at, .ref ax_read, .ref ax_undone, .int x_undos, .ref ax_order, .ref ax_dones, .int x_away, .int x_bestSet, .ref ax_aside, .ref ax_tapedWho, .ref ax_tapedTill, .int x_taped, .ref ax_kept, .int x_keeps])), (ax_row, .inl (cyI, 28, .inl x_row))]) (wn := [(ax, .inr (7, [.ref ax_row, .ref ax_text, .int x_letters, .int x_at, .ref ax_read, .ref ax_undone, .int x_undos, .ref ax_order, .ref ax_dones, .int x_away, .int x_bestSet, .ref ax_aside, .ref ax_tapedWho, .ref ax_tapedTill, .int x_taped, .ref ax_kept, .int x_keeps])), (ax_row, .inl (cyI, 28, .inl x_row)), (ax_order, .inl (cyI, 8, .inl x_order)), (ax_dones, .inl (cyI, 8, .inl x_dones))]) (va_runV (As := [.int i1]) (rest := []) ⟨hx, hb, hml, hown, hts⟩ (c_X7_isPerson l D cyI cyC cyS H.size ax ax_row ax_text ax_read ax_undone ax_order ax_dones ax_aside ax_tapedWho ax_tapedTill ax_kept x_letters x_at x_undos x_away x_bestSet x_taped x_keeps x_row i1 q7) (cwV 1 hts gX7_overtaken_X7_isPerson rfl rfl rfl (by decide +kernel) ⟨Nat.le_of_ble_eq_true rfl, Nat.le_of_ble_eq_true rfl⟩) (preV (ci := 7) hK (hP.subm (ws' := [(ax, .inr (7, [.ref ax_row, .ref ax_text, .int x_letters, .int x_at, .ref ax_read, .ref ax_undone, .int x_undos, .ref ax_order, .ref ax_dones, .int x_away, .int x_bestSet, .ref ax_aside, .ref ax_tapedWho, .ref ax_tapedTill, .int x_taped, .ref ax_kept, .int x_keeps])), (ax_row, .inl (cyI, 28, .inl x_row))]) [0, 1] rfl) (hD.sub (ws' := [(ax, .inr (7, [.ref ax_row, .ref ax_text, .int x_letters, .int x_at, .ref ax_read, .ref ax_undone, .int x_undos, .ref ax_order, .ref ax_dones, .int x_away, .int x_bestSet, .ref ax_aside, .ref ax_tapedWho, .ref ax_tapedTill, .int x_taped, .ref ax_kept, .int x_keeps])), (ax_row, .inl (cyI, 28, .inl x_row))]) [0, 1] (by decide) rfl) rfl rfl) rfl rfl hl.1 rfl (lv_room (Nat.le_of_ble_eq_true rfl)) dX7_overtaken_7 ⟨Nat.le_of_ble_eq_true rfl, Nat.le_of_ble_eq_true rfl⟩) hP hD hS hA [0, 1] [2, 3] [2, 3, 0, 1] rfl rfl rfl (by decide) (by decide) (by decide) (fun H locs hP hD hS => ?_)
    refine lv_if_ne (tgt := 15) hx hb dX7_overtaken_10 (by decide) (fun c10 => ?_) (fun c10 => ?_)
    · replace hf := iq c10 hf
      exact hJ15 _ _ _ hP hD hS (lv_sub hl [0, 1] rfl) hf
    · replace hf := ip c10 hf
      refine lv_iconst (v := -1) hx hb dX7_overtaken_13 (by decide) ?_
      simp only [Option.some.injEq, Prod.mk.injEq] at hf
      obtain ⟨rfl, rfl, rfl, rfl⟩ := hf
      exact W.iret hx hb hr (fun t ht hW => ⟨⟨_, (), rfl, rfl, by rw [ht]; exact hP, hD⟩, hS.F ht⟩) hS.2.2 dX7_overtaken_14
