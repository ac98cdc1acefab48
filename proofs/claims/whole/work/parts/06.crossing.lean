abbrev rX0_isAway : Room := { frames := 0, cells := 0, slots := 0, locals := 0 }
set_option maxHeartbeats 4000000 in
set_option maxRecDepth 100000 in
theorem c_X0_isAway (l : Launch) (D : va_G) (cyI cyC cyS : ClassId) (sz : Nat) (ax : Nat) (ax_kind : Nat) (ax_walk : Nat) (ax_first : Nat) (ax_second : Nat) (ax_order : Nat) (ax_ready : Nat) (x_people : Int32) (x_away : Int32) (i1 : Int32) {r : Int32} (hf : S_X0_isAway i1 x_away = some r) : Met l yX0_isAway wsX0_isAway rX0_isAway (Cpre [.ref ax, .int i1] D cyI cyC cyS sz [(ax, .inr (0, [.ref ax_kind, .ref ax_walk, .ref ax_first, .ref ax_second, .ref ax_order, .ref ax_ready, .int x_people, .int x_away]))]) (CQi r D [(ax, .inr (0, [.ref ax_kind, .ref ax_walk, .ref ax_first, .ref ax_second, .ref ax_order, .ref ax_ready, .int x_people, .int x_away]))] (va_A [(ax, .inr (0, [.ref ax_kind, .ref ax_walk, .ref ax_first, .ref ax_second, .ref ax_order, .ref ax_ready, .int x_people, .int x_away]))] sz)) 0 0 (va_A [(ax, .inr (0, [.ref ax_kind, .ref ax_walk, .ref ax_first, .ref ax_second, .ref ax_order, .ref ax_ready, .int x_people, .int x_away]))] sz) := by
  refine Met.ofW (cc := cX0_isAway) (maxL := 2) (ret := (some .boolean)) (by decide) rfl ?_
  intro p e s m args below meth c s₁ B hml hv
  obtain ⟨rfl, hsz, hP, hK, hD0⟩ := hv
  have hx := B.exec
  have hb := B.bytes
  have hr := B.returns
  have hts := atoms_spec (ws := wsX0_isAway) B.pre
  have hown : s.vm.findClass RX0 = some m.cls := findClass_of_methodNamed B.named
  have hlocks := B.notSynchronized
  subst hsz
  have hD := hD0.self (sz := s.heap.size)
  generalize hAe : va_A [(ax, .inr (0, [.ref ax_kind, .ref ax_walk, .ref ax_first, .ref ax_second, .ref ax_order, .ref ax_ready, .int x_people, .int x_away]))] s.heap.size = A at hD ⊢
  have hA : ∀ q : Nat, s.heap.size ≤ q → A q := fun q h => by rw [← hAe]; exact Or.inr h
  have hS : va_S A s.heap s.heap [] := va_S.rf
  have hl := lv_entry ([.ref ax, .int i1]) (n := 2) (Nat.le_of_ble_eq_true rfl)
  rw [lg_entry_eq]
  generalize (lg_sl ([.ref ax, .int i1]) ++ List.replicate (2 - (lg_sl ([.ref ax, .int i1])).length) Slot.unset).toArray = ls at hl ⊢
  have hl : lv_has ls 2 [(0, .ref ax), (1, .int i1)] := hl
  have f53 := hts (.fieldLink RX0 53 "SecondTill$Crossing" "away" "I") (by decide +kernel)
  have inX0 : ∀ w ∈ u_ws RX0 TX0 8, w ∈ wsX0_isAway := by decide +kernel
  unfold S_X0_isAway at hf
  have hP : va_P D vwCl [(ax, .inr (0, [.ref ax_kind, .ref ax_walk, .ref ax_first, .ref ax_second, .ref ax_order, .ref ax_ready, .int x_people, .int x_away]))] s.heap := hP
  suffices hgo : ∀ (H : Heap) (locs : List Loc), va_P D vwCl [(ax, .inr (0, [.ref ax_kind, .ref ax_walk, .ref ax_first, .ref ax_second, .ref ax_order, .ref ax_ready, .int x_people, .int x_away]))] H → va_S A s.heap H locs → W p l e rX0_isAway s m (([.ref ax, .int i1] : List Value).toArray) below meth c H locs 0 0 (MQ below (CQi r D [(ax, .inr (0, [.ref ax_kind, .ref ax_walk, .ref ax_first, .ref ax_second, .ref ax_order, .ref ax_ready, .int x_people, .int x_away]))] A) (([.ref ax, .int i1] : List Value).toArray) s 0 0 A) (F0 m 0 ls []) from hgo _ _ hP hS
  clear hP hS
  intro H locs hP hS
  refine lv_aload_n hx hb dX0_isAway_0 rfl (lv_at hl 0 rfl) ?_
  refine va_get (C := RX0) (T := TX0) (N := 8) hx hb hts inX0 hown hK.1 hP 0 rfl rfl 7 (by decide) f53 (fun _ h9 => h9) rfl dX0_isAway_1 ?_
  refine lv_iload_n hx hb dX0_isAway_4 rfl (lv_at hl 1 rfl) ?_
  refine lv_ishr hx hb dX0_isAway_5 ?_
  refine lv_iconst (v := 1) hx hb dX0_isAway_6 (by decide) ?_
  refine lv_iand hx hb dX0_isAway_7 ?_
  refine lv_iconst (v := 1) hx hb dX0_isAway_8 (by decide) ?_
  refine lv_icmp_ne (tgt := 16) hx hb dX0_isAway_9 (by decide) (fun c9 => ?_) (fun c9 => ?_)
  · replace hf := iq c9 hf
    refine lv_iconst (v := 0) hx hb dX0_isAway_16 (by decide) ?_
    obtain rfl := Option.some.inj hf
    exact W.zret hx hb hr rfl (fun t ht hW => ⟨⟨_, (), rfl, rfl, by rw [ht]; exact hP, hD⟩, hS.F ht⟩) hS.2.2 dX0_isAway_17
  · replace hf := ip c9 hf
    refine lv_iconst (v := 1) hx hb dX0_isAway_12 (by decide) ?_
    refine lv_goto (tgt := 17) hx hb dX0_isAway_13 (by decide) ?_
    obtain rfl := Option.some.inj hf
    exact W.zret hx hb hr rfl (fun t ht hW => ⟨⟨_, (), rfl, rfl, by rw [ht]; exact hP, hD⟩, hS.F ht⟩) hS.2.2 dX0_isAway_17
abbrev rX0_lineUp : Room := { frames := 0, cells := 0, slots := 0, locals := 0 }
set_option maxHeartbeats 4000000 in
set_option maxRecDepth 100000 in
theorem c_X0_lineUp (l : Launch) (D : va_G) (cyI cyC cyS : ClassId) (sz : Nat) (ax : Nat) (ax_kind : Nat) (ax_walk : Nat) (ax_first : Nat) (ax_second : Nat) (ax_order : Nat) (ax_ready : Nat) (x_people : Int32) (x_away : Int32) (x_order : Nat → Int32) (x_walk : Nat → Int32) {o_x_order : Nat → Int32} (hf : S_X0_lineUp x_people x_order x_walk = some o_x_order) : Met l yX0_lineUp wsX0_lineUp rX0_lineUp (Cpre [.ref ax] D cyI cyC cyS sz [(ax, .inr (0, [.ref ax_kind, .ref ax_walk, .ref ax_first, .ref ax_second, .ref ax_order, .ref ax_ready, .int x_people, .int x_away])), (ax_order, .inl (cyI, 8, .inl x_order)), (ax_walk, .inl (cyI, 8, .inl x_walk))]) (CQv D [(ax, .inr (0, [.ref ax_kind, .ref ax_walk, .ref ax_first, .ref ax_second, .ref ax_order, .ref ax_ready, .int x_people, .int x_away])), (ax_order, .inl (cyI, 8, .inl o_x_order)), (ax_walk, .inl (cyI, 8, .inl x_walk))] (va_A [(ax, .inr (0, [.ref ax_kind, .ref ax_walk, .ref ax_first, .ref ax_second, .ref ax_order, .ref ax_ready, .int x_people, .int x_away])), (ax_order, .inl (cyI, 8, .inl x_order)), (ax_walk, .inl (cyI, 8, .inl x_walk))] sz)) 0 0 (va_A [(ax, .inr (0, [.ref ax_kind, .ref ax_walk, .ref ax_first, .ref ax_second, .ref ax_order, .ref ax_ready, .int x_people, .int x_away])), (ax_order, .inl (cyI, 8, .inl x_order)), (ax_walk, .inl (cyI, 8, .inl x_walk))] sz) := by
  refine Met.ofW (cc := cX0_lineUp) (maxL := 4) (ret := none) (by decide) rfl ?_
  intro p e s m args below meth c s₁ B hml hv
  obtain ⟨rfl, hsz, hP, hK, hD0⟩ := hv
  have hx := B.exec
  have hb := B.bytes
  have hr := B.returns
  have hts := atoms_spec (ws := wsX0_lineUp) B.pre
  have hown : s.vm.findClass RX0 = some m.cls := findClass_of_methodNamed B.named
  have hlocks := B.notSynchronized
  subst hsz
  have hD := hD0.self (sz := s.heap.size)
  generalize hAe : va_A [(ax, .inr (0, [.ref ax_kind, .ref ax_walk, .ref ax_first, .ref ax_second, .ref ax_order, .ref ax_ready, .int x_people, .int x_away])), (ax_order, .inl (cyI, 8, .inl x_order)), (ax_walk, .inl (cyI, 8, .inl x_walk))] s.heap.size = A at hD ⊢
  have hA : ∀ q : Nat, s.heap.size ≤ q → A q := fun q h => by rw [← hAe]; exact Or.inr h
  have hS : va_S A s.heap s.heap [] := va_S.rf
  have hl := lv_entry ([.ref ax]) (n := 4) (Nat.le_of_ble_eq_true rfl)
  rw [lg_entry_eq]
  generalize (lg_sl ([.ref ax]) ++ List.replicate (4 - (lg_sl ([.ref ax])).length) Slot.unset).toArray = ls at hl ⊢
  have hl : lv_has ls 4 [(0, .ref ax)] := hl
  have f36 := hts (.fieldLink RX0 36 "SecondTill$Crossing" "people" "I") (by decide +kernel)
  have inX0 : ∀ w ∈ u_ws RX0 TX0 8, w ∈ wsX0_lineUp := by decide +kernel
  have f24 := hts (.fieldLink RX0 24 "SecondTill$Crossing" "order" "[I") (by decide +kernel)
  have f15 := hts (.fieldLink RX0 15 "SecondTill$Crossing" "walk" "[I") (by decide +kernel)
  unfold S_X0_lineUp at hf
  have hP : va_P D vwCl [(ax, .inr (0, [.ref ax_kind, .ref ax_walk, .ref ax_first, .ref ax_second, .ref ax_order, .ref ax_ready, .int x_people, .int x_away])), (ax_order, .inl (cyI, 8, .inl x_order)), (ax_walk, .inl (cyI, 8, .inl x_walk))] s.heap := hP
  suffices hgo : ∀ (H : Heap) (locs : List Loc), va_P D vwCl [(ax, .inr (0, [.ref ax_kind, .ref ax_walk, .ref ax_first, .ref ax_second, .ref ax_order, .ref ax_ready, .int x_people, .int x_away])), (ax_order, .inl (cyI, 8, .inl x_order)), (ax_walk, .inl (cyI, 8, .inl x_walk))] H → va_S A s.heap H locs → W p l e rX0_lineUp s m (([.ref ax] : List Value).toArray) below meth c H locs 0 0 (MQ below (CQv D [(ax, .inr (0, [.ref ax_kind, .ref ax_walk, .ref ax_first, .ref ax_second, .ref ax_order, .ref ax_ready, .int x_people, .int x_away])), (ax_order, .inl (cyI, 8, .inl o_x_order)), (ax_walk, .inl (cyI, 8, .inl x_walk))] A) (([.ref ax] : List Value).toArray) s 0 0 A) (F0 m 0 ls []) from hgo _ _ hP hS
  clear hP hS
  intro H locs hP hS
  refine lv_iconst (v := 0) hx hb dX0_lineUp_0 (by decide) ?_
  refine lv_istore_n (lv' := [(1, .int (0 : Int32)), (0, .ref ax)]) hx hb dX0_lineUp_1 rfl hl (by decide) rfl (fun ls hl => ?_)
  refine lv_aload_n hx hb dX0_lineUp_2 rfl (lv_at hl 1 rfl) ?_
  refine va_get (C := RX0) (T := TX0) (N := 8) hx hb hts inX0 hown hK.1 hP 0 rfl rfl 6 (by decide) f36 (fun _ h9 => h9) rfl dX0_lineUp_3 ?_
  refine lv_iconst (v := 1) hx hb dX0_lineUp_6 (by decide) ?_
  refine lv_isub hx hb dX0_lineUp_7 ?_
  refine lv_istore_n (lv' := [(2, .int (x_people - (1 : Int32))), (1, .int (0 : Int32)), (0, .ref ax)]) hx hb dX0_lineUp_8 rfl hl (by decide) rfl (fun ls hl => ?_)
  have hL9 : ∀ (n9 : Nat) (i1 : Int32) (i2 : Int32) (x_order : Nat → Int32) (H : Heap) (locs : List Loc) (ls : Array Slot), va_P D vwCl [(ax, .inr (0, [.ref ax_kind, .ref ax_walk, .ref ax_first, .ref ax_second, .ref ax_order, .ref ax_ready, .int x_people, .int x_away])), (ax_order, .inl (cyI, 8, .inl x_order)), (ax_walk, .inl (cyI, 8, .inl x_walk))] H → va_D A [(ax, .inr (0, [.ref ax_kind, .ref ax_walk, .ref ax_first, .ref ax_second, .ref ax_order, .ref ax_ready, .int x_people, .int x_away])), (ax_order, .inl (cyI, 8, .inl x_order)), (ax_walk, .inl (cyI, 8, .inl x_walk))] → va_S A s.heap H locs → lv_has ls 4 [(0, .ref ax), (1, .int i1), (2, .int i2)] → S_X0_lineUp_L9 x_walk n9 i1 i2 x_order = some o_x_order → W p l e rX0_lineUp s m (([.ref ax] : List Value).toArray) below meth c H locs 0 0 (MQ below (CQv D [(ax, .inr (0, [.ref ax_kind, .ref ax_walk, .ref ax_first, .ref ax_second, .ref ax_order, .ref ax_ready, .int x_people, .int x_away])), (ax_order, .inl (cyI, 8, .inl o_x_order)), (ax_walk, .inl (cyI, 8, .inl x_walk))] A) (([.ref ax] : List Value).toArray) s 0 0 A) (F0 m 9 ls []) := by
    intro n9
    induction n9 with
    | zero => intro i1 i2 x_order H locs ls hP hD hS hl hf; exact absurd hf (by simp [S_X0_lineUp_L9])
    | succ n9 ih9 =>
      intro i1 i2 x_order H locs ls hP hD hS hl hf
      rw [S_X0_lineUp_L9] at hf
      refine lv_iload_n hx hb dX0_lineUp_9 rfl (lv_at hl 2 rfl) ?_
      refine lv_if_lt (tgt := 77) hx hb dX0_lineUp_10 (by decide) (fun c10 => ?_) (fun c10 => ?_)
      · replace hf := ip c10 hf
        obtain rfl := Option.some.inj hf
        exact W.vret hx hb hr (fun t ht hW => ⟨⟨(), rfl, trivial, by rw [ht]; exact hP, hD⟩, hS.F ht⟩) hS.2.2 dX0_lineUp_77
      · replace hf := iq c10 hf
        refine lv_iload_n hx hb dX0_lineUp_13 rfl (lv_at hl 1 rfl) ?_
        refine lv_istore_n (lv' := [(3, .int i1), (0, .ref ax), (1, .int i1), (2, .int i2)]) hx hb dX0_lineUp_14 rfl hl (by decide) rfl (fun ls hl => ?_)
        have hL15 : ∀ (n15 : Nat) (i1 : Int32) (i2 : Int32) (i3 : Int32) (x_order : Nat → Int32) (H : Heap) (locs : List Loc) (ls : Array Slot), va_P D vwCl [(ax, .inr (0, [.ref ax_kind, .ref ax_walk, .ref ax_first, .ref ax_second, .ref ax_order, .ref ax_ready, .int x_people, .int x_away])), (ax_order, .inl (cyI, 8, .inl x_order)), (ax_walk, .inl (cyI, 8, .inl x_walk))] H → va_D A [(ax, .inr (0, [.ref ax_kind, .ref ax_walk, .ref ax_first, .ref ax_second, .ref ax_order, .ref ax_ready, .int x_people, .int x_away])), (ax_order, .inl (cyI, 8, .inl x_order)), (ax_walk, .inl (cyI, 8, .inl x_walk))] → va_S A s.heap H locs → lv_has ls 4 [(0, .ref ax), (1, .int i1), (2, .int i2), (3, .int i3)] → S_X0_lineUp_L15 (S_X0_lineUp_L9 x_walk n9) i1 i2 x_walk n15 i3 x_order = some o_x_order → W p l e rX0_lineUp s m (([.ref ax] : List Value).toArray) below meth c H locs 0 0 (MQ below (CQv D [(ax, .inr (0, [.ref ax_kind, .ref ax_walk, .ref ax_first, .ref ax_second, .ref ax_order, .ref ax_ready, .int x_people, .int x_away])), (ax_order, .inl (cyI, 8, .inl o_x_order)), (ax_walk, .inl (cyI, 8, .inl x_walk))] A) (([.ref ax] : List Value).toArray) s 0 0 A) (F0 m 15 ls []) := by
          intro n15
          induction n15 with
          | zero => intro i1 i2 i3 x_order H locs ls hP hD hS hl hf; exact absurd hf (by simp [S_X0_lineUp_L15])
          | succ n15 ih15 =>
            intro i1 i2 i3 x_order H locs ls hP hD hS hl hf
            rw [S_X0_lineUp_L15] at hf
            refine lv_iload_n hx hb dX0_lineUp_15 rfl (lv_at hl 3 rfl) ?_
            have hJ61 : ∀ (H : Heap) (locs : List Loc) (ls : Array Slot), va_P D vwCl [(ax, .inr (0, [.ref ax_kind, .ref ax_walk, .ref ax_first, .ref ax_second, .ref ax_order, .ref ax_ready, .int x_people, .int x_away])), (ax_order, .inl (cyI, 8, .inl x_order)), (ax_walk, .inl (cyI, 8, .inl x_walk))] H → va_D A [(ax, .inr (0, [.ref ax_kind, .ref ax_walk, .ref ax_first, .ref ax_second, .ref ax_order, .ref ax_ready, .int x_people, .int x_away])), (ax_order, .inl (cyI, 8, .inl x_order)), (ax_walk, .inl (cyI, 8, .inl x_walk))] → va_S A s.heap H locs → lv_has ls 4 [(0, .ref ax), (1, .int i1), (2, .int i2), (3, .int i3)] → (if i3 < 0 ∨ 8 ≤ i3.toNatClampNeg then none else
((S_X0_lineUp_L9 x_walk n9) (i1 + (1 : Int32)) (i2 + (-1 : Int32)) (upd x_order i3.toNatClampNeg i2))) = some o_x_order → W p l e rX0_lineUp s m (([.ref ax] : List Value).toArray) below meth c H locs 0 0 (MQ below (CQv D [(ax, .inr (0, [.ref ax_kind, .ref ax_walk, .ref ax_first, .ref ax_second, .ref ax_order, .ref ax_ready, .int x_people, .int x_away])), (ax_order, .inl (cyI, 8, .inl o_x_order)), (ax_walk, .inl (cyI, 8, .inl x_walk))] A) (([.ref ax] : List Value).toArray) s 0 0 A) (F0 m 61 ls []) := by
              intro  H locs ls hP hD hS hl hf
              refine lv_aload_n hx hb dX0_lineUp_61 rfl (lv_at hl 0 rfl) ?_
              refine va_get (C := RX0) (T := TX0) (N := 8) hx hb hts inX0 hown hK.1 hP 0 rfl rfl 4 (by decide) f24 (fun _ h9 => h9) rfl dX0_lineUp_62 ?_
              refine lv_iload_n hx hb dX0_lineUp_65 rfl (lv_at hl 3 rfl) ?_
              refine lv_iload_n hx hb dX0_lineUp_66 rfl (lv_at hl 2 rfl) ?_
              obtain ⟨z67, hf⟩ := oi hf
              refine a_ist (wn := [(ax, .inr (0, [.ref ax_kind, .ref ax_walk, .ref ax_first, .ref ax_second, .ref ax_order, .ref ax_ready, .int x_people, .int x_away])), (ax_order, .inl (cyI, 8, .inl (upd x_order i3.toNatClampNeg i2))), (ax_walk, .inl (cyI, 8, .inl x_walk))]) hx hb hK hP hD hS 1 rfl z67 i3.toNatClampNeg rfl rfl dX0_lineUp_67 (fun H locs hP hD hS => ?_)
              refine lv_iinc (v := i1 + (1 : Int32)) (lv' := [(1, .int (i1 + (1 : Int32))), (0, .ref ax), (2, .int i2), (3, .int i3)]) hx hb dX0_lineUp_68 hl (k := 1) rfl rfl (by decide) rfl (fun ls hl => ?_)
              refine lv_iinc (v := i2 + (-1 : Int32)) (lv' := [(2, .int (i2 + (-1 : Int32))), (1, .int (i1 + (1 : Int32))), (0, .ref ax), (3, .int i3)]) hx hb dX0_lineUp_71 hl (k := 2) rfl rfl (by decide) rfl (fun ls hl => ?_)
              refine lv_goto (tgt := 9) hx hb dX0_lineUp_74 (by decide) ?_
              exact ih9 (i1 + (1 : Int32)) (i2 + (-1 : Int32)) (upd x_order i3.toNatClampNeg i2) _ _ _ hP hD hS (lv_sub hl [2, 1, 0] rfl) hf
            replace hf := jn_h hf
            refine lv_if_le (tgt := 61) hx hb dX0_lineUp_16 (by decide) (fun c16 => ?_) (fun c16 => ?_)
            · replace hf := ip c16 hf
              exact hJ61 _ _ _ hP hD hS (lv_sub hl [0, 1, 2, 3] rfl) hf
            · replace hf := iq c16 hf
              refine lv_aload_n hx hb dX0_lineUp_19 rfl (lv_at hl 0 rfl) ?_
              refine va_get (C := RX0) (T := TX0) (N := 8) hx hb hts inX0 hown hK.1 hP 0 rfl rfl 1 (by decide) f15 (fun _ h9 => h9) rfl dX0_lineUp_20 ?_
              refine lv_aload_n hx hb dX0_lineUp_23 rfl (lv_at hl 0 rfl) ?_
              refine va_get (C := RX0) (T := TX0) (N := 8) hx hb hts inX0 hown hK.1 hP 0 rfl rfl 4 (by decide) f24 (fun _ h9 => h9) rfl dX0_lineUp_24 ?_
              refine lv_iload_n hx hb dX0_lineUp_27 rfl (lv_at hl 3 rfl) ?_
              refine lv_iconst (v := 1) hx hb dX0_lineUp_28 (by decide) ?_
              refine lv_isub hx hb dX0_lineUp_29 ?_
              obtain ⟨z30, hf⟩ := oi hf
              refine a_ild hx hb hK hP 1 rfl z30 (i3 - (1 : Int32)).toNatClampNeg rfl dX0_lineUp_30 ?_
              obtain ⟨z31, hf⟩ := oi hf
              refine a_ild hx hb hK hP 2 rfl z31 (x_order (i3 - (1 : Int32)).toNatClampNeg).toNatClampNeg rfl dX0_lineUp_31 ?_
              refine lv_aload_n hx hb dX0_lineUp_32 rfl (lv_at hl 0 rfl) ?_
              refine va_get (C := RX0) (T := TX0) (N := 8) hx hb hts inX0 hown hK.1 hP 0 rfl rfl 1 (by decide) f15 (fun _ h9 => h9) rfl dX0_lineUp_33 ?_
              refine lv_iload_n hx hb dX0_lineUp_36 rfl (lv_at hl 2 rfl) ?_
              obtain ⟨z37, hf⟩ := oi hf
              refine a_ild hx hb hK hP 2 rfl z37 i2.toNatClampNeg rfl dX0_lineUp_37 ?_
              refine lv_icmp_le (tgt := 61) hx hb dX0_lineUp_38 (by decide) (fun c38 => ?_) (fun c38 => ?_)
              · replace hf := ip c38 hf
                exact hJ61 _ _ _ hP hD hS (lv_sub hl [0, 1, 2, 3] rfl) hf
              · replace hf := iq c38 hf
                refine lv_aload_n hx hb dX0_lineUp_41 rfl (lv_at hl 0 rfl) ?_
                refine va_get (C := RX0) (T := TX0) (N := 8) hx hb hts inX0 hown hK.1 hP 0 rfl rfl 4 (by decide) f24 (fun _ h9 => h9) rfl dX0_lineUp_42 ?_
                refine lv_iload_n hx hb dX0_lineUp_45 rfl (lv_at hl 3 rfl) ?_
                refine lv_aload_n hx hb dX0_lineUp_46 rfl (lv_at hl 0 rfl) ?_
                refine va_get (C := RX0) (T := TX0) (N := 8) hx hb hts inX0 hown hK.1 hP 0 rfl rfl 4 (by decide) f24 (fun _ h9 => h9) rfl dX0_lineUp_47 ?_
                refine lv_iload_n hx hb dX0_lineUp_50 rfl (lv_at hl 3 rfl) ?_
                refine lv_iconst (v := 1) hx hb dX0_lineUp_51 (by decide) ?_
                refine lv_isub hx hb dX0_lineUp_52 ?_
                obtain ⟨z53, hf⟩ := oi hf
                refine a_ild hx hb hK hP 1 rfl z53 (i3 - (1 : Int32)).toNatClampNeg rfl dX0_lineUp_53 ?_
                obtain ⟨z54, hf⟩ := oi hf
                refine a_ist (wn := [(ax, .inr (0, [.ref ax_kind, .ref ax_walk, .ref ax_first, .ref ax_second, .ref ax_order, .ref ax_ready, .int x_people, .int x_away])), (ax_order, .inl (cyI, 8, .inl (upd x_order i3.toNatClampNeg (x_order (i3 - (1 : Int32)).toNatClampNeg)))), (ax_walk, .inl (cyI, 8, .inl x_walk))]) hx hb hK hP hD hS 1 rfl z54 i3.toNatClampNeg rfl rfl dX0_lineUp_54 (fun H locs hP hD hS => ?_)
                refine lv_iinc (v := i3 + (-1 : Int32)) (lv' := [(3, .int (i3 + (-1 : Int32))), (0, .ref ax), (1, .int i1), (2, .int i2)]) hx hb dX0_lineUp_55 hl (k := 3) rfl rfl (by decide) rfl (fun ls hl => ?_)
                refine lv_goto (tgt := 15) hx hb dX0_lineUp_58 (by decide) ?_
                exact ih15 i1 i2 (i3 + (-1 : Int32)) (upd x_order i3.toNatClampNeg (x_order (i3 - (1 : Int32)).toNatClampNeg)) _ _ _ hP hD hS (lv_sub hl [1, 2, 3, 0] rfl) hf
        exact hL15 300 i1 i2 i1 x_order _ _ _ hP hD hS (lv_sub hl [1, 2, 3, 0] rfl) hf
  exact hL9 300 (0 : Int32) (x_people - (1 : Int32)) x_order _ _ _ hP hD hS (lv_sub hl [2, 1, 0] rfl) hf
abbrev rX0_lookAt : Room := { frames := 2, cells := 0, slots := 0, locals := 42 }
set_option maxHeartbeats 4000000 in
set_option maxRecDepth 100000 in
theorem c_X0_lookAt (l : Launch) (D : va_G) (cyI cyC cyS : ClassId) (sz : Nat) (ax : Nat) (ay : Nat) (ax_kind : Nat) (ax_walk : Nat) (ax_first : Nat) (ax_second : Nat) (ax_order : Nat) (ax_ready : Nat) (ay_kind : Nat) (ay_things : Nat) (ay_feet : Nat) (x_people : Int32) (x_away : Int32) (y_people : Int32) (y_firstPace : Int32) (y_secondPace : Int32) (y_steps : Int32) (y_kind : Nat → Int32) (x_kind : Nat → Int32) (y_feet : Nat → Int32) (x_walk : Nat → Int32) (y_things : Nat → Int32) (x_first : Nat → Int32) (x_second : Nat → Int32) (x_order : Nat → Int32) {o_x_people : Int32} {o_x_kind : Nat → Int32} {o_x_walk : Nat → Int32} {o_x_first : Nat → Int32} {o_x_second : Nat → Int32} {o_x_order : Nat → Int32} (hf : S_X0_lookAt y_people y_firstPace y_secondPace y_steps y_kind x_kind y_feet x_walk y_things x_first x_second x_order = some (o_x_people, o_x_kind, o_x_walk, o_x_first, o_x_second, o_x_order)) : Met l yX0_lookAt wsX0_lookAt rX0_lookAt (Cpre [.ref ax, .ref ay] D cyI cyC cyS sz [(ax, .inr (0, [.ref ax_kind, .ref ax_walk, .ref ax_first, .ref ax_second, .ref ax_order, .ref ax_ready, .int x_people, .int x_away])), (ay, .inr (3, [.ref ay_kind, .ref ay_things, .ref ay_feet, .int y_people, .int y_firstPace, .int y_secondPace, .int y_steps])), (ay_kind, .inl (cyI, 8, .inl y_kind)), (ax_kind, .inl (cyI, 8, .inl x_kind)), (ay_feet, .inl (cyI, 8, .inl y_feet)), (ax_walk, .inl (cyI, 8, .inl x_walk)), (ay_things, .inl (cyI, 8, .inl y_things)), (ax_first, .inl (cyI, 8, .inl x_first)), (ax_second, .inl (cyI, 8, .inl x_second)), (ax_order, .inl (cyI, 8, .inl x_order))]) (CQv D [(ax, .inr (0, [.ref ax_kind, .ref ax_walk, .ref ax_first, .ref ax_second, .ref ax_order, .ref ax_ready, .int o_x_people, .int x_away])), (ay, .inr (3, [.ref ay_kind, .ref ay_things, .ref ay_feet, .int y_people, .int y_firstPace, .int y_secondPace, .int y_steps])), (ay_kind, .inl (cyI, 8, .inl y_kind)), (ax_kind, .inl (cyI, 8, .inl o_x_kind)), (ay_feet, .inl (cyI, 8, .inl y_feet)), (ax_walk, .inl (cyI, 8, .inl o_x_walk)), (ay_things, .inl (cyI, 8, .inl y_things)), (ax_first, .inl (cyI, 8, .inl o_x_first)), (ax_second, .inl (cyI, 8, .inl o_x_second)), (ax_order, .inl (cyI, 8, .inl o_x_order))] (va_A [(ax, .inr (0, [.ref ax_kind, .ref ax_walk, .ref ax_first, .ref ax_second, .ref ax_order, .ref ax_ready, .int x_people, .int x_away])), (ay, .inr (3, [.ref ay_kind, .ref ay_things, .ref ay_feet, .int y_people, .int y_firstPace, .int y_secondPace, .int y_steps])), (ay_kind, .inl (cyI, 8, .inl y_kind)), (ax_kind, .inl (cyI, 8, .inl x_kind)), (ay_feet, .inl (cyI, 8, .inl y_feet)), (ax_walk, .inl (cyI, 8, .inl x_walk)), (ay_things, .inl (cyI, 8, .inl y_things)), (ax_first, .inl (cyI, 8, .inl x_first)), (ax_second, .inl (cyI, 8, .inl x_second)), (ax_order, .inl (cyI, 8, .inl x_order))] sz)) 0 0 (va_A [(ax, .inr (0, [.ref ax_kind, .ref ax_walk, .ref ax_first, .ref ax_second, .ref ax_order, .ref ax_ready, .int x_people, .int x_away])), (ay, .inr (3, [.ref ay_kind, .ref ay_things, .ref ay_feet, .int y_people, .int y_firstPace, .int y_secondPace, .int y_steps])), (ay_kind, .inl (cyI, 8, .inl y_kind)), (ax_kind, .inl (cyI, 8, .inl x_kind)), (ay_feet, .inl (cyI, 8, .inl y_feet)), (ax_walk, .inl (cyI, 8, .inl x_walk)), (ay_things, .inl (cyI, 8, .inl y_things)), (ax_first, .inl (cyI, 8, .inl x_first)), (ax_second, .inl (cyI, 8, .inl x_second)), (ax_order, .inl (cyI, 8, .inl x_order))] sz) := by
  refine Met.ofW (cc := cX0_lookAt) (maxL := 3) (ret := none) (by decide) rfl ?_
  intro p e s m args below meth c s₁ B hml hv
  obtain ⟨rfl, hsz, hP, hK, hD0⟩ := hv
  have hx := B.exec
  have hb := B.bytes
  have hr := B.returns
  have hts := atoms_spec (ws := wsX0_lookAt) B.pre
  have hown : s.vm.findClass RX0 = some m.cls := findClass_of_methodNamed B.named
  have hlocks := B.notSynchronized
  subst hsz
  have hD := hD0.self (sz := s.heap.size)
  generalize hAe : va_A [(ax, .inr (0, [.ref ax_kind, .ref ax_walk, .ref ax_first, .ref ax_second, .ref ax_order, .ref ax_ready, .int x_people, .int x_away])), (ay, .inr (3, [.ref ay_kind, .ref ay_things, .ref ay_feet, .int y_people, .int y_firstPace, .int y_secondPace, .int y_steps])), (ay_kind, .inl (cyI, 8, .inl y_kind)), (ax_kind, .inl (cyI, 8, .inl x_kind)), (ay_feet, .inl (cyI, 8, .inl y_feet)), (ax_walk, .inl (cyI, 8, .inl x_walk)), (ay_things, .inl (cyI, 8, .inl y_things)), (ax_first, .inl (cyI, 8, .inl x_first)), (ax_second, .inl (cyI, 8, .inl x_second)), (ax_order, .inl (cyI, 8, .inl x_order))] s.heap.size = A at hD ⊢
  have hA : ∀ q : Nat, s.heap.size ≤ q → A q := fun q h => by rw [← hAe]; exact Or.inr h
  have hS : va_S A s.heap s.heap [] := va_S.rf
  have hl := lv_entry ([.ref ax, .ref ay]) (n := 3) (Nat.le_of_ble_eq_true rfl)
  rw [lg_entry_eq]
  generalize (lg_sl ([.ref ax, .ref ay]) ++ List.replicate (3 - (lg_sl ([.ref ax, .ref ay])).length) Slot.unset).toArray = ls at hl ⊢
  have hl : lv_has ls 3 [(0, .ref ax), (1, .ref ay)] := hl
  have f30 := hts (.fieldLink RX0 30 "SecondTill$Shop" "people" "I") (by decide +kernel)
  have inX3 : ∀ w ∈ u_ws RX3 TX3 7, w ∈ wsX0_lookAt := by decide +kernel
  have f36 := hts (.fieldLink RX0 36 "SecondTill$Crossing" "people" "I") (by decide +kernel)
  have inX0 : ∀ w ∈ u_ws RX0 TX0 8, w ∈ wsX0_lookAt := by decide +kernel
  have f9 := hts (.fieldLink RX0 9 "SecondTill$Crossing" "kind" "[I") (by decide +kernel)
  have f37 := hts (.fieldLink RX0 37 "SecondTill$Shop" "kind" "[I") (by decide +kernel)
  have f15 := hts (.fieldLink RX0 15 "SecondTill$Crossing" "walk" "[I") (by decide +kernel)
  have f18 := hts (.fieldLink RX0 18 "SecondTill$Crossing" "first" "[I") (by decide +kernel)
  have f41 := hts (.fieldLink RX0 41 "SecondTill$Shop" "firstPace" "I") (by decide +kernel)
  have f44 := hts (.fieldLink RX0 44 "SecondTill$Shop" "things" "[I") (by decide +kernel)
  have f21 := hts (.fieldLink RX0 21 "SecondTill$Crossing" "second" "[I") (by decide +kernel)
  have f47 := hts (.fieldLink RX0 47 "SecondTill$Shop" "secondPace" "I") (by decide +kernel)
  unfold S_X0_lookAt at hf
  have hP : va_P D vwCl [(ax, .inr (0, [.ref ax_kind, .ref ax_walk, .ref ax_first, .ref ax_second, .ref ax_order, .ref ax_ready, .int x_people, .int x_away])), (ay, .inr (3, [.ref ay_kind, .ref ay_things, .ref ay_feet, .int y_people, .int y_firstPace, .int y_secondPace, .int y_steps])), (ay_kind, .inl (cyI, 8, .inl y_kind)), (ax_kind, .inl (cyI, 8, .inl x_kind)), (ay_feet, .inl (cyI, 8, .inl y_feet)), (ax_walk, .inl (cyI, 8, .inl x_walk)), (ay_things, .inl (cyI, 8, .inl y_things)), (ax_first, .inl (cyI, 8, .inl x_first)), (ax_second, .inl (cyI, 8, .inl x_second)), (ax_order, .inl (cyI, 8, .inl x_order))] s.heap := hP
  suffices hgo : ∀ (H : Heap) (locs : List Loc), va_P D vwCl [(ax, .inr (0, [.ref ax_kind, .ref ax_walk, .ref ax_first, .ref ax_second, .ref ax_order, .ref ax_ready, .int x_people, .int x_away])), (ay, .inr (3, [.ref ay_kind, .ref ay_things, .ref ay_feet, .int y_people, .int y_firstPace, .int y_secondPace, .int y_steps])), (ay_kind, .inl (cyI, 8, .inl y_kind)), (ax_kind, .inl (cyI, 8, .inl x_kind)), (ay_feet, .inl (cyI, 8, .inl y_feet)), (ax_walk, .inl (cyI, 8, .inl x_walk)), (ay_things, .inl (cyI, 8, .inl y_things)), (ax_first, .inl (cyI, 8, .inl x_first)), (ax_second, .inl (cyI, 8, .inl x_second)), (ax_order, .inl (cyI, 8, .inl x_order))] H → va_S A s.heap H locs → W p l e rX0_lookAt s m (([.ref ax, .ref ay] : List Value).toArray) below meth c H locs 0 0 (MQ below (CQv D [(ax, .inr (0, [.ref ax_kind, .ref ax_walk, .ref ax_first, .ref ax_second, .ref ax_order, .ref ax_ready, .int o_x_people, .int x_away])), (ay, .inr (3, [.ref ay_kind, .ref ay_things, .ref ay_feet, .int y_people, .int y_firstPace, .int y_secondPace, .int y_steps])), (ay_kind, .inl (cyI, 8, .inl y_kind)), (ax_kind, .inl (cyI, 8, .inl o_x_kind)), (ay_feet, .inl (cyI, 8, .inl y_feet)), (ax_walk, .inl (cyI, 8, .inl o_x_walk)), (ay_things, .inl (cyI, 8, .inl y_things)), (ax_first, .inl (cyI, 8, .inl o_x_first)), (ax_second, .inl (cyI, 8, .inl o_x_second)), (ax_order, .inl (cyI, 8, .inl o_x_order))] A) (([.ref ax, .ref ay] : List Value).toArray) s 0 0 A) (F0 m 0 ls []) from hgo _ _ hP hS
  clear hP hS
  intro H locs hP hS
  refine lv_aload_n hx hb dX0_lookAt_0 rfl (lv_at hl 0 rfl) ?_
  refine lv_aload_n hx hb dX0_lookAt_1 rfl (lv_at hl 1 rfl) ?_
  refine va_get (C := RX3) (T := TX3) (N := 7) hx hb hts inX3 hown hK.1 hP 1 rfl rfl 3 (by decide) f30 (fun _ h9 => h9) rfl dX0_lookAt_2 ?_
  refine a_put (C := RX0) (T := TX0) (N := 8) (wn := [(ax, .inr (0, [.ref ax_kind, .ref ax_walk, .ref ax_first, .ref ax_second, .ref ax_order, .ref ax_ready, .int y_people, .int x_away])), (ay, .inr (3, [.ref ay_kind, .ref ay_things, .ref ay_feet, .int y_people, .int y_firstPace, .int y_secondPace, .int y_steps])), (ay_kind, .inl (cyI, 8, .inl y_kind)), (ax_kind, .inl (cyI, 8, .inl x_kind)), (ay_feet, .inl (cyI, 8, .inl y_feet)), (ax_walk, .inl (cyI, 8, .inl x_walk)), (ay_things, .inl (cyI, 8, .inl y_things)), (ax_first, .inl (cyI, 8, .inl x_first)), (ax_second, .inl (cyI, 8, .inl x_second)), (ax_order, .inl (cyI, 8, .inl x_order))]) hx hb hts inX0 tyX0 tyX0_ok nmX0 hown hK hP hD hS 0 rfl rfl 6 (by decide) f36 (fun _ h9 => h9) rfl rfl (Nat.le_of_ble_eq_true rfl) rfl dX0_lookAt_5 (fun H locs hP hD hS => ?_)
  refine lv_iconst (v := 0) hx hb dX0_lookAt_8 (by decide) ?_
  refine lv_istore_n (lv' := [(2, .int (0 : Int32)), (0, .ref ax), (1, .ref ay)]) hx hb dX0_lookAt_9 rfl hl (by decide) rfl (fun ls hl => ?_)
  have hL10 : ∀ (n10 : Nat) (x_people : Int32) (x_order : Nat → Int32) (i2 : Int32) (x_kind : Nat → Int32) (x_walk : Nat → Int32) (x_first : Nat → Int32) (x_second : Nat → Int32) (H : Heap) (locs : List Loc) (ls : Array Slot), va_P D vwCl [(ax, .inr (0, [.ref ax_kind, .ref ax_walk, .ref ax_first, .ref ax_second, .ref ax_order, .ref ax_ready, .int x_people, .int x_away])), (ay, .inr (3, [.ref ay_kind, .ref ay_things, .ref ay_feet, .int y_people, .int y_firstPace, .int y_secondPace, .int y_steps])), (ay_kind, .inl (cyI, 8, .inl y_kind)), (ax_kind, .inl (cyI, 8, .inl x_kind)), (ay_feet, .inl (cyI, 8, .inl y_feet)), (ax_walk, .inl (cyI, 8, .inl x_walk)), (ay_things, .inl (cyI, 8, .inl y_things)), (ax_first, .inl (cyI, 8, .inl x_first)), (ax_second, .inl (cyI, 8, .inl x_second)), (ax_order, .inl (cyI, 8, .inl x_order))] H → va_D A [(ax, .inr (0, [.ref ax_kind, .ref ax_walk, .ref ax_first, .ref ax_second, .ref ax_order, .ref ax_ready, .int x_people, .int x_away])), (ay, .inr (3, [.ref ay_kind, .ref ay_things, .ref ay_feet, .int y_people, .int y_firstPace, .int y_secondPace, .int y_steps])), (ay_kind, .inl (cyI, 8, .inl y_kind)), (ax_kind, .inl (cyI, 8, .inl x_kind)), (ay_feet, .inl (cyI, 8, .inl y_feet)), (ax_walk, .inl (cyI, 8, .inl x_walk)), (ay_things, .inl (cyI, 8, .inl y_things)), (ax_first, .inl (cyI, 8, .inl x_first)), (ax_second, .inl (cyI, 8, .inl x_second)), (ax_order, .inl (cyI, 8, .inl x_order))] → va_S A s.heap H locs → lv_has ls 3 [(0, .ref ax), (1, .ref ay), (2, .int i2)] → S_X0_lookAt_L10 x_people x_order y_people y_firstPace y_secondPace y_steps y_kind y_feet y_things n10 i2 x_kind x_walk x_first x_second = some (o_x_people, o_x_kind, o_x_walk, o_x_first, o_x_second, o_x_order) → W p l e rX0_lookAt s m (([.ref ax, .ref ay] : List Value).toArray) below meth c H locs 0 0 (MQ below (CQv D [(ax, .inr (0, [.ref ax_kind, .ref ax_walk, .ref ax_first, .ref ax_second, .ref ax_order, .ref ax_ready, .int o_x_people, .int x_away])), (ay, .inr (3, [.ref ay_kind, .ref ay_things, .ref ay_feet, .int y_people, .int y_firstPace, .int y_secondPace, .int y_steps])), (ay_kind, .inl (cyI, 8, .inl y_kind)), (ax_kind, .inl (cyI, 8, .inl o_x_kind)), (ay_feet, .inl (cyI, 8, .inl y_feet)), (ax_walk, .inl (cyI, 8, .inl o_x_walk)), (ay_things, .inl (cyI, 8, .inl y_things)), (ax_first, .inl (cyI, 8, .inl o_x_first)), (ax_second, .inl (cyI, 8, .inl o_x_second)), (ax_order, .inl (cyI, 8, .inl o_x_order))] A) (([.ref ax, .ref ay] : List Value).toArray) s 0 0 A) (F0 m 10 ls []) := by
    intro n10
    induction n10 with
    | zero => intro x_people x_order i2 x_kind x_walk x_first x_second H locs ls hP hD hS hl hf; exact absurd hf (by simp [S_X0_lookAt_L10])
    | succ n10 ih10 =>
      intro x_people x_order i2 x_kind x_walk x_first x_second H locs ls hP hD hS hl hf
      rw [S_X0_lookAt_L10] at hf
      refine lv_iload_n hx hb dX0_lookAt_10 rfl (lv_at hl 2 rfl) ?_
      refine lv_aload_n hx hb dX0_lookAt_11 rfl (lv_at hl 0 rfl) ?_
      refine va_get (C := RX0) (T := TX0) (N := 8) hx hb hts inX0 hown hK.1 hP 0 rfl rfl 6 (by decide) f36 (fun _ h9 => h9) rfl dX0_lookAt_12 ?_
      refine lv_icmp_ge (tgt := 81) hx hb dX0_lookAt_15 (by decide) (fun c15 => ?_) (fun c15 => ?_)
      · replace hf := ip c15 hf
        refine lv_aload_n hx hb dX0_lookAt_81 rfl (lv_at hl 0 rfl) ?_
        obtain ⟨x_order_o82, q82, hf⟩ := ob hf
        refine k_v (wc := [(ax, .inr (0, [.ref ax_kind, .ref ax_walk, .ref ax_first, .ref ax_second, .ref ax_order, .ref ax_ready, .int x_people, .int x_away])), (ax_order, .inl (cyI, 8, .inl x_order)), (ax_walk, .inl (cyI, 8, .inl x_walk))]) (wr := [(ay, .inr (3, [.ref ay_kind, .ref ay_things, .ref ay_feet, .int y_people, .int y_firstPace, .int y_secondPace, .int y_steps])), (ay_kind, .inl (cyI, 8, .inl y_kind)), (ax_kind, .inl (cyI, 8, .inl x_kind)), (ay_feet, .inl (cyI, 8, .inl y_feet)), (ay_things, .inl (cyI, 8, .inl y_things)), (ax_first, .inl (cyI, 8, .inl x_first)), (ax_second, .inl (cyI, 8, .inl x_second))]) (w1 := [(ax, .inr (0, [.ref ax_kind, .ref ax_walk, .ref ax_first, .ref ax_second, .ref ax_order, .ref ax_ready, .int x_people, .int x_away])), (ax_order, .inl (cyI, 8, .inl x_order_o82)), (ax_walk, .inl (cyI, 8, .inl x_walk))]) (wn := [(ax, .inr (0, [.ref ax_kind, .ref ax_walk, .ref ax_first, .ref ax_second, .ref ax_order, .ref ax_ready, .int x_people, .int x_away])), (ay, .inr (3, [.ref ay_kind, .ref ay_things, .ref ay_feet, .int y_people, .int y_firstPace, .int y_secondPace, .int y_steps])), (ay_kind, .inl (cyI, 8, .inl y_kind)), (ax_kind, .inl (cyI, 8, .inl x_kind)), (ay_feet, .inl (cyI, 8, .inl y_feet)), (ax_walk, .inl (cyI, 8, .inl x_walk)), (ay_things, .inl (cyI, 8, .inl y_things)), (ax_first, .inl (cyI, 8, .inl x_first)), (ax_second, .inl (cyI, 8, .inl x_second)), (ax_order, .inl (cyI, 8, .inl x_order_o82))]) (va_runV (As := []) (rest := []) ⟨hx, hb, hml, hown, hts⟩ (c_X0_lineUp l D cyI cyC cyS H.size ax ax_kind ax_walk ax_first ax_second ax_order ax_ready x_people x_away x_order x_walk q82) (cwV 0 hts gX0_lookAt_X0_lineUp rfl rfl rfl (by decide +kernel) ⟨Nat.le_of_ble_eq_true rfl, Nat.le_of_ble_eq_true rfl⟩) (preV (ci := 0) hK (hP.subm (ws' := [(ax, .inr (0, [.ref ax_kind, .ref ax_walk, .ref ax_first, .ref ax_second, .ref ax_order, .ref ax_ready, .int x_people, .int x_away])), (ax_order, .inl (cyI, 8, .inl x_order)), (ax_walk, .inl (cyI, 8, .inl x_walk))]) [0, 9, 5] rfl) (hD.sub (ws' := [(ax, .inr (0, [.ref ax_kind, .ref ax_walk, .ref ax_first, .ref ax_second, .ref ax_order, .ref ax_ready, .int x_people, .int x_away])), (ax_order, .inl (cyI, 8, .inl x_order)), (ax_walk, .inl (cyI, 8, .inl x_walk))]) [0, 9, 5] (by decide) rfl) rfl rfl) rfl rfl hl.1 rfl (lv_room (Nat.le_of_ble_eq_true rfl)) dX0_lookAt_82 ⟨Nat.le_of_ble_eq_true rfl, Nat.le_of_ble_eq_true rfl⟩) hP hD hS hA [0, 9, 5] [1, 2, 3, 4, 6, 7, 8] [7, 0, 1, 2, 3, 9, 4, 5, 6, 8] rfl rfl rfl (by decide) (by decide) (by decide) (fun H locs hP hD hS => ?_)
        simp only [Option.some.injEq, Prod.mk.injEq] at hf
        obtain ⟨rfl, rfl, rfl, rfl, rfl, rfl⟩ := hf
        exact W.vret hx hb hr (fun t ht hW => ⟨⟨(), rfl, trivial, by rw [ht]; exact hP, hD⟩, hS.F ht⟩) hS.2.2 dX0_lookAt_85
      · replace hf := iq c15 hf
        refine lv_aload_n hx hb dX0_lookAt_18 rfl (lv_at hl 0 rfl) ?_
        refine va_get (C := RX0) (T := TX0) (N := 8) hx hb hts inX0 hown hK.1 hP 0 rfl rfl 0 (by decide) f9 (fun _ h9 => h9) rfl dX0_lookAt_19 ?_
        refine lv_iload_n hx hb dX0_lookAt_22 rfl (lv_at hl 2 rfl) ?_
        refine lv_aload_n hx hb dX0_lookAt_23 rfl (lv_at hl 1 rfl) ?_
        refine va_get (C := RX3) (T := TX3) (N := 7) hx hb hts inX3 hown hK.1 hP 1 rfl rfl 0 (by decide) f37 (fun _ h9 => h9) rfl dX0_lookAt_24 ?_
        refine lv_iload_n hx hb dX0_lookAt_27 rfl (lv_at hl 2 rfl) ?_
        obtain ⟨z28, hf⟩ := oi hf
        refine a_ild hx hb hK hP 2 rfl z28 i2.toNatClampNeg rfl dX0_lookAt_28 ?_
        obtain ⟨z29, hf⟩ := oi hf
        refine a_ist (wn := [(ax, .inr (0, [.ref ax_kind, .ref ax_walk, .ref ax_first, .ref ax_second, .ref ax_order, .ref ax_ready, .int x_people, .int x_away])), (ay, .inr (3, [.ref ay_kind, .ref ay_things, .ref ay_feet, .int y_people, .int y_firstPace, .int y_secondPace, .int y_steps])), (ay_kind, .inl (cyI, 8, .inl y_kind)), (ax_kind, .inl (cyI, 8, .inl (upd x_kind i2.toNatClampNeg (y_kind i2.toNatClampNeg)))), (ay_feet, .inl (cyI, 8, .inl y_feet)), (ax_walk, .inl (cyI, 8, .inl x_walk)), (ay_things, .inl (cyI, 8, .inl y_things)), (ax_first, .inl (cyI, 8, .inl x_first)), (ax_second, .inl (cyI, 8, .inl x_second)), (ax_order, .inl (cyI, 8, .inl x_order))]) hx hb hK hP hD hS 3 rfl z29 i2.toNatClampNeg rfl rfl dX0_lookAt_29 (fun H locs hP hD hS => ?_)
        refine lv_aload_n hx hb dX0_lookAt_30 rfl (lv_at hl 0 rfl) ?_
        refine va_get (C := RX0) (T := TX0) (N := 8) hx hb hts inX0 hown hK.1 hP 0 rfl rfl 1 (by decide) f15 (fun _ h9 => h9) rfl dX0_lookAt_31 ?_
        refine lv_iload_n hx hb dX0_lookAt_34 rfl (lv_at hl 2 rfl) ?_
        refine lv_aload_n hx hb dX0_lookAt_35 rfl (lv_at hl 1 rfl) ?_
        refine lv_iload_n hx hb dX0_lookAt_36 rfl (lv_at hl 2 rfl) ?_
        obtain ⟨r37, q37, hf⟩ := ob hf
        refine k_i (wc := [(ay, .inr (3, [.ref ay_kind, .ref ay_things, .ref ay_feet, .int y_people, .int y_firstPace, .int y_secondPace, .int y_steps])), (ay_feet, .inl (cyI, 8, .inl y_feet))]) (wr := [(ax, .inr (0, [.ref ax_kind, .ref ax_walk, .ref ax_first, .ref ax_second, .ref ax_order, .ref ax_ready, .int x_people, .int x_away])), (ay_kind, .inl (cyI, 8, .inl y_kind)), (ax_kind, .inl (cyI, 8, .inl (upd x_kind i2.toNatClampNeg (y_kind i2.toNatClampNeg)))), (ax_walk, .inl (cyI, 8, .inl x_walk)), (ay_things, .inl (cyI, 8, .inl y_things)), (ax_first, .inl (cyI, 8, .inl x_first)), (ax_second, .inl (cyI, 8, .inl x_second)), (ax_order, .inl (cyI, 8, .inl x_order))]) (w1 := [(ay, .inr (3, [.ref ay_kind, .ref ay_things, .ref ay_feet, .int y_people, .int y_firstPace, .int y_secondPace, .int y_steps])), (ay_feet, .inl (cyI, 8, .inl y_feet))]) (wn := [(ax, .inr (0, [.ref ax_kind, .ref ax_walk, .ref ax_first, .ref ax_second, .ref ax_order, .ref ax_ready, .int x_people, .int x_away])), (ay, .inr (3, [.ref ay_kind, .ref ay_things, .ref ay_feet, .int y_people, .int y_firstPace, .int y_secondPace, .int y_steps])), (ay_kind, .inl (cyI, 8, .inl y_kind)), (ax_kind, .inl (cyI, 8, .inl (upd x_kind i2.toNatClampNeg (y_kind i2.toNatClampNeg)))), (ay_feet, .inl (cyI, 8, .inl y_feet)), (ax_walk, .inl (cyI, 8, .inl x_walk)), (ay_things, .inl (cyI, 8, .inl y_things)), (ax_first, .inl (cyI, 8, .inl x_first)), (ax_second, .inl (cyI, 8, .inl x_second)), (ax_order, .inl (cyI, 8, .inl x_order))]) (va_runV (As := [.int i2]) (rest := [.int i2, .ref ax_walk]) ⟨hx, hb, hml, hown, hts⟩ (c_X3_walk l D cyI cyC cyS H.size ay ay_kind ay_things ay_feet y_people y_firstPace y_secondPace y_steps y_feet i2 q37) (cwV 1 hts gX0_lookAt_X3_walk rfl rfl rfl (by decide +kernel) ⟨Nat.le_of_ble_eq_true rfl, Nat.le_of_ble_eq_true rfl⟩) (preV (ci := 3) hK (hP.subm (ws' := [(ay, .inr (3, [.ref ay_kind, .ref ay_things, .ref ay_feet, .int y_people, .int y_firstPace, .int y_secondPace, .int y_steps])), (ay_feet, .inl (cyI, 8, .inl y_feet))]) [1, 4] rfl) (hD.sub (ws' := [(ay, .inr (3, [.ref ay_kind, .ref ay_things, .ref ay_feet, .int y_people, .int y_firstPace, .int y_secondPace, .int y_steps])), (ay_feet, .inl (cyI, 8, .inl y_feet))]) [1, 4] (by decide) rfl) rfl rfl) rfl rfl hl.1 rfl (lv_room (Nat.le_of_ble_eq_true rfl)) dX0_lookAt_37 ⟨Nat.le_of_ble_eq_true rfl, Nat.le_of_ble_eq_true rfl⟩) hP hD hS hA [1, 4] [0, 2, 3, 5, 6, 7, 8, 9] [0, 8, 1, 2, 9, 3, 4, 5, 6, 7] rfl rfl rfl (by decide) (by decide) (by decide) (fun H locs hP hD hS => ?_)
        obtain ⟨z40, hf⟩ := oi hf
        refine a_ist (wn := [(ax, .inr (0, [.ref ax_kind, .ref ax_walk, .ref ax_first, .ref ax_second, .ref ax_order, .ref ax_ready, .int x_people, .int x_away])), (ay, .inr (3, [.ref ay_kind, .ref ay_things, .ref ay_feet, .int y_people, .int y_firstPace, .int y_secondPace, .int y_steps])), (ay_kind, .inl (cyI, 8, .inl y_kind)), (ax_kind, .inl (cyI, 8, .inl (upd x_kind i2.toNatClampNeg (y_kind i2.toNatClampNeg)))), (ay_feet, .inl (cyI, 8, .inl y_feet)), (ax_walk, .inl (cyI, 8, .inl (upd x_walk i2.toNatClampNeg r37))), (ay_things, .inl (cyI, 8, .inl y_things)), (ax_first, .inl (cyI, 8, .inl x_first)), (ax_second, .inl (cyI, 8, .inl x_second)), (ax_order, .inl (cyI, 8, .inl x_order))]) hx hb hK hP hD hS 5 rfl z40 i2.toNatClampNeg rfl rfl dX0_lookAt_40 (fun H locs hP hD hS => ?_)
        refine lv_aload_n hx hb dX0_lookAt_41 rfl (lv_at hl 0 rfl) ?_
        refine va_get (C := RX0) (T := TX0) (N := 8) hx hb hts inX0 hown hK.1 hP 0 rfl rfl 2 (by decide) f18 (fun _ h9 => h9) rfl dX0_lookAt_42 ?_
        refine lv_iload_n hx hb dX0_lookAt_45 rfl (lv_at hl 2 rfl) ?_
        refine lv_aload_n hx hb dX0_lookAt_46 rfl (lv_at hl 1 rfl) ?_
        refine va_get (C := RX3) (T := TX3) (N := 7) hx hb hts inX3 hown hK.1 hP 1 rfl rfl 4 (by decide) f41 (fun _ h9 => h9) rfl dX0_lookAt_47 ?_
        refine lv_aload_n hx hb dX0_lookAt_50 rfl (lv_at hl 1 rfl) ?_
        refine va_get (C := RX3) (T := TX3) (N := 7) hx hb hts inX3 hown hK.1 hP 1 rfl rfl 1 (by decide) f44 (fun _ h9 => h9) rfl dX0_lookAt_51 ?_
        refine lv_iload_n hx hb dX0_lookAt_54 rfl (lv_at hl 2 rfl) ?_
        obtain ⟨z55, hf⟩ := oi hf
        refine a_ild hx hb hK hP 6 rfl z55 i2.toNatClampNeg rfl dX0_lookAt_55 ?_
        refine lv_imul hx hb dX0_lookAt_56 ?_
        obtain ⟨z57, hf⟩ := oi hf
        refine a_ist (wn := [(ax, .inr (0, [.ref ax_kind, .ref ax_walk, .ref ax_first, .ref ax_second, .ref ax_order, .ref ax_ready, .int x_people, .int x_away])), (ay, .inr (3, [.ref ay_kind, .ref ay_things, .ref ay_feet, .int y_people, .int y_firstPace, .int y_secondPace, .int y_steps])), (ay_kind, .inl (cyI, 8, .inl y_kind)), (ax_kind, .inl (cyI, 8, .inl (upd x_kind i2.toNatClampNeg (y_kind i2.toNatClampNeg)))), (ay_feet, .inl (cyI, 8, .inl y_feet)), (ax_walk, .inl (cyI, 8, .inl (upd x_walk i2.toNatClampNeg r37))), (ay_things, .inl (cyI, 8, .inl y_things)), (ax_first, .inl (cyI, 8, .inl (upd x_first i2.toNatClampNeg (y_firstPace * (y_things i2.toNatClampNeg))))), (ax_second, .inl (cyI, 8, .inl x_second)), (ax_order, .inl (cyI, 8, .inl x_order))]) hx hb hK hP hD hS 7 rfl z57 i2.toNatClampNeg rfl rfl dX0_lookAt_57 (fun H locs hP hD hS => ?_)
        refine lv_aload_n hx hb dX0_lookAt_58 rfl (lv_at hl 0 rfl) ?_
        refine va_get (C := RX0) (T := TX0) (N := 8) hx hb hts inX0 hown hK.1 hP 0 rfl rfl 3 (by decide) f21 (fun _ h9 => h9) rfl dX0_lookAt_59 ?_
        refine lv_iload_n hx hb dX0_lookAt_62 rfl (lv_at hl 2 rfl) ?_
        refine lv_aload_n hx hb dX0_lookAt_63 rfl (lv_at hl 1 rfl) ?_
        refine va_get (C := RX3) (T := TX3) (N := 7) hx hb hts inX3 hown hK.1 hP 1 rfl rfl 5 (by decide) f47 (fun _ h9 => h9) rfl dX0_lookAt_64 ?_
        refine lv_aload_n hx hb dX0_lookAt_67 rfl (lv_at hl 1 rfl) ?_
        refine va_get (C := RX3) (T := TX3) (N := 7) hx hb hts inX3 hown hK.1 hP 1 rfl rfl 1 (by decide) f44 (fun _ h9 => h9) rfl dX0_lookAt_68 ?_
        refine lv_iload_n hx hb dX0_lookAt_71 rfl (lv_at hl 2 rfl) ?_
        obtain ⟨z72, hf⟩ := oi hf
        refine a_ild hx hb hK hP 6 rfl z72 i2.toNatClampNeg rfl dX0_lookAt_72 ?_
        refine lv_imul hx hb dX0_lookAt_73 ?_
        obtain ⟨z74, hf⟩ := oi hf
        refine a_ist (wn := [(ax, .inr (0, [.ref ax_kind, .ref ax_walk, .ref ax_first, .ref ax_second, .ref ax_order, .ref ax_ready, .int x_people, .int x_away])), (ay, .inr (3, [.ref ay_kind, .ref ay_things, .ref ay_feet, .int y_people, .int y_firstPace, .int y_secondPace, .int y_steps])), (ay_kind, .inl (cyI, 8, .inl y_kind)), (ax_kind, .inl (cyI, 8, .inl (upd x_kind i2.toNatClampNeg (y_kind i2.toNatClampNeg)))), (ay_feet, .inl (cyI, 8, .inl y_feet)), (ax_walk, .inl (cyI, 8, .inl (upd x_walk i2.toNatClampNeg r37))), (ay_things, .inl (cyI, 8, .inl y_things)), (ax_first, .inl (cyI, 8, .inl (upd x_first i2.toNatClampNeg (y_firstPace * (y_things i2.toNatClampNeg))))), (ax_second, .inl (cyI, 8, .inl (upd x_second i2.toNatClampNeg (y_secondPace * (y_things i2.toNatClampNeg))))), (ax_order, .inl (cyI, 8, .inl x_order))]) hx hb hK hP hD hS 8 rfl z74 i2.toNatClampNeg rfl rfl dX0_lookAt_74 (fun H locs hP hD hS => ?_)
        refine lv_iinc (v := i2 + (1 : Int32)) (lv' := [(2, .int (i2 + (1 : Int32))), (0, .ref ax), (1, .ref ay)]) hx hb dX0_lookAt_75 hl (k := 2) rfl rfl (by decide) rfl (fun ls hl => ?_)
        refine lv_goto (tgt := 10) hx hb dX0_lookAt_78 (by decide) ?_
        exact ih10 x_people x_order (i2 + (1 : Int32)) (upd x_kind i2.toNatClampNeg (y_kind i2.toNatClampNeg)) (upd x_walk i2.toNatClampNeg r37) (upd x_first i2.toNatClampNeg (y_firstPace * (y_things i2.toNatClampNeg))) (upd x_second i2.toNatClampNeg (y_secondPace * (y_things i2.toNatClampNeg))) _ _ _ hP hD hS (lv_sub hl [1, 2, 0] rfl) hf
  exact hL10 300 y_people x_order (0 : Int32) x_kind x_walk x_first x_second _ _ _ hP hD hS (lv_sub hl [1, 2, 0] rfl) hf
abbrev rX0_turnOf : Room := { frames := 0, cells := 0, slots := 0, locals := 0 }
set_option maxHeartbeats 4000000 in
set_option maxRecDepth 100000 in
theorem c_X0_turnOf (l : Launch) (D : va_G) (cyI cyC cyS : ClassId) (sz : Nat) (ax : Nat) (ax_kind : Nat) (ax_walk : Nat) (ax_first : Nat) (ax_second : Nat) (ax_order : Nat) (ax_ready : Nat) (x_people : Int32) (x_away : Int32) (x_order : Nat → Int32) (i1 : Int32) {r : Int32} (hf : S_X0_turnOf i1 x_people x_order = some r) : Met l yX0_turnOf wsX0_turnOf rX0_turnOf (Cpre [.ref ax, .int i1] D cyI cyC cyS sz [(ax, .inr (0, [.ref ax_kind, .ref ax_walk, .ref ax_first, .ref ax_second, .ref ax_order, .ref ax_ready, .int x_people, .int x_away])), (ax_order, .inl (cyI, 8, .inl x_order))]) (CQi r D [(ax, .inr (0, [.ref ax_kind, .ref ax_walk, .ref ax_first, .ref ax_second, .ref ax_order, .ref ax_ready, .int x_people, .int x_away])), (ax_order, .inl (cyI, 8, .inl x_order))] (va_A [(ax, .inr (0, [.ref ax_kind, .ref ax_walk, .ref ax_first, .ref ax_second, .ref ax_order, .ref ax_ready, .int x_people, .int x_away])), (ax_order, .inl (cyI, 8, .inl x_order))] sz)) 0 0 (va_A [(ax, .inr (0, [.ref ax_kind, .ref ax_walk, .ref ax_first, .ref ax_second, .ref ax_order, .ref ax_ready, .int x_people, .int x_away])), (ax_order, .inl (cyI, 8, .inl x_order))] sz) := by
  refine Met.ofW (cc := cX0_turnOf) (maxL := 3) (ret := (some .int)) (by decide) rfl ?_
  intro p e s m args below meth c s₁ B hml hv
  obtain ⟨rfl, hsz, hP, hK, hD0⟩ := hv
  have hx := B.exec
  have hb := B.bytes
  have hr := B.returns
  have hts := atoms_spec (ws := wsX0_turnOf) B.pre
  have hown : s.vm.findClass RX0 = some m.cls := findClass_of_methodNamed B.named
  have hlocks := B.notSynchronized
  subst hsz
  have hD := hD0.self (sz := s.heap.size)
  generalize hAe : va_A [(ax, .inr (0, [.ref ax_kind, .ref ax_walk, .ref ax_first, .ref ax_second, .ref ax_order, .ref ax_ready, .int x_people, .int x_away])), (ax_order, .inl (cyI, 8, .inl x_order))] s.heap.size = A at hD ⊢
  have hA : ∀ q : Nat, s.heap.size ≤ q → A q := fun q h => by rw [← hAe]; exact Or.inr h
  have hS : va_S A s.heap s.heap [] := va_S.rf
  have hl := lv_entry ([.ref ax, .int i1]) (n := 3) (Nat.le_of_ble_eq_true rfl)
  rw [lg_entry_eq]
  generalize (lg_sl ([.ref ax, .int i1]) ++ List.replicate (3 - (lg_sl ([.ref ax, .int i1])).length) Slot.unset).toArray = ls at hl ⊢
  have hl : lv_has ls 3 [(0, .ref ax), (1, .int i1)] := hl
  have f36 := hts (.fieldLink RX0 36 "SecondTill$Crossing" "people" "I") (by decide +kernel)
  have inX0 : ∀ w ∈ u_ws RX0 TX0 8, w ∈ wsX0_turnOf := by decide +kernel
  have f24 := hts (.fieldLink RX0 24 "SecondTill$Crossing" "order" "[I") (by decide +kernel)
  unfold S_X0_turnOf at hf
  have hP : va_P D vwCl [(ax, .inr (0, [.ref ax_kind, .ref ax_walk, .ref ax_first, .ref ax_second, .ref ax_order, .ref ax_ready, .int x_people, .int x_away])), (ax_order, .inl (cyI, 8, .inl x_order))] s.heap := hP
  suffices hgo : ∀ (H : Heap) (locs : List Loc), va_P D vwCl [(ax, .inr (0, [.ref ax_kind, .ref ax_walk, .ref ax_first, .ref ax_second, .ref ax_order, .ref ax_ready, .int x_people, .int x_away])), (ax_order, .inl (cyI, 8, .inl x_order))] H → va_S A s.heap H locs → W p l e rX0_turnOf s m (([.ref ax, .int i1] : List Value).toArray) below meth c H locs 0 0 (MQ below (CQi r D [(ax, .inr (0, [.ref ax_kind, .ref ax_walk, .ref ax_first, .ref ax_second, .ref ax_order, .ref ax_ready, .int x_people, .int x_away])), (ax_order, .inl (cyI, 8, .inl x_order))] A) (([.ref ax, .int i1] : List Value).toArray) s 0 0 A) (F0 m 0 ls []) from hgo _ _ hP hS
  clear hP hS
  intro H locs hP hS
  refine lv_iconst (v := 0) hx hb dX0_turnOf_0 (by decide) ?_
  refine lv_istore_n (lv' := [(2, .int (0 : Int32)), (0, .ref ax), (1, .int i1)]) hx hb dX0_turnOf_1 rfl hl (by decide) rfl (fun ls hl => ?_)
  have hL2 : ∀ (n2 : Nat) (i2 : Int32) (H : Heap) (locs : List Loc) (ls : Array Slot), va_P D vwCl [(ax, .inr (0, [.ref ax_kind, .ref ax_walk, .ref ax_first, .ref ax_second, .ref ax_order, .ref ax_ready, .int x_people, .int x_away])), (ax_order, .inl (cyI, 8, .inl x_order))] H → va_D A [(ax, .inr (0, [.ref ax_kind, .ref ax_walk, .ref ax_first, .ref ax_second, .ref ax_order, .ref ax_ready, .int x_people, .int x_away])), (ax_order, .inl (cyI, 8, .inl x_order))] → va_S A s.heap H locs → lv_has ls 3 [(0, .ref ax), (1, .int i1), (2, .int i2)] → S_X0_turnOf_L2 i1 x_people x_order n2 i2 = some r → W p l e rX0_turnOf s m (([.ref ax, .int i1] : List Value).toArray) below meth c H locs 0 0 (MQ below (CQi r D [(ax, .inr (0, [.ref ax_kind, .ref ax_walk, .ref ax_first, .ref ax_second, .ref ax_order, .ref ax_ready, .int x_people, .int x_away])), (ax_order, .inl (cyI, 8, .inl x_order))] A) (([.ref ax, .int i1] : List Value).toArray) s 0 0 A) (F0 m 2 ls []) := by
    intro n2
    induction n2 with
    | zero => intro i2 H locs ls hP hD hS hl hf; exact absurd hf (by simp [S_X0_turnOf_L2])
    | succ n2 ih2 =>
      intro i2 H locs ls hP hD hS hl hf
      rw [S_X0_turnOf_L2] at hf
      refine lv_iload_n hx hb dX0_turnOf_2 rfl (lv_at hl 2 rfl) ?_
      refine lv_aload_n hx hb dX0_turnOf_3 rfl (lv_at hl 0 rfl) ?_
      refine va_get (C := RX0) (T := TX0) (N := 8) hx hb hts inX0 hown hK.1 hP 0 rfl rfl 6 (by decide) f36 (fun _ h9 => h9) rfl dX0_turnOf_4 ?_
      refine lv_icmp_ge (tgt := 28) hx hb dX0_turnOf_7 (by decide) (fun c7 => ?_) (fun c7 => ?_)
      · replace hf := ip c7 hf
        refine lv_iconst (v := 0) hx hb dX0_turnOf_28 (by decide) ?_
        obtain rfl := Option.some.inj hf
        exact W.iret hx hb hr (fun t ht hW => ⟨⟨_, (), rfl, rfl, by rw [ht]; exact hP, hD⟩, hS.F ht⟩) hS.2.2 dX0_turnOf_29
      · replace hf := iq c7 hf
        refine lv_aload_n hx hb dX0_turnOf_10 rfl (lv_at hl 0 rfl) ?_
        refine va_get (C := RX0) (T := TX0) (N := 8) hx hb hts inX0 hown hK.1 hP 0 rfl rfl 4 (by decide) f24 (fun _ h9 => h9) rfl dX0_turnOf_11 ?_
        refine lv_iload_n hx hb dX0_turnOf_14 rfl (lv_at hl 2 rfl) ?_
        obtain ⟨z15, hf⟩ := oi hf
        refine a_ild hx hb hK hP 1 rfl z15 i2.toNatClampNeg rfl dX0_turnOf_15 ?_
        refine lv_iload_n hx hb dX0_turnOf_16 rfl (lv_at hl 1 rfl) ?_
        refine lv_icmp_ne (tgt := 22) hx hb dX0_turnOf_17 (by decide) (fun c17 => ?_) (fun c17 => ?_)
        · replace hf := iq c17 hf
          refine lv_iinc (v := i2 + (1 : Int32)) (lv' := [(2, .int (i2 + (1 : Int32))), (0, .ref ax), (1, .int i1)]) hx hb dX0_turnOf_22 hl (k := 2) rfl rfl (by decide) rfl (fun ls hl => ?_)
          refine lv_goto (tgt := 2) hx hb dX0_turnOf_25 (by decide) ?_
          exact ih2 (i2 + (1 : Int32)) _ _ _ hP hD hS (lv_sub hl [1, 2, 0] rfl) hf
        · replace hf := ip c17 hf
          refine lv_iload_n hx hb dX0_turnOf_20 rfl (lv_at hl 2 rfl) ?_
          obtain rfl := Option.some.inj hf
          exact W.iret hx hb hr (fun t ht hW => ⟨⟨_, (), rfl, rfl, by rw [ht]; exact hP, hD⟩, hS.F ht⟩) hS.2.2 dX0_turnOf_21
  exact hL2 300 (0 : Int32) _ _ _ hP hD hS (lv_sub hl [1, 2, 0] rfl) hf
abbrev rX0_readyInRow : Room := { frames := 1, cells := 0, slots := 0, locals := 21 }
set_option maxHeartbeats 4000000 in
set_option maxRecDepth 100000 in
theorem c_X0_readyInRow (l : Launch) (D : va_G) (cyI cyC cyS : ClassId) (sz : Nat) (ax : Nat) (ax_kind : Nat) (ax_walk : Nat) (ax_first : Nat) (ax_second : Nat) (ax_order : Nat) (ax_ready : Nat) (x_people : Int32) (x_away : Int32) (x_first : Nat → Int32) (i1 : Int32) {r : Int32} (hf : S_X0_readyInRow i1 x_away x_first = some r) : Met l yX0_readyInRow wsX0_readyInRow rX0_readyInRow (Cpre [.ref ax, .int i1] D cyI cyC cyS sz [(ax, .inr (0, [.ref ax_kind, .ref ax_walk, .ref ax_first, .ref ax_second, .ref ax_order, .ref ax_ready, .int x_people, .int x_away])), (ax_first, .inl (cyI, 8, .inl x_first))]) (CQi r D [(ax, .inr (0, [.ref ax_kind, .ref ax_walk, .ref ax_first, .ref ax_second, .ref ax_order, .ref ax_ready, .int x_people, .int x_away])), (ax_first, .inl (cyI, 8, .inl x_first))] (va_A [(ax, .inr (0, [.ref ax_kind, .ref ax_walk, .ref ax_first, .ref ax_second, .ref ax_order, .ref ax_ready, .int x_people, .int x_away])), (ax_first, .inl (cyI, 8, .inl x_first))] sz)) 0 0 (va_A [(ax, .inr (0, [.ref ax_kind, .ref ax_walk, .ref ax_first, .ref ax_second, .ref ax_order, .ref ax_ready, .int x_people, .int x_away])), (ax_first, .inl (cyI, 8, .inl x_first))] sz) := by
  refine Met.ofW (cc := cX0_readyInRow) (maxL := 4) (ret := (some .int)) (by decide) rfl ?_
  intro p e s m args below meth c s₁ B hml hv
  obtain ⟨rfl, hsz, hP, hK, hD0⟩ := hv
  have hx := B.exec
  have hb := B.bytes
  have hr := B.returns
  have hts := atoms_spec (ws := wsX0_readyInRow) B.pre
  have hown : s.vm.findClass RX0 = some m.cls := findClass_of_methodNamed B.named
  have hlocks := B.notSynchronized
  subst hsz
  have hD := hD0.self (sz := s.heap.size)
  generalize hAe : va_A [(ax, .inr (0, [.ref ax_kind, .ref ax_walk, .ref ax_first, .ref ax_second, .ref ax_order, .ref ax_ready, .int x_people, .int x_away])), (ax_first, .inl (cyI, 8, .inl x_first))] s.heap.size = A at hD ⊢
  have hA : ∀ q : Nat, s.heap.size ≤ q → A q := fun q h => by rw [← hAe]; exact Or.inr h
  have hS : va_S A s.heap s.heap [] := va_S.rf
  have hl := lv_entry ([.ref ax, .int i1]) (n := 4) (Nat.le_of_ble_eq_true rfl)
  rw [lg_entry_eq]
  generalize (lg_sl ([.ref ax, .int i1]) ++ List.replicate (4 - (lg_sl ([.ref ax, .int i1])).length) Slot.unset).toArray = ls at hl ⊢
  have hl : lv_has ls 4 [(0, .ref ax), (1, .int i1)] := hl
  have f18 := hts (.fieldLink RX0 18 "SecondTill$Crossing" "first" "[I") (by decide +kernel)
  have inX0 : ∀ w ∈ u_ws RX0 TX0 8, w ∈ wsX0_readyInRow := by decide +kernel
  unfold S_X0_readyInRow at hf
  have hP : va_P D vwCl [(ax, .inr (0, [.ref ax_kind, .ref ax_walk, .ref ax_first, .ref ax_second, .ref ax_order, .ref ax_ready, .int x_people, .int x_away])), (ax_first, .inl (cyI, 8, .inl x_first))] s.heap := hP
  suffices hgo : ∀ (H : Heap) (locs : List Loc), va_P D vwCl [(ax, .inr (0, [.ref ax_kind, .ref ax_walk, .ref ax_first, .ref ax_second, .ref ax_order, .ref ax_ready, .int x_people, .int x_away])), (ax_first, .inl (cyI, 8, .inl x_first))] H → va_S A s.heap H locs → W p l e rX0_readyInRow s m (([.ref ax, .int i1] : List Value).toArray) below meth c H locs 0 0 (MQ below (CQi r D [(ax, .inr (0, [.ref ax_kind, .ref ax_walk, .ref ax_first, .ref ax_second, .ref ax_order, .ref ax_ready, .int x_people, .int x_away])), (ax_first, .inl (cyI, 8, .inl x_first))] A) (([.ref ax, .int i1] : List Value).toArray) s 0 0 A) (F0 m 0 ls []) from hgo _ _ hP hS
  clear hP hS
  intro H locs hP hS
  refine lv_aload_n hx hb dX0_readyInRow_0 rfl (lv_at hl 0 rfl) ?_
  refine va_get (C := RX0) (T := TX0) (N := 8) hx hb hts inX0 hown hK.1 hP 0 rfl rfl 2 (by decide) f18 (fun _ h9 => h9) rfl dX0_readyInRow_1 ?_
  refine lv_iload_n hx hb dX0_readyInRow_4 rfl (lv_at hl 1 rfl) ?_
  obtain ⟨z5, hf⟩ := oi hf
  refine a_ild hx hb hK hP 1 rfl z5 i1.toNatClampNeg rfl dX0_readyInRow_5 ?_
  refine lv_istore_n (lv' := [(2, .int (x_first i1.toNatClampNeg)), (0, .ref ax), (1, .int i1)]) hx hb dX0_readyInRow_6 rfl hl (by decide) rfl (fun ls hl => ?_)
  refine lv_iconst (v := 0) hx hb dX0_readyInRow_7 (by decide) ?_
  refine lv_istore_n (lv' := [(3, .int (0 : Int32)), (2, .int (x_first i1.toNatClampNeg)), (0, .ref ax), (1, .int i1)]) hx hb dX0_readyInRow_8 rfl hl (by decide) rfl (fun ls hl => ?_)
  have hL9 : ∀ (n9 : Nat) (i2 : Int32) (i3 : Int32) (H : Heap) (locs : List Loc) (ls : Array Slot), va_P D vwCl [(ax, .inr (0, [.ref ax_kind, .ref ax_walk, .ref ax_first, .ref ax_second, .ref ax_order, .ref ax_ready, .int x_people, .int x_away])), (ax_first, .inl (cyI, 8, .inl x_first))] H → va_D A [(ax, .inr (0, [.ref ax_kind, .ref ax_walk, .ref ax_first, .ref ax_second, .ref ax_order, .ref ax_ready, .int x_people, .int x_away])), (ax_first, .inl (cyI, 8, .inl x_first))] → va_S A s.heap H locs → lv_has ls 4 [(0, .ref ax), (1, .int i1), (2, .int i2), (3, .int i3)] → S_X0_readyInRow_L9 i1 x_away x_first n9 i2 i3 = some r → W p l e rX0_readyInRow s m (([.ref ax, .int i1] : List Value).toArray) below meth c H locs 0 0 (MQ below (CQi r D [(ax, .inr (0, [.ref ax_kind, .ref ax_walk, .ref ax_first, .ref ax_second, .ref ax_order, .ref ax_ready, .int x_people, .int x_away])), (ax_first, .inl (cyI, 8, .inl x_first))] A) (([.ref ax, .int i1] : List Value).toArray) s 0 0 A) (F0 m 9 ls []) := by
    intro n9
    induction n9 with
    | zero => intro i2 i3 H locs ls hP hD hS hl hf; exact absurd hf (by simp [S_X0_readyInRow_L9])
    | succ n9 ih9 =>
      intro i2 i3 H locs ls hP hD hS hl hf
      rw [S_X0_readyInRow_L9] at hf
      refine lv_iload_n hx hb dX0_readyInRow_9 rfl (lv_at hl 3 rfl) ?_
      refine lv_iload_n hx hb dX0_readyInRow_10 rfl (lv_at hl 1 rfl) ?_
      refine lv_icmp_ge (tgt := 37) hx hb dX0_readyInRow_11 (by decide) (fun c11 => ?_) (fun c11 => ?_)
      · replace hf := ip c11 hf
        refine lv_iload_n hx hb dX0_readyInRow_37 rfl (lv_at hl 2 rfl) ?_
        obtain rfl := Option.some.inj hf
        exact W.iret hx hb hr (fun t ht hW => ⟨⟨_, (), rfl, rfl, by rw [ht]; exact hP, hD⟩, hS.F ht⟩) hS.2.2 dX0_readyInRow_38
      · replace hf := iq c11 hf
        refine lv_aload_n hx hb dX0_readyInRow_14 rfl (lv_at hl 0 rfl) ?_
        refine lv_iload_n hx hb dX0_readyInRow_15 rfl (lv_at hl 3 rfl) ?_
        obtain ⟨r16, q16, hf⟩ := ob hf
        refine k_i (wc := [(ax, .inr (0, [.ref ax_kind, .ref ax_walk, .ref ax_first, .ref ax_second, .ref ax_order, .ref ax_ready, .int x_people, .int x_away]))]) (wr := [(ax_first, .inl (cyI, 8, .inl x_first))]) (w1 := [(ax, .inr (0, [.ref ax_kind, .ref ax_walk, .ref ax_first, .ref ax_second, .ref ax_order, .ref ax_ready, .int x_people, .int x_away]))]) (wn := [(ax, .inr (0, [.ref ax_kind, .ref ax_walk, .ref ax_first, .ref ax_second, .ref ax_order, .ref ax_ready, .int x_people, .int x_away])), (ax_first, .inl (cyI, 8, .inl x_first))]) (va_runV (As := [.int i3]) (rest := []) ⟨hx, hb, hml, hown, hts⟩ (c_X0_isAway l D cyI cyC cyS H.size ax ax_kind ax_walk ax_first ax_second ax_order ax_ready x_people x_away i3 q16) (cwV 1 hts gX0_readyInRow_X0_isAway rfl rfl rfl (by decide +kernel) ⟨Nat.le_of_ble_eq_true rfl, Nat.le_of_ble_eq_true rfl⟩) (preV (ci := 0) hK (hP.subm (ws' := [(ax, .inr (0, [.ref ax_kind, .ref ax_walk, .ref ax_first, .ref ax_second, .ref ax_order, .ref ax_ready, .int x_people, .int x_away]))]) [0] rfl) (hD.sub (ws' := [(ax, .inr (0, [.ref ax_kind, .ref ax_walk, .ref ax_first, .ref ax_second, .ref ax_order, .ref ax_ready, .int x_people, .int x_away]))]) [0] (by decide) rfl) rfl rfl) rfl rfl hl.1 rfl (lv_room (Nat.le_of_ble_eq_true rfl)) dX0_readyInRow_16 ⟨Nat.le_of_ble_eq_true rfl, Nat.le_of_ble_eq_true rfl⟩) hP hD hS hA [0] [1] [1, 0] rfl rfl rfl (by decide) (by decide) (by decide) (fun H locs hP hD hS => ?_)
        refine lv_if_ne (tgt := 31) hx hb dX0_readyInRow_19 (by decide) (fun c19 => ?_) (fun c19 => ?_)
        · replace hf := iq c19 hf
          refine lv_iinc (v := i3 + (1 : Int32)) (lv' := [(3, .int (i3 + (1 : Int32))), (0, .ref ax), (1, .int i1), (2, .int i2)]) hx hb dX0_readyInRow_31 hl (k := 3) rfl rfl (by decide) rfl (fun ls hl => ?_)
          refine lv_goto (tgt := 9) hx hb dX0_readyInRow_34 (by decide) ?_
          exact ih9 i2 (i3 + (1 : Int32)) _ _ _ hP hD hS (lv_sub hl [1, 2, 3, 0] rfl) hf
        · replace hf := ip c19 hf
          refine lv_iload_n hx hb dX0_readyInRow_22 rfl (lv_at hl 2 rfl) ?_
          refine lv_aload_n hx hb dX0_readyInRow_23 rfl (lv_at hl 0 rfl) ?_
          refine va_get (C := RX0) (T := TX0) (N := 8) hx hb hts inX0 hown hK.1 hP 0 rfl rfl 2 (by decide) f18 (fun _ h9 => h9) rfl dX0_readyInRow_24 ?_
          refine lv_iload_n hx hb dX0_readyInRow_27 rfl (lv_at hl 3 rfl) ?_
          obtain ⟨z28, hf⟩ := oi hf
          refine a_ild hx hb hK hP 1 rfl z28 i3.toNatClampNeg rfl dX0_readyInRow_28 ?_
          refine lv_iadd hx hb dX0_readyInRow_29 ?_
          refine lv_istore_n (lv' := [(2, .int (i2 + (x_first i3.toNatClampNeg))), (0, .ref ax), (1, .int i1), (3, .int i3)]) hx hb dX0_readyInRow_30 rfl hl (by decide) rfl (fun ls hl => ?_)
          refine lv_iinc (v := i3 + (1 : Int32)) (lv' := [(3, .int (i3 + (1 : Int32))), (2, .int (i2 + (x_first i3.toNatClampNeg))), (0, .ref ax), (1, .int i1)]) hx hb dX0_readyInRow_31 hl (k := 3) rfl rfl (by decide) rfl (fun ls hl => ?_)
          refine lv_goto (tgt := 9) hx hb dX0_readyInRow_34 (by decide) ?_
          exact ih9 (i2 + (x_first i3.toNatClampNeg)) (i3 + (1 : Int32)) _ _ _ hP hD hS (lv_sub hl [2, 3, 1, 0] rfl) hf
  exact hL9 300 (x_first i1.toNatClampNeg) (0 : Int32) _ _ _ hP hD hS (lv_sub hl [2, 3, 1, 0] rfl) hf
abbrev rX0_stayingAheadOf : Room := { frames := 1, cells := 0, slots := 0, locals := 20 }
set_option maxHeartbeats 4000000 in
set_option maxRecDepth 100000 in
theorem c_X0_stayingAheadOf (l : Launch) (D : va_G) (cyI cyC cyS : ClassId) (sz : Nat) (ax : Nat) (ax_kind : Nat) (ax_walk : Nat) (ax_first : Nat) (ax_second : Nat) (ax_order : Nat) (ax_ready : Nat) (x_people : Int32) (x_away : Int32) (i1 : Int32) {r : Int32} (hf : S_X0_stayingAheadOf i1 x_away = some r) : Met l yX0_stayingAheadOf wsX0_stayingAheadOf rX0_stayingAheadOf (Cpre [.ref ax, .int i1] D cyI cyC cyS sz [(ax, .inr (0, [.ref ax_kind, .ref ax_walk, .ref ax_first, .ref ax_second, .ref ax_order, .ref ax_ready, .int x_people, .int x_away]))]) (CQi r D [(ax, .inr (0, [.ref ax_kind, .ref ax_walk, .ref ax_first, .ref ax_second, .ref ax_order, .ref ax_ready, .int x_people, .int x_away]))] (va_A [(ax, .inr (0, [.ref ax_kind, .ref ax_walk, .ref ax_first, .ref ax_second, .ref ax_order, .ref ax_ready, .int x_people, .int x_away]))] sz)) 0 0 (va_A [(ax, .inr (0, [.ref ax_kind, .ref ax_walk, .ref ax_first, .ref ax_second, .ref ax_order, .ref ax_ready, .int x_people, .int x_away]))] sz) := by
  refine Met.ofW (cc := cX0_stayingAheadOf) (maxL := 2) (ret := (some .int)) (by decide) rfl ?_
  intro p e s m args below meth c s₁ B hml hv
  obtain ⟨rfl, hsz, hP, hK, hD0⟩ := hv
  have hx := B.exec
  have hb := B.bytes
  have hr := B.returns
  have hts := atoms_spec (ws := wsX0_stayingAheadOf) B.pre
  have hown : s.vm.findClass RX0 = some m.cls := findClass_of_methodNamed B.named
  have hlocks := B.notSynchronized
  subst hsz
  have hD := hD0.self (sz := s.heap.size)
  generalize hAe : va_A [(ax, .inr (0, [.ref ax_kind, .ref ax_walk, .ref ax_first, .ref ax_second, .ref ax_order, .ref ax_ready, .int x_people, .int x_away]))] s.heap.size = A at hD ⊢
  have hA : ∀ q : Nat, s.heap.size ≤ q → A q := fun q h => by rw [← hAe]; exact Or.inr h
  have hS : va_S A s.heap s.heap [] := va_S.rf
  have hl := lv_entry ([.ref ax, .int i1]) (n := 2) (Nat.le_of_ble_eq_true rfl)
  rw [lg_entry_eq]
  generalize (lg_sl ([.ref ax, .int i1]) ++ List.replicate (2 - (lg_sl ([.ref ax, .int i1])).length) Slot.unset).toArray = ls at hl ⊢
  have hl : lv_has ls 2 [(0, .ref ax), (1, .int i1)] := hl
  have f53 := hts (.fieldLink RX0 53 "SecondTill$Crossing" "away" "I") (by decide +kernel)
  have inX0 : ∀ w ∈ u_ws RX0 TX0 8, w ∈ wsX0_stayingAheadOf := by decide +kernel
  unfold S_X0_stayingAheadOf at hf
  have hP : va_P D vwCl [(ax, .inr (0, [.ref ax_kind, .ref ax_walk, .ref ax_first, .ref ax_second, .ref ax_order, .ref ax_ready, .int x_people, .int x_away]))] s.heap := hP
  suffices hgo : ∀ (H : Heap) (locs : List Loc), va_P D vwCl [(ax, .inr (0, [.ref ax_kind, .ref ax_walk, .ref ax_first, .ref ax_second, .ref ax_order, .ref ax_ready, .int x_people, .int x_away]))] H → va_S A s.heap H locs → W p l e rX0_stayingAheadOf s m (([.ref ax, .int i1] : List Value).toArray) below meth c H locs 0 0 (MQ below (CQi r D [(ax, .inr (0, [.ref ax_kind, .ref ax_walk, .ref ax_first, .ref ax_second, .ref ax_order, .ref ax_ready, .int x_people, .int x_away]))] A) (([.ref ax, .int i1] : List Value).toArray) s 0 0 A) (F0 m 0 ls []) from hgo _ _ hP hS
  clear hP hS
  intro H locs hP hS
  refine lv_iload_n hx hb dX0_stayingAheadOf_0 rfl (lv_at hl 1 rfl) ?_
  refine lv_aload_n hx hb dX0_stayingAheadOf_1 rfl (lv_at hl 0 rfl) ?_
  refine va_get (C := RX0) (T := TX0) (N := 8) hx hb hts inX0 hown hK.1 hP 0 rfl rfl 7 (by decide) f53 (fun _ h9 => h9) rfl dX0_stayingAheadOf_2 ?_
  refine lv_iconst (v := 1) hx hb dX0_stayingAheadOf_5 (by decide) ?_
  refine lv_iload_n hx hb dX0_stayingAheadOf_6 rfl (lv_at hl 1 rfl) ?_
  refine lv_ishl hx hb dX0_stayingAheadOf_7 ?_
  refine lv_iconst (v := 1) hx hb dX0_stayingAheadOf_8 (by decide) ?_
  refine lv_isub hx hb dX0_stayingAheadOf_9 ?_
  refine lv_iand hx hb dX0_stayingAheadOf_10 ?_
  obtain ⟨r11, q11, hf⟩ := ob hf
  refine k_i (wc := []) (wr := [(ax, .inr (0, [.ref ax_kind, .ref ax_walk, .ref ax_first, .ref ax_second, .ref ax_order, .ref ax_ready, .int x_people, .int x_away]))]) (w1 := []) (wn := [(ax, .inr (0, [.ref ax_kind, .ref ax_walk, .ref ax_first, .ref ax_second, .ref ax_order, .ref ax_ready, .int x_people, .int x_away]))]) (va_runS (As := [.int (x_away &&& (((1 : Int32) <<< (i1 &&& 31)) - (1 : Int32)))]) (rest := [.int i1]) ⟨hx, hb, hml, hown, hts⟩ (c_J6_bitCount_0f7a4 l D cyI cyC cyS H.size (x_away &&& (((1 : Int32) <<< (i1 &&& 31)) - (1 : Int32))) q11) (va_cwS 1 hts gX0_stayingAheadOf_J6_bitCount_0f7a4 rfl rfl rfl (by decide +kernel) ⟨Nat.le_of_ble_eq_true rfl, Nat.le_of_ble_eq_true rfl⟩) (preS hK (hP.subm (ws' := []) [] rfl) (hD.sub (ws' := []) [] (by decide) rfl)) rfl rfl hl.1 rfl (lv_room (Nat.le_of_ble_eq_true rfl)) dX0_stayingAheadOf_11 ⟨Nat.le_of_ble_eq_true rfl, Nat.le_of_ble_eq_true rfl⟩) hP hD hS hA [] [0] [0] rfl rfl rfl (by decide) (by decide) (by decide) (fun H locs hP hD hS => ?_)
  refine lv_isub hx hb dX0_stayingAheadOf_14 ?_
  obtain rfl := Option.some.inj hf
  exact W.iret hx hb hr (fun t ht hW => ⟨⟨_, (), rfl, rfl, by rw [ht]; exact hP, hD⟩, hS.F ht⟩) hS.2.2 dX0_stayingAheadOf_15
abbrev rX0_wouldGo : Room := { frames := 2, cells := 0, slots := 0, locals := 44 }
set_option maxHeartbeats 4000000 in
set_option maxRecDepth 100000 in
theorem c_X0_wouldGo (l : Launch) (D : va_G) (cyI cyC cyS : ClassId) (sz : Nat) (ax : Nat) (ax_kind : Nat) (ax_walk : Nat) (ax_first : Nat) (ax_second : Nat) (ax_order : Nat) (ax_ready : Nat) (x_people : Int32) (x_away : Int32) (x_kind : Nat → Int32) (x_first : Nat → Int32) (i1 : Int32) (i2 : Int32) {r : Int32} (hf : S_X0_wouldGo i1 i2 x_away x_kind x_first = some r) : Met l yX0_wouldGo wsX0_wouldGo rX0_wouldGo (Cpre [.ref ax, .int i1, .int i2] D cyI cyC cyS sz [(ax, .inr (0, [.ref ax_kind, .ref ax_walk, .ref ax_first, .ref ax_second, .ref ax_order, .ref ax_ready, .int x_people, .int x_away])), (ax_kind, .inl (cyI, 8, .inl x_kind)), (ax_first, .inl (cyI, 8, .inl x_first))]) (CQi r D [(ax, .inr (0, [.ref ax_kind, .ref ax_walk, .ref ax_first, .ref ax_second, .ref ax_order, .ref ax_ready, .int x_people, .int x_away])), (ax_kind, .inl (cyI, 8, .inl x_kind)), (ax_first, .inl (cyI, 8, .inl x_first))] (va_A [(ax, .inr (0, [.ref ax_kind, .ref ax_walk, .ref ax_first, .ref ax_second, .ref ax_order, .ref ax_ready, .int x_people, .int x_away])), (ax_kind, .inl (cyI, 8, .inl x_kind)), (ax_first, .inl (cyI, 8, .inl x_first))] sz)) 0 0 (va_A [(ax, .inr (0, [.ref ax_kind, .ref ax_walk, .ref ax_first, .ref ax_second, .ref ax_order, .ref ax_ready, .int x_people, .int x_away])), (ax_kind, .inl (cyI, 8, .inl x_kind)), (ax_first, .inl (cyI, 8, .inl x_first))] sz) := by
  refine Met.ofW (cc := cX0_wouldGo) (maxL := 3) (ret := (some .boolean)) (by decide) rfl ?_
  intro p e s m args below meth c s₁ B hml hv
  obtain ⟨rfl, hsz, hP, hK, hD0⟩ := hv
  have hx := B.exec
  have hb := B.bytes
  have hr := B.returns
  have hts := atoms_spec (ws := wsX0_wouldGo) B.pre
  have hown : s.vm.findClass RX0 = some m.cls := findClass_of_methodNamed B.named
  have hlocks := B.notSynchronized
  subst hsz
  have hD := hD0.self (sz := s.heap.size)
  generalize hAe : va_A [(ax, .inr (0, [.ref ax_kind, .ref ax_walk, .ref ax_first, .ref ax_second, .ref ax_order, .ref ax_ready, .int x_people, .int x_away])), (ax_kind, .inl (cyI, 8, .inl x_kind)), (ax_first, .inl (cyI, 8, .inl x_first))] s.heap.size = A at hD ⊢
  have hA : ∀ q : Nat, s.heap.size ≤ q → A q := fun q h => by rw [← hAe]; exact Or.inr h
  have hS : va_S A s.heap s.heap [] := va_S.rf
  have hl := lv_entry ([.ref ax, .int i1, .int i2]) (n := 3) (Nat.le_of_ble_eq_true rfl)
  rw [lg_entry_eq]
  generalize (lg_sl ([.ref ax, .int i1, .int i2]) ++ List.replicate (3 - (lg_sl ([.ref ax, .int i1, .int i2])).length) Slot.unset).toArray = ls at hl ⊢
  have hl : lv_has ls 3 [(0, .ref ax), (1, .int i1), (2, .int i2)] := hl
  have f9 := hts (.fieldLink RX0 9 "SecondTill$Crossing" "kind" "[I") (by decide +kernel)
  have inX0 : ∀ w ∈ u_ws RX0 TX0 8, w ∈ wsX0_wouldGo := by decide +kernel
  have f53 := hts (.fieldLink RX0 53 "SecondTill$Crossing" "away" "I") (by decide +kernel)
  unfold S_X0_wouldGo at hf
  have hP : va_P D vwCl [(ax, .inr (0, [.ref ax_kind, .ref ax_walk, .ref ax_first, .ref ax_second, .ref ax_order, .ref ax_ready, .int x_people, .int x_away])), (ax_kind, .inl (cyI, 8, .inl x_kind)), (ax_first, .inl (cyI, 8, .inl x_first))] s.heap := hP
  suffices hgo : ∀ (H : Heap) (locs : List Loc), va_P D vwCl [(ax, .inr (0, [.ref ax_kind, .ref ax_walk, .ref ax_first, .ref ax_second, .ref ax_order, .ref ax_ready, .int x_people, .int x_away])), (ax_kind, .inl (cyI, 8, .inl x_kind)), (ax_first, .inl (cyI, 8, .inl x_first))] H → va_S A s.heap H locs → W p l e rX0_wouldGo s m (([.ref ax, .int i1, .int i2] : List Value).toArray) below meth c H locs 0 0 (MQ below (CQi r D [(ax, .inr (0, [.ref ax_kind, .ref ax_walk, .ref ax_first, .ref ax_second, .ref ax_order, .ref ax_ready, .int x_people, .int x_away])), (ax_kind, .inl (cyI, 8, .inl x_kind)), (ax_first, .inl (cyI, 8, .inl x_first))] A) (([.ref ax, .int i1, .int i2] : List Value).toArray) s 0 0 A) (F0 m 0 ls []) from hgo _ _ hP hS
  clear hP hS
  intro H locs hP hS
  refine lv_aload_n hx hb dX0_wouldGo_0 rfl (lv_at hl 0 rfl) ?_
  refine va_get (C := RX0) (T := TX0) (N := 8) hx hb hts inX0 hown hK.1 hP 0 rfl rfl 0 (by decide) f9 (fun _ h9 => h9) rfl dX0_wouldGo_1 ?_
  refine lv_iload_n hx hb dX0_wouldGo_4 rfl (lv_at hl 1 rfl) ?_
  obtain ⟨z5, hf⟩ := oi hf
  refine a_ild hx hb hK hP 1 rfl z5 i1.toNatClampNeg rfl dX0_wouldGo_5 ?_
  by_cases c6_0 : (x_kind i1.toNatClampNeg) = 1
  · replace hf := ip c6_0 hf
    refine lv_tableIn (off := 26) (tgt := 32) hx hb dX0_wouldGo_6 (by rw [c6_0]; decide) (by rw [c6_0]; decide) (by rw [c6_0]; rfl) (by decide) ?_
    refine lv_aload_n hx hb dX0_wouldGo_32 rfl (lv_at hl 0 rfl) ?_
    refine lv_iload_n hx hb dX0_wouldGo_33 rfl (lv_at hl 1 rfl) ?_
    obtain ⟨r34, q34, hf⟩ := ob hf
    refine k_i (wc := [(ax, .inr (0, [.ref ax_kind, .ref ax_walk, .ref ax_first, .ref ax_second, .ref ax_order, .ref ax_ready, .int x_people, .int x_away]))]) (wr := [(ax_kind, .inl (cyI, 8, .inl x_kind)), (ax_first, .inl (cyI, 8, .inl x_first))]) (w1 := [(ax, .inr (0, [.ref ax_kind, .ref ax_walk, .ref ax_first, .ref ax_second, .ref ax_order, .ref ax_ready, .int x_people, .int x_away]))]) (wn := [(ax, .inr (0, [.ref ax_kind, .ref ax_walk, .ref ax_first, .ref ax_second, .ref ax_order, .ref ax_ready, .int x_people, .int x_away])), (ax_kind, .inl (cyI, 8, .inl x_kind)), (ax_first, .inl (cyI, 8, .inl x_first))]) (va_runV (As := [.int i1]) (rest := []) ⟨hx, hb, hml, hown, hts⟩ (c_X0_stayingAheadOf l D cyI cyC cyS H.size ax ax_kind ax_walk ax_first ax_second ax_order ax_ready x_people x_away i1 q34) (cwV 1 hts gX0_wouldGo_X0_stayingAheadOf rfl rfl rfl (by decide +kernel) ⟨Nat.le_of_ble_eq_true rfl, Nat.le_of_ble_eq_true rfl⟩) (preV (ci := 0) hK (hP.subm (ws' := [(ax, .inr (0, [.ref ax_kind, .ref ax_walk, .ref ax_first, .ref ax_second, .ref ax_order, .ref ax_ready, .int x_people, .int x_away]))]) [0] rfl) (hD.sub (ws' := [(ax, .inr (0, [.ref ax_kind, .ref ax_walk, .ref ax_first, .ref ax_second, .ref ax_order, .ref ax_ready, .int x_people, .int x_away]))]) [0] (by decide) rfl) rfl rfl) rfl rfl hl.1 rfl (lv_room (Nat.le_of_ble_eq_true rfl)) dX0_wouldGo_34 ⟨Nat.le_of_ble_eq_true rfl, Nat.le_of_ble_eq_true rfl⟩) hP hD hS hA [0] [1, 2] [2, 0, 1] rfl rfl rfl (by decide) (by decide) (by decide) (fun H locs hP hD hS => ?_)
    refine lv_aload_n hx hb dX0_wouldGo_37 rfl (lv_at hl 0 rfl) ?_
    refine va_get (C := RX0) (T := TX0) (N := 8) hx hb hts inX0 hown hK.1 hP 0 rfl rfl 7 (by decide) f53 (fun _ h9 => h9) rfl dX0_wouldGo_38 ?_
    obtain ⟨r41, q41, hf⟩ := ob hf
    refine k_i (wc := []) (wr := [(ax, .inr (0, [.ref ax_kind, .ref ax_walk, .ref ax_first, .ref ax_second, .ref ax_order, .ref ax_ready, .int x_people, .int x_away])), (ax_kind, .inl (cyI, 8, .inl x_kind)), (ax_first, .inl (cyI, 8, .inl x_first))]) (w1 := []) (wn := [(ax, .inr (0, [.ref ax_kind, .ref ax_walk, .ref ax_first, .ref ax_second, .ref ax_order, .ref ax_ready, .int x_people, .int x_away])), (ax_kind, .inl (cyI, 8, .inl x_kind)), (ax_first, .inl (cyI, 8, .inl x_first))]) (va_runS (As := [.int x_away]) (rest := [.int r34]) ⟨hx, hb, hml, hown, hts⟩ (c_J6_bitCount_0f7a4 l D cyI cyC cyS H.size x_away q41) (va_cwS 1 hts gX0_wouldGo_J6_bitCount_0f7a4 rfl rfl rfl (by decide +kernel) ⟨Nat.le_of_ble_eq_true rfl, Nat.le_of_ble_eq_true rfl⟩) (preS hK (hP.subm (ws' := []) [] rfl) (hD.sub (ws' := []) [] (by decide) rfl)) rfl rfl hl.1 rfl (lv_room (Nat.le_of_ble_eq_true rfl)) dX0_wouldGo_41 ⟨Nat.le_of_ble_eq_true rfl, Nat.le_of_ble_eq_true rfl⟩) hP hD hS hA [] [0, 1, 2] [0, 1, 2] rfl rfl rfl (by decide) (by decide) (by decide) (fun H locs hP hD hS => ?_)
    refine lv_icmp_le (tgt := 51) hx hb dX0_wouldGo_44 (by decide) (fun c44 => ?_) (fun c44 => ?_)
    · replace hf := ip c44 hf
      refine lv_iconst (v := 0) hx hb dX0_wouldGo_51 (by decide) ?_
      obtain rfl := Option.some.inj hf
      exact W.zret hx hb hr rfl (fun t ht hW => ⟨⟨_, (), rfl, rfl, by rw [ht]; exact hP, hD⟩, hS.F ht⟩) hS.2.2 dX0_wouldGo_52
    · replace hf := iq c44 hf
      refine lv_iconst (v := 1) hx hb dX0_wouldGo_47 (by decide) ?_
      refine lv_goto (tgt := 52) hx hb dX0_wouldGo_48 (by decide) ?_
      obtain rfl := Option.some.inj hf
      exact W.zret hx hb hr rfl (fun t ht hW => ⟨⟨_, (), rfl, rfl, by rw [ht]; exact hP, hD⟩, hS.F ht⟩) hS.2.2 dX0_wouldGo_52
  replace hf := iq c6_0 hf
  by_cases c6_1 : (x_kind i1.toNatClampNeg) = 2
  · replace hf := ip c6_1 hf
    refine lv_tableIn (off := 47) (tgt := 53) hx hb dX0_wouldGo_6 (by rw [c6_1]; decide) (by rw [c6_1]; decide) (by rw [c6_1]; rfl) (by decide) ?_
    refine lv_iload_n hx hb dX0_wouldGo_53 rfl (lv_at hl 2 rfl) ?_
    refine lv_aload_n hx hb dX0_wouldGo_54 rfl (lv_at hl 0 rfl) ?_
    refine lv_iload_n hx hb dX0_wouldGo_55 rfl (lv_at hl 1 rfl) ?_
    obtain ⟨r56, q56, hf⟩ := ob hf
    refine k_i (wc := [(ax, .inr (0, [.ref ax_kind, .ref ax_walk, .ref ax_first, .ref ax_second, .ref ax_order, .ref ax_ready, .int x_people, .int x_away])), (ax_first, .inl (cyI, 8, .inl x_first))]) (wr := [(ax_kind, .inl (cyI, 8, .inl x_kind))]) (w1 := [(ax, .inr (0, [.ref ax_kind, .ref ax_walk, .ref ax_first, .ref ax_second, .ref ax_order, .ref ax_ready, .int x_people, .int x_away])), (ax_first, .inl (cyI, 8, .inl x_first))]) (wn := [(ax, .inr (0, [.ref ax_kind, .ref ax_walk, .ref ax_first, .ref ax_second, .ref ax_order, .ref ax_ready, .int x_people, .int x_away])), (ax_kind, .inl (cyI, 8, .inl x_kind)), (ax_first, .inl (cyI, 8, .inl x_first))]) (va_runV (As := [.int i1]) (rest := [.int i2]) ⟨hx, hb, hml, hown, hts⟩ (c_X0_readyInRow l D cyI cyC cyS H.size ax ax_kind ax_walk ax_first ax_second ax_order ax_ready x_people x_away x_first i1 q56) (cwV 1 hts gX0_wouldGo_X0_readyInRow rfl rfl rfl (by decide +kernel) ⟨Nat.le_of_ble_eq_true rfl, Nat.le_of_ble_eq_true rfl⟩) (preV (ci := 0) hK (hP.subm (ws' := [(ax, .inr (0, [.ref ax_kind, .ref ax_walk, .ref ax_first, .ref ax_second, .ref ax_order, .ref ax_ready, .int x_people, .int x_away])), (ax_first, .inl (cyI, 8, .inl x_first))]) [0, 2] rfl) (hD.sub (ws' := [(ax, .inr (0, [.ref ax_kind, .ref ax_walk, .ref ax_first, .ref ax_second, .ref ax_order, .ref ax_ready, .int x_people, .int x_away])), (ax_first, .inl (cyI, 8, .inl x_first))]) [0, 2] (by decide) rfl) rfl rfl) rfl rfl hl.1 rfl (lv_room (Nat.le_of_ble_eq_true rfl)) dX0_wouldGo_56 ⟨Nat.le_of_ble_eq_true rfl, Nat.le_of_ble_eq_true rfl⟩) hP hD hS hA [0, 2] [1] [1, 0, 2] rfl rfl rfl (by decide) (by decide) (by decide) (fun H locs hP hD hS => ?_)
    refine lv_icmp_ge (tgt := 66) hx hb dX0_wouldGo_59 (by decide) (fun c59 => ?_) (fun c59 => ?_)
    · replace hf := ip c59 hf
      refine lv_iconst (v := 0) hx hb dX0_wouldGo_66 (by decide) ?_
      obtain rfl := Option.some.inj hf
      exact W.zret hx hb hr rfl (fun t ht hW => ⟨⟨_, (), rfl, rfl, by rw [ht]; exact hP, hD⟩, hS.F ht⟩) hS.2.2 dX0_wouldGo_67
    · replace hf := iq c59 hf
      refine lv_iconst (v := 1) hx hb dX0_wouldGo_62 (by decide) ?_
      refine lv_goto (tgt := 67) hx hb dX0_wouldGo_63 (by decide) ?_
      obtain rfl := Option.some.inj hf
      exact W.zret hx hb hr rfl (fun t ht hW => ⟨⟨_, (), rfl, rfl, by rw [ht]; exact hP, hD⟩, hS.F ht⟩) hS.2.2 dX0_wouldGo_67
  replace hf := iq c6_1 hf
  by_cases c6_2 : (x_kind i1.toNatClampNeg) = 3
  · replace hf := ip c6_2 hf
    refine lv_tableIn (off := 47) (tgt := 53) hx hb dX0_wouldGo_6 (by rw [c6_2]; decide) (by rw [c6_2]; decide) (by rw [c6_2]; rfl) (by decide) ?_
    refine lv_iload_n hx hb dX0_wouldGo_53 rfl (lv_at hl 2 rfl) ?_
    refine lv_aload_n hx hb dX0_wouldGo_54 rfl (lv_at hl 0 rfl) ?_
    refine lv_iload_n hx hb dX0_wouldGo_55 rfl (lv_at hl 1 rfl) ?_
    obtain ⟨r56, q56, hf⟩ := ob hf
    refine k_i (wc := [(ax, .inr (0, [.ref ax_kind, .ref ax_walk, .ref ax_first, .ref ax_second, .ref ax_order, .ref ax_ready, .int x_people, .int x_away])), (ax_first, .inl (cyI, 8, .inl x_first))]) (wr := [(ax_kind, .inl (cyI, 8, .inl x_kind))]) (w1 := [(ax, .inr (0, [.ref ax_kind, .ref ax_walk, .ref ax_first, .ref ax_second, .ref ax_order, .ref ax_ready, .int x_people, .int x_away])), (ax_first, .inl (cyI, 8, .inl x_first))]) (wn := [(ax, .inr (0, [.ref ax_kind, .ref ax_walk, .ref ax_first, .ref ax_second, .ref ax_order, .ref ax_ready, .int x_people, .int x_away])), (ax_kind, .inl (cyI, 8, .inl x_kind)), (ax_first, .inl (cyI, 8, .inl x_first))]) (va_runV (As := [.int i1]) (rest := [.int i2]) ⟨hx, hb, hml, hown, hts⟩ (c_X0_readyInRow l D cyI cyC cyS H.size ax ax_kind ax_walk ax_first ax_second ax_order ax_ready x_people x_away x_first i1 q56) (cwV 1 hts gX0_wouldGo_X0_readyInRow rfl rfl rfl (by decide +kernel) ⟨Nat.le_of_ble_eq_true rfl, Nat.le_of_ble_eq_true rfl⟩) (preV (ci := 0) hK (hP.subm (ws' := [(ax, .inr (0, [.ref ax_kind, .ref ax_walk, .ref ax_first, .ref ax_second, .ref ax_order, .ref ax_ready, .int x_people, .int x_away])), (ax_first, .inl (cyI, 8, .inl x_first))]) [0, 2] rfl) (hD.sub (ws' := [(ax, .inr (0, [.ref ax_kind, .ref ax_walk, .ref ax_first, .ref ax_second, .ref ax_order, .ref ax_ready, .int x_people, .int x_away])), (ax_first, .inl (cyI, 8, .inl x_first))]) [0, 2] (by decide) rfl) rfl rfl) rfl rfl hl.1 rfl (lv_room (Nat.le_of_ble_eq_true rfl)) dX0_wouldGo_56 ⟨Nat.le_of_ble_eq_true rfl, Nat.le_of_ble_eq_true rfl⟩) hP hD hS hA [0, 2] [1] [1, 0, 2] rfl rfl rfl (by decide) (by decide) (by decide) (fun H locs hP hD hS => ?_)
    refine lv_icmp_ge (tgt := 66) hx hb dX0_wouldGo_59 (by decide) (fun c59 => ?_) (fun c59 => ?_)
    · replace hf := ip c59 hf
      refine lv_iconst (v := 0) hx hb dX0_wouldGo_66 (by decide) ?_
      obtain rfl := Option.some.inj hf
      exact W.zret hx hb hr rfl (fun t ht hW => ⟨⟨_, (), rfl, rfl, by rw [ht]; exact hP, hD⟩, hS.F ht⟩) hS.2.2 dX0_wouldGo_67
    · replace hf := iq c59 hf
      refine lv_iconst (v := 1) hx hb dX0_wouldGo_62 (by decide) ?_
      refine lv_goto (tgt := 67) hx hb dX0_wouldGo_63 (by decide) ?_
      obtain rfl := Option.some.inj hf
      exact W.zret hx hb hr rfl (fun t ht hW => ⟨⟨_, (), rfl, rfl, by rw [ht]; exact hP, hD⟩, hS.F ht⟩) hS.2.2 dX0_wouldGo_67
  replace hf := iq c6_2 hf
  refine lv_tableOut (tgt := 68) hx hb dX0_wouldGo_6 (by have n0 := lv_neT (a := 1) c6_0 rfl; have n1 := lv_neT (a := 2) c6_1 rfl; have n2 := lv_neT (a := 3) c6_2 rfl; omega) (by decide) ?_
  refine lv_iconst (v := 0) hx hb dX0_wouldGo_68 (by decide) ?_
  obtain rfl := Option.some.inj hf
  exact W.zret hx hb hr rfl (fun t ht hW => ⟨⟨_, (), rfl, rfl, by rw [ht]; exact hP, hD⟩, hS.F ht⟩) hS.2.2 dX0_wouldGo_69
abbrev rX0_letTakePlacesBack : Room := { frames := 2, cells := 0, slots := 0, locals := 44 }
set_option maxHeartbeats 4000000 in
set_option maxRecDepth 100000 in
theorem c_X0_letTakePlacesBack (l : Launch) (D : va_G) (cyI cyC cyS : ClassId) (sz : Nat) (ax : Nat) (ax_kind : Nat) (ax_walk : Nat) (ax_first : Nat) (ax_second : Nat) (ax_order : Nat) (ax_ready : Nat) (x_people : Int32) (x_away : Int32) (x_kind : Nat → Int32) (x_first : Nat → Int32) (x_ready : Nat → Int32) {o_x_away : Int32} (hf : S_X0_letTakePlacesBack x_people x_away x_kind x_first x_ready = some o_x_away) : Met l yX0_letTakePlacesBack wsX0_letTakePlacesBack rX0_letTakePlacesBack (Cpre [.ref ax] D cyI cyC cyS sz [(ax, .inr (0, [.ref ax_kind, .ref ax_walk, .ref ax_first, .ref ax_second, .ref ax_order, .ref ax_ready, .int x_people, .int x_away])), (ax_kind, .inl (cyI, 8, .inl x_kind)), (ax_first, .inl (cyI, 8, .inl x_first)), (ax_ready, .inl (cyI, 8, .inl x_ready))]) (CQv D [(ax, .inr (0, [.ref ax_kind, .ref ax_walk, .ref ax_first, .ref ax_second, .ref ax_order, .ref ax_ready, .int x_people, .int o_x_away])), (ax_kind, .inl (cyI, 8, .inl x_kind)), (ax_first, .inl (cyI, 8, .inl x_first)), (ax_ready, .inl (cyI, 8, .inl x_ready))] (va_A [(ax, .inr (0, [.ref ax_kind, .ref ax_walk, .ref ax_first, .ref ax_second, .ref ax_order, .ref ax_ready, .int x_people, .int x_away])), (ax_kind, .inl (cyI, 8, .inl x_kind)), (ax_first, .inl (cyI, 8, .inl x_first)), (ax_ready, .inl (cyI, 8, .inl x_ready))] sz)) 0 0 (va_A [(ax, .inr (0, [.ref ax_kind, .ref ax_walk, .ref ax_first, .ref ax_second, .ref ax_order, .ref ax_ready, .int x_people, .int x_away])), (ax_kind, .inl (cyI, 8, .inl x_kind)), (ax_first, .inl (cyI, 8, .inl x_first)), (ax_ready, .inl (cyI, 8, .inl x_ready))] sz) := by
  refine Met.ofW (cc := cX0_letTakePlacesBack) (maxL := 2) (ret := none) (by decide) rfl ?_
  intro p e s m args below meth c s₁ B hml hv
  obtain ⟨rfl, hsz, hP, hK, hD0⟩ := hv
  have hx := B.exec
  have hb := B.bytes
  have hr := B.returns
  have hts := atoms_spec (ws := wsX0_letTakePlacesBack) B.pre
  have hown : s.vm.findClass RX0 = some m.cls := findClass_of_methodNamed B.named
  have hlocks := B.notSynchronized
  subst hsz
  have hD := hD0.self (sz := s.heap.size)
  generalize hAe : va_A [(ax, .inr (0, [.ref ax_kind, .ref ax_walk, .ref ax_first, .ref ax_second, .ref ax_order, .ref ax_ready, .int x_people, .int x_away])), (ax_kind, .inl (cyI, 8, .inl x_kind)), (ax_first, .inl (cyI, 8, .inl x_first)), (ax_ready, .inl (cyI, 8, .inl x_ready))] s.heap.size = A at hD ⊢
  have hA : ∀ q : Nat, s.heap.size ≤ q → A q := fun q h => by rw [← hAe]; exact Or.inr h
  have hS : va_S A s.heap s.heap [] := va_S.rf
  have hl := lv_entry ([.ref ax]) (n := 2) (Nat.le_of_ble_eq_true rfl)
  rw [lg_entry_eq]
  generalize (lg_sl ([.ref ax]) ++ List.replicate (2 - (lg_sl ([.ref ax])).length) Slot.unset).toArray = ls at hl ⊢
  have hl : lv_has ls 2 [(0, .ref ax)] := hl
  have f36 := hts (.fieldLink RX0 36 "SecondTill$Crossing" "people" "I") (by decide +kernel)
  have inX0 : ∀ w ∈ u_ws RX0 TX0 8, w ∈ wsX0_letTakePlacesBack := by decide +kernel
  have f9 := hts (.fieldLink RX0 9 "SecondTill$Crossing" "kind" "[I") (by decide +kernel)
  have f27 := hts (.fieldLink RX0 27 "SecondTill$Crossing" "ready" "[I") (by decide +kernel)
  have f53 := hts (.fieldLink RX0 53 "SecondTill$Crossing" "away" "I") (by decide +kernel)
  unfold S_X0_letTakePlacesBack at hf
  have hP : va_P D vwCl [(ax, .inr (0, [.ref ax_kind, .ref ax_walk, .ref ax_first, .ref ax_second, .ref ax_order, .ref ax_ready, .int x_people, .int x_away])), (ax_kind, .inl (cyI, 8, .inl x_kind)), (ax_first, .inl (cyI, 8, .inl x_first)), (ax_ready, .inl (cyI, 8, .inl x_ready))] s.heap := hP
  suffices hgo : ∀ (H : Heap) (locs : List Loc), va_P D vwCl [(ax, .inr (0, [.ref ax_kind, .ref ax_walk, .ref ax_first, .ref ax_second, .ref ax_order, .ref ax_ready, .int x_people, .int x_away])), (ax_kind, .inl (cyI, 8, .inl x_kind)), (ax_first, .inl (cyI, 8, .inl x_first)), (ax_ready, .inl (cyI, 8, .inl x_ready))] H → va_S A s.heap H locs → W p l e rX0_letTakePlacesBack s m (([.ref ax] : List Value).toArray) below meth c H locs 0 0 (MQ below (CQv D [(ax, .inr (0, [.ref ax_kind, .ref ax_walk, .ref ax_first, .ref ax_second, .ref ax_order, .ref ax_ready, .int x_people, .int o_x_away])), (ax_kind, .inl (cyI, 8, .inl x_kind)), (ax_first, .inl (cyI, 8, .inl x_first)), (ax_ready, .inl (cyI, 8, .inl x_ready))] A) (([.ref ax] : List Value).toArray) s 0 0 A) (F0 m 0 ls []) from hgo _ _ hP hS
  clear hP hS
  intro H locs hP hS
  refine lv_iconst (v := 0) hx hb dX0_letTakePlacesBack_0 (by decide) ?_
  refine lv_istore_n (lv' := [(1, .int (0 : Int32)), (0, .ref ax)]) hx hb dX0_letTakePlacesBack_1 rfl hl (by decide) rfl (fun ls hl => ?_)
  have hL2 : ∀ (n2 : Nat) (i1 : Int32) (x_away : Int32) (H : Heap) (locs : List Loc) (ls : Array Slot), va_P D vwCl [(ax, .inr (0, [.ref ax_kind, .ref ax_walk, .ref ax_first, .ref ax_second, .ref ax_order, .ref ax_ready, .int x_people, .int x_away])), (ax_kind, .inl (cyI, 8, .inl x_kind)), (ax_first, .inl (cyI, 8, .inl x_first)), (ax_ready, .inl (cyI, 8, .inl x_ready))] H → va_D A [(ax, .inr (0, [.ref ax_kind, .ref ax_walk, .ref ax_first, .ref ax_second, .ref ax_order, .ref ax_ready, .int x_people, .int x_away])), (ax_kind, .inl (cyI, 8, .inl x_kind)), (ax_first, .inl (cyI, 8, .inl x_first)), (ax_ready, .inl (cyI, 8, .inl x_ready))] → va_S A s.heap H locs → lv_has ls 2 [(0, .ref ax), (1, .int i1)] → S_X0_letTakePlacesBack_L2 x_people x_kind x_first x_ready n2 i1 x_away = some o_x_away → W p l e rX0_letTakePlacesBack s m (([.ref ax] : List Value).toArray) below meth c H locs 0 0 (MQ below (CQv D [(ax, .inr (0, [.ref ax_kind, .ref ax_walk, .ref ax_first, .ref ax_second, .ref ax_order, .ref ax_ready, .int x_people, .int o_x_away])), (ax_kind, .inl (cyI, 8, .inl x_kind)), (ax_first, .inl (cyI, 8, .inl x_first)), (ax_ready, .inl (cyI, 8, .inl x_ready))] A) (([.ref ax] : List Value).toArray) s 0 0 A) (F0 m 2 ls []) := by
    intro n2
    induction n2 with
    | zero => intro i1 x_away H locs ls hP hD hS hl hf; exact absurd hf (by simp [S_X0_letTakePlacesBack_L2])
    | succ n2 ih2 =>
      intro i1 x_away H locs ls hP hD hS hl hf
      rw [S_X0_letTakePlacesBack_L2] at hf
      refine lv_iload_n hx hb dX0_letTakePlacesBack_2 rfl (lv_at hl 1 rfl) ?_
      refine lv_aload_n hx hb dX0_letTakePlacesBack_3 rfl (lv_at hl 0 rfl) ?_
      refine va_get (C := RX0) (T := TX0) (N := 8) hx hb hts inX0 hown hK.1 hP 0 rfl rfl 6 (by decide) f36 (fun _ h9 => h9) rfl dX0_letTakePlacesBack_4 ?_
      refine lv_icmp_ge (tgt := 62) hx hb dX0_letTakePlacesBack_7 (by decide) (fun c7 => ?_) (fun c7 => ?_)
      · replace hf := ip c7 hf
        obtain rfl := Option.some.inj hf
        exact W.vret hx hb hr (fun t ht hW => ⟨⟨(), rfl, trivial, by rw [ht]; exact hP, hD⟩, hS.F ht⟩) hS.2.2 dX0_letTakePlacesBack_62
      · replace hf := iq c7 hf
        refine lv_aload_n hx hb dX0_letTakePlacesBack_10 rfl (lv_at hl 0 rfl) ?_
        refine va_get (C := RX0) (T := TX0) (N := 8) hx hb hts inX0 hown hK.1 hP 0 rfl rfl 0 (by decide) f9 (fun _ h9 => h9) rfl dX0_letTakePlacesBack_11 ?_
        refine lv_iload_n hx hb dX0_letTakePlacesBack_14 rfl (lv_at hl 1 rfl) ?_
        obtain ⟨z15, hf⟩ := oi hf
        refine a_ild hx hb hK hP 1 rfl z15 i1.toNatClampNeg rfl dX0_letTakePlacesBack_15 ?_
        refine lv_iconst (v := 3) hx hb dX0_letTakePlacesBack_16 (by decide) ?_
        refine lv_icmp_ne (tgt := 56) hx hb dX0_letTakePlacesBack_17 (by decide) (fun c17 => ?_) (fun c17 => ?_)
        · replace hf := iq c17 hf
          refine lv_iinc (v := i1 + (1 : Int32)) (lv' := [(1, .int (i1 + (1 : Int32))), (0, .ref ax)]) hx hb dX0_letTakePlacesBack_56 hl (k := 1) rfl rfl (by decide) rfl (fun ls hl => ?_)
          refine lv_goto (tgt := 2) hx hb dX0_letTakePlacesBack_59 (by decide) ?_
          exact ih2 (i1 + (1 : Int32)) x_away _ _ _ hP hD hS (lv_sub hl [1, 0] rfl) hf
        · replace hf := ip c17 hf
          refine lv_aload_n hx hb dX0_letTakePlacesBack_20 rfl (lv_at hl 0 rfl) ?_
          refine lv_iload_n hx hb dX0_letTakePlacesBack_21 rfl (lv_at hl 1 rfl) ?_
          obtain ⟨r22, q22, hf⟩ := ob hf
          refine k_i (wc := [(ax, .inr (0, [.ref ax_kind, .ref ax_walk, .ref ax_first, .ref ax_second, .ref ax_order, .ref ax_ready, .int x_people, .int x_away]))]) (wr := [(ax_kind, .inl (cyI, 8, .inl x_kind)), (ax_first, .inl (cyI, 8, .inl x_first)), (ax_ready, .inl (cyI, 8, .inl x_ready))]) (w1 := [(ax, .inr (0, [.ref ax_kind, .ref ax_walk, .ref ax_first, .ref ax_second, .ref ax_order, .ref ax_ready, .int x_people, .int x_away]))]) (wn := [(ax, .inr (0, [.ref ax_kind, .ref ax_walk, .ref ax_first, .ref ax_second, .ref ax_order, .ref ax_ready, .int x_people, .int x_away])), (ax_kind, .inl (cyI, 8, .inl x_kind)), (ax_first, .inl (cyI, 8, .inl x_first)), (ax_ready, .inl (cyI, 8, .inl x_ready))]) (va_runV (As := [.int i1]) (rest := []) ⟨hx, hb, hml, hown, hts⟩ (c_X0_isAway l D cyI cyC cyS H.size ax ax_kind ax_walk ax_first ax_second ax_order ax_ready x_people x_away i1 q22) (cwV 1 hts gX0_letTakePlacesBack_X0_isAway rfl rfl rfl (by decide +kernel) ⟨Nat.le_of_ble_eq_true rfl, Nat.le_of_ble_eq_true rfl⟩) (preV (ci := 0) hK (hP.subm (ws' := [(ax, .inr (0, [.ref ax_kind, .ref ax_walk, .ref ax_first, .ref ax_second, .ref ax_order, .ref ax_ready, .int x_people, .int x_away]))]) [0] rfl) (hD.sub (ws' := [(ax, .inr (0, [.ref ax_kind, .ref ax_walk, .ref ax_first, .ref ax_second, .ref ax_order, .ref ax_ready, .int x_people, .int x_away]))]) [0] (by decide) rfl) rfl rfl) rfl rfl hl.1 rfl (lv_room (Nat.le_of_ble_eq_true rfl)) dX0_letTakePlacesBack_22 ⟨Nat.le_of_ble_eq_true rfl, Nat.le_of_ble_eq_true rfl⟩) hP hD hS hA [0] [1, 2, 3] [3, 0, 1, 2] rfl rfl rfl (by decide) (by decide) (by decide) (fun H locs hP hD hS => ?_)
          refine lv_if_eq (tgt := 56) hx hb dX0_letTakePlacesBack_25 (by decide) (fun c25 => ?_) (fun c25 => ?_)
          · replace hf := ip c25 hf
            refine lv_iinc (v := i1 + (1 : Int32)) (lv' := [(1, .int (i1 + (1 : Int32))), (0, .ref ax)]) hx hb dX0_letTakePlacesBack_56 hl (k := 1) rfl rfl (by decide) rfl (fun ls hl => ?_)
            refine lv_goto (tgt := 2) hx hb dX0_letTakePlacesBack_59 (by decide) ?_
            exact ih2 (i1 + (1 : Int32)) x_away _ _ _ hP hD hS (lv_sub hl [1, 0] rfl) hf
          · replace hf := iq c25 hf
            refine lv_aload_n hx hb dX0_letTakePlacesBack_28 rfl (lv_at hl 0 rfl) ?_
            refine lv_iload_n hx hb dX0_letTakePlacesBack_29 rfl (lv_at hl 1 rfl) ?_
            obtain ⟨r30, q30, hf⟩ := ob hf
            refine k_i (wc := [(ax, .inr (0, [.ref ax_kind, .ref ax_walk, .ref ax_first, .ref ax_second, .ref ax_order, .ref ax_ready, .int x_people, .int x_away])), (ax_first, .inl (cyI, 8, .inl x_first))]) (wr := [(ax_kind, .inl (cyI, 8, .inl x_kind)), (ax_ready, .inl (cyI, 8, .inl x_ready))]) (w1 := [(ax, .inr (0, [.ref ax_kind, .ref ax_walk, .ref ax_first, .ref ax_second, .ref ax_order, .ref ax_ready, .int x_people, .int x_away])), (ax_first, .inl (cyI, 8, .inl x_first))]) (wn := [(ax, .inr (0, [.ref ax_kind, .ref ax_walk, .ref ax_first, .ref ax_second, .ref ax_order, .ref ax_ready, .int x_people, .int x_away])), (ax_kind, .inl (cyI, 8, .inl x_kind)), (ax_first, .inl (cyI, 8, .inl x_first)), (ax_ready, .inl (cyI, 8, .inl x_ready))]) (va_runV (As := [.int i1]) (rest := []) ⟨hx, hb, hml, hown, hts⟩ (c_X0_readyInRow l D cyI cyC cyS H.size ax ax_kind ax_walk ax_first ax_second ax_order ax_ready x_people x_away x_first i1 q30) (cwV 1 hts gX0_letTakePlacesBack_X0_readyInRow rfl rfl rfl (by decide +kernel) ⟨Nat.le_of_ble_eq_true rfl, Nat.le_of_ble_eq_true rfl⟩) (preV (ci := 0) hK (hP.subm (ws' := [(ax, .inr (0, [.ref ax_kind, .ref ax_walk, .ref ax_first, .ref ax_second, .ref ax_order, .ref ax_ready, .int x_people, .int x_away])), (ax_first, .inl (cyI, 8, .inl x_first))]) [0, 2] rfl) (hD.sub (ws' := [(ax, .inr (0, [.ref ax_kind, .ref ax_walk, .ref ax_first, .ref ax_second, .ref ax_order, .ref ax_ready, .int x_people, .int x_away])), (ax_first, .inl (cyI, 8, .inl x_first))]) [0, 2] (by decide) rfl) rfl rfl) rfl rfl hl.1 rfl (lv_room (Nat.le_of_ble_eq_true rfl)) dX0_letTakePlacesBack_30 ⟨Nat.le_of_ble_eq_true rfl, Nat.le_of_ble_eq_true rfl⟩) hP hD hS hA [0, 2] [1, 3] [2, 0, 3, 1] rfl rfl rfl (by decide) (by decide) (by decide) (fun H locs hP hD hS => ?_)
            refine lv_aload_n hx hb dX0_letTakePlacesBack_33 rfl (lv_at hl 0 rfl) ?_
            refine va_get (C := RX0) (T := TX0) (N := 8) hx hb hts inX0 hown hK.1 hP 0 rfl rfl 5 (by decide) f27 (fun _ h9 => h9) rfl dX0_letTakePlacesBack_34 ?_
            refine lv_iload_n hx hb dX0_letTakePlacesBack_37 rfl (lv_at hl 1 rfl) ?_
            obtain ⟨z38, hf⟩ := oi hf
            refine a_ild hx hb hK hP 3 rfl z38 i1.toNatClampNeg rfl dX0_letTakePlacesBack_38 ?_
            refine lv_icmp_ge (tgt := 56) hx hb dX0_letTakePlacesBack_39 (by decide) (fun c39 => ?_) (fun c39 => ?_)
            · replace hf := ip c39 hf
              refine lv_iinc (v := i1 + (1 : Int32)) (lv' := [(1, .int (i1 + (1 : Int32))), (0, .ref ax)]) hx hb dX0_letTakePlacesBack_56 hl (k := 1) rfl rfl (by decide) rfl (fun ls hl => ?_)
              refine lv_goto (tgt := 2) hx hb dX0_letTakePlacesBack_59 (by decide) ?_
              exact ih2 (i1 + (1 : Int32)) x_away _ _ _ hP hD hS (lv_sub hl [1, 0] rfl) hf
            · replace hf := iq c39 hf
              refine lv_aload_n hx hb dX0_letTakePlacesBack_42 rfl (lv_at hl 0 rfl) ?_
              refine lv_dup hx hb dX0_letTakePlacesBack_43 rfl ?_
              refine va_get (C := RX0) (T := TX0) (N := 8) hx hb hts inX0 hown hK.1 hP 0 rfl rfl 7 (by decide) f53 (fun _ h9 => h9) rfl dX0_letTakePlacesBack_44 ?_
              refine lv_iconst (v := 1) hx hb dX0_letTakePlacesBack_47 (by decide) ?_
              refine lv_iload_n hx hb dX0_letTakePlacesBack_48 rfl (lv_at hl 1 rfl) ?_
              refine lv_ishl hx hb dX0_letTakePlacesBack_49 ?_
              refine lv_iconst (v := -1) hx hb dX0_letTakePlacesBack_50 (by decide) ?_
              refine lv_ixor hx hb dX0_letTakePlacesBack_51 ?_
              refine lv_iand hx hb dX0_letTakePlacesBack_52 ?_
              refine a_put (C := RX0) (T := TX0) (N := 8) (wn := [(ax, .inr (0, [.ref ax_kind, .ref ax_walk, .ref ax_first, .ref ax_second, .ref ax_order, .ref ax_ready, .int x_people, .int (x_away &&& (((1 : Int32) <<< (i1 &&& 31)) ^^^ (-1 : Int32)))])), (ax_kind, .inl (cyI, 8, .inl x_kind)), (ax_first, .inl (cyI, 8, .inl x_first)), (ax_ready, .inl (cyI, 8, .inl x_ready))]) hx hb hts inX0 tyX0 tyX0_ok nmX0 hown hK hP hD hS 0 rfl rfl 7 (by decide) f53 (fun _ h9 => h9) rfl rfl (Nat.le_of_ble_eq_true rfl) rfl dX0_letTakePlacesBack_53 (fun H locs hP hD hS => ?_)
              refine lv_iinc (v := i1 + (1 : Int32)) (lv' := [(1, .int (i1 + (1 : Int32))), (0, .ref ax)]) hx hb dX0_letTakePlacesBack_56 hl (k := 1) rfl rfl (by decide) rfl (fun ls hl => ?_)
              refine lv_goto (tgt := 2) hx hb dX0_letTakePlacesBack_59 (by decide) ?_
              exact ih2 (i1 + (1 : Int32)) (x_away &&& (((1 : Int32) <<< (i1 &&& 31)) ^^^ (-1 : Int32))) _ _ _ hP hD hS (lv_sub hl [1, 0] rfl) hf
  exact hL2 300 (0 : Int32) x_away _ _ _ hP hD hS (lv_sub hl [1, 0] rfl) hf
abbrev rX0_serveRow : Room := { frames := 1, cells := 0, slots := 0, locals := 21 }
set_option maxHeartbeats 4000000 in
set_option maxRecDepth 100000 in
theorem c_X0_serveRow (l : Launch) (D : va_G) (cyI cyC cyS : ClassId) (sz : Nat) (ax : Nat) (ax_kind : Nat) (ax_walk : Nat) (ax_first : Nat) (ax_second : Nat) (ax_order : Nat) (ax_ready : Nat) (x_people : Int32) (x_away : Int32) (x_first : Nat → Int32) (x_ready : Nat → Int32) {o_x_ready : Nat → Int32} (hf : S_X0_serveRow x_people x_away x_first x_ready = some o_x_ready) : Met l yX0_serveRow wsX0_serveRow rX0_serveRow (Cpre [.ref ax] D cyI cyC cyS sz [(ax, .inr (0, [.ref ax_kind, .ref ax_walk, .ref ax_first, .ref ax_second, .ref ax_order, .ref ax_ready, .int x_people, .int x_away])), (ax_first, .inl (cyI, 8, .inl x_first)), (ax_ready, .inl (cyI, 8, .inl x_ready))]) (CQv D [(ax, .inr (0, [.ref ax_kind, .ref ax_walk, .ref ax_first, .ref ax_second, .ref ax_order, .ref ax_ready, .int x_people, .int x_away])), (ax_first, .inl (cyI, 8, .inl x_first)), (ax_ready, .inl (cyI, 8, .inl o_x_ready))] (va_A [(ax, .inr (0, [.ref ax_kind, .ref ax_walk, .ref ax_first, .ref ax_second, .ref ax_order, .ref ax_ready, .int x_people, .int x_away])), (ax_first, .inl (cyI, 8, .inl x_first)), (ax_ready, .inl (cyI, 8, .inl x_ready))] sz)) 0 0 (va_A [(ax, .inr (0, [.ref ax_kind, .ref ax_walk, .ref ax_first, .ref ax_second, .ref ax_order, .ref ax_ready, .int x_people, .int x_away])), (ax_first, .inl (cyI, 8, .inl x_first)), (ax_ready, .inl (cyI, 8, .inl x_ready))] sz) := by
  refine Met.ofW (cc := cX0_serveRow) (maxL := 3) (ret := none) (by decide) rfl ?_
  intro p e s m args below meth c s₁ B hml hv
  obtain ⟨rfl, hsz, hP, hK, hD0⟩ := hv
  have hx := B.exec
  have hb := B.bytes
  have hr := B.returns
  have hts := atoms_spec (ws := wsX0_serveRow) B.pre
  have hown : s.vm.findClass RX0 = some m.cls := findClass_of_methodNamed B.named
  have hlocks := B.notSynchronized
  subst hsz
  have hD := hD0.self (sz := s.heap.size)
  generalize hAe : va_A [(ax, .inr (0, [.ref ax_kind, .ref ax_walk, .ref ax_first, .ref ax_second, .ref ax_order, .ref ax_ready, .int x_people, .int x_away])), (ax_first, .inl (cyI, 8, .inl x_first)), (ax_ready, .inl (cyI, 8, .inl x_ready))] s.heap.size = A at hD ⊢
  have hA : ∀ q : Nat, s.heap.size ≤ q → A q := fun q h => by rw [← hAe]; exact Or.inr h
  have hS : va_S A s.heap s.heap [] := va_S.rf
  have hl := lv_entry ([.ref ax]) (n := 3) (Nat.le_of_ble_eq_true rfl)
  rw [lg_entry_eq]
  generalize (lg_sl ([.ref ax]) ++ List.replicate (3 - (lg_sl ([.ref ax])).length) Slot.unset).toArray = ls at hl ⊢
  have hl : lv_has ls 3 [(0, .ref ax)] := hl
  have f36 := hts (.fieldLink RX0 36 "SecondTill$Crossing" "people" "I") (by decide +kernel)
  have inX0 : ∀ w ∈ u_ws RX0 TX0 8, w ∈ wsX0_serveRow := by decide +kernel
  have f18 := hts (.fieldLink RX0 18 "SecondTill$Crossing" "first" "[I") (by decide +kernel)
  have f27 := hts (.fieldLink RX0 27 "SecondTill$Crossing" "ready" "[I") (by decide +kernel)
  unfold S_X0_serveRow at hf
  have hP : va_P D vwCl [(ax, .inr (0, [.ref ax_kind, .ref ax_walk, .ref ax_first, .ref ax_second, .ref ax_order, .ref ax_ready, .int x_people, .int x_away])), (ax_first, .inl (cyI, 8, .inl x_first)), (ax_ready, .inl (cyI, 8, .inl x_ready))] s.heap := hP
  suffices hgo : ∀ (H : Heap) (locs : List Loc), va_P D vwCl [(ax, .inr (0, [.ref ax_kind, .ref ax_walk, .ref ax_first, .ref ax_second, .ref ax_order, .ref ax_ready, .int x_people, .int x_away])), (ax_first, .inl (cyI, 8, .inl x_first)), (ax_ready, .inl (cyI, 8, .inl x_ready))] H → va_S A s.heap H locs → W p l e rX0_serveRow s m (([.ref ax] : List Value).toArray) below meth c H locs 0 0 (MQ below (CQv D [(ax, .inr (0, [.ref ax_kind, .ref ax_walk, .ref ax_first, .ref ax_second, .ref ax_order, .ref ax_ready, .int x_people, .int x_away])), (ax_first, .inl (cyI, 8, .inl x_first)), (ax_ready, .inl (cyI, 8, .inl o_x_ready))] A) (([.ref ax] : List Value).toArray) s 0 0 A) (F0 m 0 ls []) from hgo _ _ hP hS
  clear hP hS
  intro H locs hP hS
  refine lv_iconst (v := 0) hx hb dX0_serveRow_0 (by decide) ?_
  refine lv_istore_n (lv' := [(1, .int (0 : Int32)), (0, .ref ax)]) hx hb dX0_serveRow_1 rfl hl (by decide) rfl (fun ls hl => ?_)
  refine lv_iconst (v := 0) hx hb dX0_serveRow_2 (by decide) ?_
  refine lv_istore_n (lv' := [(2, .int (0 : Int32)), (1, .int (0 : Int32)), (0, .ref ax)]) hx hb dX0_serveRow_3 rfl hl (by decide) rfl (fun ls hl => ?_)
  have hL4 : ∀ (n4 : Nat) (i1 : Int32) (i2 : Int32) (x_ready : Nat → Int32) (H : Heap) (locs : List Loc) (ls : Array Slot), va_P D vwCl [(ax, .inr (0, [.ref ax_kind, .ref ax_walk, .ref ax_first, .ref ax_second, .ref ax_order, .ref ax_ready, .int x_people, .int x_away])), (ax_first, .inl (cyI, 8, .inl x_first)), (ax_ready, .inl (cyI, 8, .inl x_ready))] H → va_D A [(ax, .inr (0, [.ref ax_kind, .ref ax_walk, .ref ax_first, .ref ax_second, .ref ax_order, .ref ax_ready, .int x_people, .int x_away])), (ax_first, .inl (cyI, 8, .inl x_first)), (ax_ready, .inl (cyI, 8, .inl x_ready))] → va_S A s.heap H locs → lv_has ls 3 [(0, .ref ax), (1, .int i1), (2, .int i2)] → S_X0_serveRow_L4 x_people x_away x_first n4 i1 i2 x_ready = some o_x_ready → W p l e rX0_serveRow s m (([.ref ax] : List Value).toArray) below meth c H locs 0 0 (MQ below (CQv D [(ax, .inr (0, [.ref ax_kind, .ref ax_walk, .ref ax_first, .ref ax_second, .ref ax_order, .ref ax_ready, .int x_people, .int x_away])), (ax_first, .inl (cyI, 8, .inl x_first)), (ax_ready, .inl (cyI, 8, .inl o_x_ready))] A) (([.ref ax] : List Value).toArray) s 0 0 A) (F0 m 4 ls []) := by
    intro n4
    induction n4 with
    | zero => intro i1 i2 x_ready H locs ls hP hD hS hl hf; exact absurd hf (by simp [S_X0_serveRow_L4])
    | succ n4 ih4 =>
      intro i1 i2 x_ready H locs ls hP hD hS hl hf
      rw [S_X0_serveRow_L4] at hf
      refine lv_iload_n hx hb dX0_serveRow_4 rfl (lv_at hl 2 rfl) ?_
      refine lv_aload_n hx hb dX0_serveRow_5 rfl (lv_at hl 0 rfl) ?_
      refine va_get (C := RX0) (T := TX0) (N := 8) hx hb hts inX0 hown hK.1 hP 0 rfl rfl 6 (by decide) f36 (fun _ h9 => h9) rfl dX0_serveRow_6 ?_
      refine lv_icmp_ge (tgt := 42) hx hb dX0_serveRow_9 (by decide) (fun c9 => ?_) (fun c9 => ?_)
      · replace hf := ip c9 hf
        obtain rfl := Option.some.inj hf
        exact W.vret hx hb hr (fun t ht hW => ⟨⟨(), rfl, trivial, by rw [ht]; exact hP, hD⟩, hS.F ht⟩) hS.2.2 dX0_serveRow_42
      · replace hf := iq c9 hf
        refine lv_aload_n hx hb dX0_serveRow_12 rfl (lv_at hl 0 rfl) ?_
        refine lv_iload_n hx hb dX0_serveRow_13 rfl (lv_at hl 2 rfl) ?_
        obtain ⟨r14, q14, hf⟩ := ob hf
        refine k_i (wc := [(ax, .inr (0, [.ref ax_kind, .ref ax_walk, .ref ax_first, .ref ax_second, .ref ax_order, .ref ax_ready, .int x_people, .int x_away]))]) (wr := [(ax_first, .inl (cyI, 8, .inl x_first)), (ax_ready, .inl (cyI, 8, .inl x_ready))]) (w1 := [(ax, .inr (0, [.ref ax_kind, .ref ax_walk, .ref ax_first, .ref ax_second, .ref ax_order, .ref ax_ready, .int x_people, .int x_away]))]) (wn := [(ax, .inr (0, [.ref ax_kind, .ref ax_walk, .ref ax_first, .ref ax_second, .ref ax_order, .ref ax_ready, .int x_people, .int x_away])), (ax_first, .inl (cyI, 8, .inl x_first)), (ax_ready, .inl (cyI, 8, .inl x_ready))]) (va_runV (As := [.int i2]) (rest := []) ⟨hx, hb, hml, hown, hts⟩ (c_X0_isAway l D cyI cyC cyS H.size ax ax_kind ax_walk ax_first ax_second ax_order ax_ready x_people x_away i2 q14) (cwV 1 hts gX0_serveRow_X0_isAway rfl rfl rfl (by decide +kernel) ⟨Nat.le_of_ble_eq_true rfl, Nat.le_of_ble_eq_true rfl⟩) (preV (ci := 0) hK (hP.subm (ws' := [(ax, .inr (0, [.ref ax_kind, .ref ax_walk, .ref ax_first, .ref ax_second, .ref ax_order, .ref ax_ready, .int x_people, .int x_away]))]) [0] rfl) (hD.sub (ws' := [(ax, .inr (0, [.ref ax_kind, .ref ax_walk, .ref ax_first, .ref ax_second, .ref ax_order, .ref ax_ready, .int x_people, .int x_away]))]) [0] (by decide) rfl) rfl rfl) rfl rfl hl.1 rfl (lv_room (Nat.le_of_ble_eq_true rfl)) dX0_serveRow_14 ⟨Nat.le_of_ble_eq_true rfl, Nat.le_of_ble_eq_true rfl⟩) hP hD hS hA [0] [1, 2] [2, 0, 1] rfl rfl rfl (by decide) (by decide) (by decide) (fun H locs hP hD hS => ?_)
        refine lv_if_ne (tgt := 36) hx hb dX0_serveRow_17 (by decide) (fun c17 => ?_) (fun c17 => ?_)
        · replace hf := iq c17 hf
          refine lv_iinc (v := i2 + (1 : Int32)) (lv' := [(2, .int (i2 + (1 : Int32))), (0, .ref ax), (1, .int i1)]) hx hb dX0_serveRow_36 hl (k := 2) rfl rfl (by decide) rfl (fun ls hl => ?_)
          refine lv_goto (tgt := 4) hx hb dX0_serveRow_39 (by decide) ?_
          exact ih4 i1 (i2 + (1 : Int32)) x_ready _ _ _ hP hD hS (lv_sub hl [1, 2, 0] rfl) hf
        · replace hf := ip c17 hf
          refine lv_iload_n hx hb dX0_serveRow_20 rfl (lv_at hl 1 rfl) ?_
          refine lv_aload_n hx hb dX0_serveRow_21 rfl (lv_at hl 0 rfl) ?_
          refine va_get (C := RX0) (T := TX0) (N := 8) hx hb hts inX0 hown hK.1 hP 0 rfl rfl 2 (by decide) f18 (fun _ h9 => h9) rfl dX0_serveRow_22 ?_
          refine lv_iload_n hx hb dX0_serveRow_25 rfl (lv_at hl 2 rfl) ?_
          obtain ⟨z26, hf⟩ := oi hf
          refine a_ild hx hb hK hP 1 rfl z26 i2.toNatClampNeg rfl dX0_serveRow_26 ?_
          refine lv_iadd hx hb dX0_serveRow_27 ?_
          refine lv_istore_n (lv' := [(1, .int (i1 + (x_first i2.toNatClampNeg))), (0, .ref ax), (2, .int i2)]) hx hb dX0_serveRow_28 rfl hl (by decide) rfl (fun ls hl => ?_)
          refine lv_aload_n hx hb dX0_serveRow_29 rfl (lv_at hl 1 rfl) ?_
          refine va_get (C := RX0) (T := TX0) (N := 8) hx hb hts inX0 hown hK.1 hP 0 rfl rfl 5 (by decide) f27 (fun _ h9 => h9) rfl dX0_serveRow_30 ?_
          refine lv_iload_n hx hb dX0_serveRow_33 rfl (lv_at hl 2 rfl) ?_
          refine lv_iload_n hx hb dX0_serveRow_34 rfl (lv_at hl 0 rfl) ?_
          obtain ⟨z35, hf⟩ := oi hf
          refine a_ist (wn := [(ax, .inr (0, [.ref ax_kind, .ref ax_walk, .ref ax_first, .ref ax_second, .ref ax_order, .ref ax_ready, .int x_people, .int x_away])), (ax_first, .inl (cyI, 8, .inl x_first)), (ax_ready, .inl (cyI, 8, .inl (upd x_ready i2.toNatClampNeg (i1 + (x_first i2.toNatClampNeg)))))]) hx hb hK hP hD hS 2 rfl z35 i2.toNatClampNeg rfl rfl dX0_serveRow_35 (fun H locs hP hD hS => ?_)
          refine lv_iinc (v := i2 + (1 : Int32)) (lv' := [(2, .int (i2 + (1 : Int32))), (1, .int (i1 + (x_first i2.toNatClampNeg))), (0, .ref ax)]) hx hb dX0_serveRow_36 hl (k := 2) rfl rfl (by decide) rfl (fun ls hl => ?_)
          refine lv_goto (tgt := 4) hx hb dX0_serveRow_39 (by decide) ?_
          exact ih4 (i1 + (x_first i2.toNatClampNeg)) (i2 + (1 : Int32)) (upd x_ready i2.toNatClampNeg (i1 + (x_first i2.toNatClampNeg))) _ _ _ hP hD hS (lv_sub hl [2, 1, 0] rfl) hf
  exact hL4 300 (0 : Int32) (0 : Int32) x_ready _ _ _ hP hD hS (lv_sub hl [2, 1, 0] rfl) hf
abbrev rX0_letDecide : Room := { frames := 3, cells := 0, slots := 0, locals := 66 }
set_option maxHeartbeats 4000000 in
set_option maxRecDepth 100000 in
theorem c_X0_letDecide (l : Launch) (D : va_G) (cyI cyC cyS : ClassId) (sz : Nat) (ax : Nat) (ax_kind : Nat) (ax_walk : Nat) (ax_first : Nat) (ax_second : Nat) (ax_order : Nat) (ax_ready : Nat) (x_people : Int32) (x_away : Int32) (x_order : Nat → Int32) (x_walk : Nat → Int32) (x_second : Nat → Int32) (x_kind : Nat → Int32) (x_first : Nat → Int32) (x_ready : Nat → Int32) {o_x_away : Int32} {o_x_ready : Nat → Int32} (hf : S_X0_letDecide x_people x_order x_walk x_second x_kind x_first x_ready = some (o_x_away, o_x_ready)) : Met l yX0_letDecide wsX0_letDecide rX0_letDecide (Cpre [.ref ax] D cyI cyC cyS sz [(ax, .inr (0, [.ref ax_kind, .ref ax_walk, .ref ax_first, .ref ax_second, .ref ax_order, .ref ax_ready, .int x_people, .int x_away])), (ax_order, .inl (cyI, 8, .inl x_order)), (ax_walk, .inl (cyI, 8, .inl x_walk)), (ax_second, .inl (cyI, 8, .inl x_second)), (ax_kind, .inl (cyI, 8, .inl x_kind)), (ax_first, .inl (cyI, 8, .inl x_first)), (ax_ready, .inl (cyI, 8, .inl x_ready))]) (CQv D [(ax, .inr (0, [.ref ax_kind, .ref ax_walk, .ref ax_first, .ref ax_second, .ref ax_order, .ref ax_ready, .int x_people, .int o_x_away])), (ax_order, .inl (cyI, 8, .inl x_order)), (ax_walk, .inl (cyI, 8, .inl x_walk)), (ax_second, .inl (cyI, 8, .inl x_second)), (ax_kind, .inl (cyI, 8, .inl x_kind)), (ax_first, .inl (cyI, 8, .inl x_first)), (ax_ready, .inl (cyI, 8, .inl o_x_ready))] (va_A [(ax, .inr (0, [.ref ax_kind, .ref ax_walk, .ref ax_first, .ref ax_second, .ref ax_order, .ref ax_ready, .int x_people, .int x_away])), (ax_order, .inl (cyI, 8, .inl x_order)), (ax_walk, .inl (cyI, 8, .inl x_walk)), (ax_second, .inl (cyI, 8, .inl x_second)), (ax_kind, .inl (cyI, 8, .inl x_kind)), (ax_first, .inl (cyI, 8, .inl x_first)), (ax_ready, .inl (cyI, 8, .inl x_ready))] sz)) 0 0 (va_A [(ax, .inr (0, [.ref ax_kind, .ref ax_walk, .ref ax_first, .ref ax_second, .ref ax_order, .ref ax_ready, .int x_people, .int x_away])), (ax_order, .inl (cyI, 8, .inl x_order)), (ax_walk, .inl (cyI, 8, .inl x_walk)), (ax_second, .inl (cyI, 8, .inl x_second)), (ax_kind, .inl (cyI, 8, .inl x_kind)), (ax_first, .inl (cyI, 8, .inl x_first)), (ax_ready, .inl (cyI, 8, .inl x_ready))] sz) := by
  refine Met.ofW (cc := cX0_letDecide) (maxL := 5) (ret := none) (by decide) rfl ?_
  intro p e s m args below meth c s₁ B hml hv
  obtain ⟨rfl, hsz, hP, hK, hD0⟩ := hv
  have hx := B.exec
  have hb := B.bytes
  have hr := B.returns
  have hts := atoms_spec (ws := wsX0_letDecide) B.pre
  have hown : s.vm.findClass RX0 = some m.cls := findClass_of_methodNamed B.named
  have hlocks := B.notSynchronized
  subst hsz
  have hD := hD0.self (sz := s.heap.size)
  generalize hAe : va_A [(ax, .inr (0, [.ref ax_kind, .ref ax_walk, .ref ax_first, .ref ax_second, .ref ax_order, .ref ax_ready, .int x_people, .int x_away])), (ax_order, .inl (cyI, 8, .inl x_order)), (ax_walk, .inl (cyI, 8, .inl x_walk)), (ax_second, .inl (cyI, 8, .inl x_second)), (ax_kind, .inl (cyI, 8, .inl x_kind)), (ax_first, .inl (cyI, 8, .inl x_first)), (ax_ready, .inl (cyI, 8, .inl x_ready))] s.heap.size = A at hD ⊢
  have hA : ∀ q : Nat, s.heap.size ≤ q → A q := fun q h => by rw [← hAe]; exact Or.inr h
  have hS : va_S A s.heap s.heap [] := va_S.rf
  have hl := lv_entry ([.ref ax]) (n := 5) (Nat.le_of_ble_eq_true rfl)
  rw [lg_entry_eq]
  generalize (lg_sl ([.ref ax]) ++ List.replicate (5 - (lg_sl ([.ref ax])).length) Slot.unset).toArray = ls at hl ⊢
  have hl : lv_has ls 5 [(0, .ref ax)] := hl
  have f53 := hts (.fieldLink RX0 53 "SecondTill$Crossing" "away" "I") (by decide +kernel)
  have inX0 : ∀ w ∈ u_ws RX0 TX0 8, w ∈ wsX0_letDecide := by decide +kernel
  have f36 := hts (.fieldLink RX0 36 "SecondTill$Crossing" "people" "I") (by decide +kernel)
  have f24 := hts (.fieldLink RX0 24 "SecondTill$Crossing" "order" "[I") (by decide +kernel)
  have f15 := hts (.fieldLink RX0 15 "SecondTill$Crossing" "walk" "[I") (by decide +kernel)
  have mx1 := hts (.methodLink RX0 56 Lib.Math.max.name) (by decide +kernel)
  have mx2 := hts (.static Lib.Math.max.name) (by decide +kernel)
  have mx3 := hts (.initialized "java/lang/Math") (by decide +kernel)
  have mx4 := hts (.code Lib.Math.max.name Lib.Math.max.code 2 (some .int)) (by decide +kernel)
  have f21 := hts (.fieldLink RX0 21 "SecondTill$Crossing" "second" "[I") (by decide +kernel)
  have f27 := hts (.fieldLink RX0 27 "SecondTill$Crossing" "ready" "[I") (by decide +kernel)
  unfold S_X0_letDecide at hf
  have hP : va_P D vwCl [(ax, .inr (0, [.ref ax_kind, .ref ax_walk, .ref ax_first, .ref ax_second, .ref ax_order, .ref ax_ready, .int x_people, .int x_away])), (ax_order, .inl (cyI, 8, .inl x_order)), (ax_walk, .inl (cyI, 8, .inl x_walk)), (ax_second, .inl (cyI, 8, .inl x_second)), (ax_kind, .inl (cyI, 8, .inl x_kind)), (ax_first, .inl (cyI, 8, .inl x_first)), (ax_ready, .inl (cyI, 8, .inl x_ready))] s.heap := hP
  suffices hgo : ∀ (H : Heap) (locs : List Loc), va_P D vwCl [(ax, .inr (0, [.ref ax_kind, .ref ax_walk, .ref ax_first, .ref ax_second, .ref ax_order, .ref ax_ready, .int x_people, .int x_away])), (ax_order, .inl (cyI, 8, .inl x_order)), (ax_walk, .inl (cyI, 8, .inl x_walk)), (ax_second, .inl (cyI, 8, .inl x_second)), (ax_kind, .inl (cyI, 8, .inl x_kind)), (ax_first, .inl (cyI, 8, .inl x_first)), (ax_ready, .inl (cyI, 8, .inl x_ready))] H → va_S A s.heap H locs → W p l e rX0_letDecide s m (([.ref ax] : List Value).toArray) below meth c H locs 0 0 (MQ below (CQv D [(ax, .inr (0, [.ref ax_kind, .ref ax_walk, .ref ax_first, .ref ax_second, .ref ax_order, .ref ax_ready, .int x_people, .int o_x_away])), (ax_order, .inl (cyI, 8, .inl x_order)), (ax_walk, .inl (cyI, 8, .inl x_walk)), (ax_second, .inl (cyI, 8, .inl x_second)), (ax_kind, .inl (cyI, 8, .inl x_kind)), (ax_first, .inl (cyI, 8, .inl x_first)), (ax_ready, .inl (cyI, 8, .inl o_x_ready))] A) (([.ref ax] : List Value).toArray) s 0 0 A) (F0 m 0 ls []) from hgo _ _ hP hS
  clear hP hS
  intro H locs hP hS
  refine lv_aload_n hx hb dX0_letDecide_0 rfl (lv_at hl 0 rfl) ?_
  refine lv_iconst (v := 0) hx hb dX0_letDecide_1 (by decide) ?_
  refine a_put (C := RX0) (T := TX0) (N := 8) (wn := [(ax, .inr (0, [.ref ax_kind, .ref ax_walk, .ref ax_first, .ref ax_second, .ref ax_order, .ref ax_ready, .int x_people, .int (0 : Int32)])), (ax_order, .inl (cyI, 8, .inl x_order)), (ax_walk, .inl (cyI, 8, .inl x_walk)), (ax_second, .inl (cyI, 8, .inl x_second)), (ax_kind, .inl (cyI, 8, .inl x_kind)), (ax_first, .inl (cyI, 8, .inl x_first)), (ax_ready, .inl (cyI, 8, .inl x_ready))]) hx hb hts inX0 tyX0 tyX0_ok nmX0 hown hK hP hD hS 0 rfl rfl 7 (by decide) f53 (fun _ h9 => h9) rfl rfl (Nat.le_of_ble_eq_true rfl) rfl dX0_letDecide_2 (fun H locs hP hD hS => ?_)
  refine lv_iconst (v := 0) hx hb dX0_letDecide_5 (by decide) ?_
  refine lv_istore_n (lv' := [(1, .int (0 : Int32)), (0, .ref ax)]) hx hb dX0_letDecide_6 rfl hl (by decide) rfl (fun ls hl => ?_)
  refine lv_iconst (v := 0) hx hb dX0_letDecide_7 (by decide) ?_
  refine lv_istore_n (lv' := [(2, .int (0 : Int32)), (1, .int (0 : Int32)), (0, .ref ax)]) hx hb dX0_letDecide_8 rfl hl (by decide) rfl (fun ls hl => ?_)
  have hL9 : ∀ (n9 : Nat) (i1 : Int32) (i2 : Int32) (x_away : Int32) (x_ready : Nat → Int32) (H : Heap) (locs : List Loc) (ls : Array Slot), va_P D vwCl [(ax, .inr (0, [.ref ax_kind, .ref ax_walk, .ref ax_first, .ref ax_second, .ref ax_order, .ref ax_ready, .int x_people, .int x_away])), (ax_order, .inl (cyI, 8, .inl x_order)), (ax_walk, .inl (cyI, 8, .inl x_walk)), (ax_second, .inl (cyI, 8, .inl x_second)), (ax_kind, .inl (cyI, 8, .inl x_kind)), (ax_first, .inl (cyI, 8, .inl x_first)), (ax_ready, .inl (cyI, 8, .inl x_ready))] H → va_D A [(ax, .inr (0, [.ref ax_kind, .ref ax_walk, .ref ax_first, .ref ax_second, .ref ax_order, .ref ax_ready, .int x_people, .int x_away])), (ax_order, .inl (cyI, 8, .inl x_order)), (ax_walk, .inl (cyI, 8, .inl x_walk)), (ax_second, .inl (cyI, 8, .inl x_second)), (ax_kind, .inl (cyI, 8, .inl x_kind)), (ax_first, .inl (cyI, 8, .inl x_first)), (ax_ready, .inl (cyI, 8, .inl x_ready))] → va_S A s.heap H locs → lv_has ls 5 [(0, .ref ax), (1, .int i1), (2, .int i2)] → S_X0_letDecide_L9 x_people x_order x_walk x_second x_kind x_first n9 i1 i2 x_away x_ready = some (o_x_away, o_x_ready) → W p l e rX0_letDecide s m (([.ref ax] : List Value).toArray) below meth c H locs 0 0 (MQ below (CQv D [(ax, .inr (0, [.ref ax_kind, .ref ax_walk, .ref ax_first, .ref ax_second, .ref ax_order, .ref ax_ready, .int x_people, .int o_x_away])), (ax_order, .inl (cyI, 8, .inl x_order)), (ax_walk, .inl (cyI, 8, .inl x_walk)), (ax_second, .inl (cyI, 8, .inl x_second)), (ax_kind, .inl (cyI, 8, .inl x_kind)), (ax_first, .inl (cyI, 8, .inl x_first)), (ax_ready, .inl (cyI, 8, .inl o_x_ready))] A) (([.ref ax] : List Value).toArray) s 0 0 A) (F0 m 9 ls []) := by
    intro n9
    induction n9 with
    | zero => intro i1 i2 x_away x_ready H locs ls hP hD hS hl hf; exact absurd hf (by simp [S_X0_letDecide_L9])
    | succ n9 ih9 =>
      intro i1 i2 x_away x_ready H locs ls hP hD hS hl hf
      rw [S_X0_letDecide_L9] at hf
      refine lv_iload_n hx hb dX0_letDecide_9 rfl (lv_at hl 2 rfl) ?_
      refine lv_aload_n hx hb dX0_letDecide_10 rfl (lv_at hl 0 rfl) ?_
      refine va_get (C := RX0) (T := TX0) (N := 8) hx hb hts inX0 hown hK.1 hP 0 rfl rfl 6 (by decide) f36 (fun _ h9 => h9) rfl dX0_letDecide_11 ?_
      refine lv_icmp_ge (tgt := 82) hx hb dX0_letDecide_14 (by decide) (fun c14 => ?_) (fun c14 => ?_)
      · replace hf := ip c14 hf
        refine lv_aload_n hx hb dX0_letDecide_82 rfl (lv_at hl 0 rfl) ?_
        obtain ⟨x_away_o83, q83, hf⟩ := ob hf
        refine k_v (wc := [(ax, .inr (0, [.ref ax_kind, .ref ax_walk, .ref ax_first, .ref ax_second, .ref ax_order, .ref ax_ready, .int x_people, .int x_away])), (ax_kind, .inl (cyI, 8, .inl x_kind)), (ax_first, .inl (cyI, 8, .inl x_first)), (ax_ready, .inl (cyI, 8, .inl x_ready))]) (wr := [(ax_order, .inl (cyI, 8, .inl x_order)), (ax_walk, .inl (cyI, 8, .inl x_walk)), (ax_second, .inl (cyI, 8, .inl x_second))]) (w1 := [(ax, .inr (0, [.ref ax_kind, .ref ax_walk, .ref ax_first, .ref ax_second, .ref ax_order, .ref ax_ready, .int x_people, .int x_away_o83])), (ax_kind, .inl (cyI, 8, .inl x_kind)), (ax_first, .inl (cyI, 8, .inl x_first)), (ax_ready, .inl (cyI, 8, .inl x_ready))]) (wn := [(ax, .inr (0, [.ref ax_kind, .ref ax_walk, .ref ax_first, .ref ax_second, .ref ax_order, .ref ax_ready, .int x_people, .int x_away_o83])), (ax_order, .inl (cyI, 8, .inl x_order)), (ax_walk, .inl (cyI, 8, .inl x_walk)), (ax_second, .inl (cyI, 8, .inl x_second)), (ax_kind, .inl (cyI, 8, .inl x_kind)), (ax_first, .inl (cyI, 8, .inl x_first)), (ax_ready, .inl (cyI, 8, .inl x_ready))]) (va_runV (As := []) (rest := []) ⟨hx, hb, hml, hown, hts⟩ (c_X0_letTakePlacesBack l D cyI cyC cyS H.size ax ax_kind ax_walk ax_first ax_second ax_order ax_ready x_people x_away x_kind x_first x_ready q83) (cwV 0 hts gX0_letDecide_X0_letTakePlacesBack rfl rfl rfl (by decide +kernel) ⟨Nat.le_of_ble_eq_true rfl, Nat.le_of_ble_eq_true rfl⟩) (preV (ci := 0) hK (hP.subm (ws' := [(ax, .inr (0, [.ref ax_kind, .ref ax_walk, .ref ax_first, .ref ax_second, .ref ax_order, .ref ax_ready, .int x_people, .int x_away])), (ax_kind, .inl (cyI, 8, .inl x_kind)), (ax_first, .inl (cyI, 8, .inl x_first)), (ax_ready, .inl (cyI, 8, .inl x_ready))]) [0, 4, 5, 6] rfl) (hD.sub (ws' := [(ax, .inr (0, [.ref ax_kind, .ref ax_walk, .ref ax_first, .ref ax_second, .ref ax_order, .ref ax_ready, .int x_people, .int x_away])), (ax_kind, .inl (cyI, 8, .inl x_kind)), (ax_first, .inl (cyI, 8, .inl x_first)), (ax_ready, .inl (cyI, 8, .inl x_ready))]) [0, 4, 5, 6] (by decide) rfl) rfl rfl) rfl rfl hl.1 rfl (lv_room (Nat.le_of_ble_eq_true rfl)) dX0_letDecide_83 ⟨Nat.le_of_ble_eq_true rfl, Nat.le_of_ble_eq_true rfl⟩) hP hD hS hA [0, 4, 5, 6] [1, 2, 3] [3, 0, 1, 2, 4, 5, 6] rfl rfl rfl (by decide) (by decide) (by decide) (fun H locs hP hD hS => ?_)
        refine lv_aload_n hx hb dX0_letDecide_86 rfl (lv_at hl 0 rfl) ?_
        obtain ⟨x_ready_o87, q87, hf⟩ := ob hf
        refine k_v (wc := [(ax, .inr (0, [.ref ax_kind, .ref ax_walk, .ref ax_first, .ref ax_second, .ref ax_order, .ref ax_ready, .int x_people, .int x_away_o83])), (ax_first, .inl (cyI, 8, .inl x_first)), (ax_ready, .inl (cyI, 8, .inl x_ready))]) (wr := [(ax_order, .inl (cyI, 8, .inl x_order)), (ax_walk, .inl (cyI, 8, .inl x_walk)), (ax_second, .inl (cyI, 8, .inl x_second)), (ax_kind, .inl (cyI, 8, .inl x_kind))]) (w1 := [(ax, .inr (0, [.ref ax_kind, .ref ax_walk, .ref ax_first, .ref ax_second, .ref ax_order, .ref ax_ready, .int x_people, .int x_away_o83])), (ax_first, .inl (cyI, 8, .inl x_first)), (ax_ready, .inl (cyI, 8, .inl x_ready_o87))]) (wn := [(ax, .inr (0, [.ref ax_kind, .ref ax_walk, .ref ax_first, .ref ax_second, .ref ax_order, .ref ax_ready, .int x_people, .int x_away_o83])), (ax_order, .inl (cyI, 8, .inl x_order)), (ax_walk, .inl (cyI, 8, .inl x_walk)), (ax_second, .inl (cyI, 8, .inl x_second)), (ax_kind, .inl (cyI, 8, .inl x_kind)), (ax_first, .inl (cyI, 8, .inl x_first)), (ax_ready, .inl (cyI, 8, .inl x_ready_o87))]) (va_runV (As := []) (rest := []) ⟨hx, hb, hml, hown, hts⟩ (c_X0_serveRow l D cyI cyC cyS H.size ax ax_kind ax_walk ax_first ax_second ax_order ax_ready x_people x_away_o83 x_first x_ready q87) (cwV 0 hts gX0_letDecide_X0_serveRow rfl rfl rfl (by decide +kernel) ⟨Nat.le_of_ble_eq_true rfl, Nat.le_of_ble_eq_true rfl⟩) (preV (ci := 0) hK (hP.subm (ws' := [(ax, .inr (0, [.ref ax_kind, .ref ax_walk, .ref ax_first, .ref ax_second, .ref ax_order, .ref ax_ready, .int x_people, .int x_away_o83])), (ax_first, .inl (cyI, 8, .inl x_first)), (ax_ready, .inl (cyI, 8, .inl x_ready))]) [0, 5, 6] rfl) (hD.sub (ws' := [(ax, .inr (0, [.ref ax_kind, .ref ax_walk, .ref ax_first, .ref ax_second, .ref ax_order, .ref ax_ready, .int x_people, .int x_away_o83])), (ax_first, .inl (cyI, 8, .inl x_first)), (ax_ready, .inl (cyI, 8, .inl x_ready))]) [0, 5, 6] (by decide) rfl) rfl rfl) rfl rfl hl.1 rfl (lv_room (Nat.le_of_ble_eq_true rfl)) dX0_letDecide_87 ⟨Nat.le_of_ble_eq_true rfl, Nat.le_of_ble_eq_true rfl⟩) hP hD hS hA [0, 5, 6] [1, 2, 3, 4] [4, 0, 1, 2, 3, 5, 6] rfl rfl rfl (by decide) (by decide) (by decide) (fun H locs hP hD hS => ?_)
        simp only [Option.some.injEq, Prod.mk.injEq] at hf
        obtain ⟨rfl, rfl⟩ := hf
        exact W.vret hx hb hr (fun t ht hW => ⟨⟨(), rfl, trivial, by rw [ht]; exact hP, hD⟩, hS.F ht⟩) hS.2.2 dX0_letDecide_90
      · replace hf := iq c14 hf
        refine lv_aload_n hx hb dX0_letDecide_17 rfl (lv_at hl 0 rfl) ?_
        refine va_get (C := RX0) (T := TX0) (N := 8) hx hb hts inX0 hown hK.1 hP 0 rfl rfl 4 (by decide) f24 (fun _ h9 => h9) rfl dX0_letDecide_18 ?_
        refine lv_iload_n hx hb dX0_letDecide_21 rfl (lv_at hl 2 rfl) ?_
        obtain ⟨z22, hf⟩ := oi hf
        refine a_ild hx hb hK hP 1 rfl z22 i2.toNatClampNeg rfl dX0_letDecide_22 ?_
        refine lv_istore_n (lv' := [(3, .int (x_order i2.toNatClampNeg)), (0, .ref ax), (1, .int i1), (2, .int i2)]) hx hb dX0_letDecide_23 rfl hl (by decide) rfl (fun ls hl => ?_)
        refine lv_iload_n hx hb dX0_letDecide_24 rfl (lv_at hl 2 rfl) ?_
        refine lv_aload_n hx hb dX0_letDecide_25 rfl (lv_at hl 1 rfl) ?_
        refine va_get (C := RX0) (T := TX0) (N := 8) hx hb hts inX0 hown hK.1 hP 0 rfl rfl 1 (by decide) f15 (fun _ h9 => h9) rfl dX0_letDecide_26 ?_
        refine lv_iload_n hx hb dX0_letDecide_29 rfl (lv_at hl 0 rfl) ?_
        obtain ⟨z30, hf⟩ := oi hf
        refine a_ild hx hb hK hP 2 rfl z30 (x_order i2.toNatClampNeg).toNatClampNeg rfl dX0_letDecide_30 ?_
        refine va_mmax hx hb (hml.trans hl.1.symm) hown mx1 mx2 mx3 mx4 (Nat.le_of_ble_eq_true rfl) (Nat.le_of_ble_eq_true rfl) (Nat.le_of_ble_eq_true rfl) (Nat.le_of_ble_eq_true rfl) dX0_letDecide_31 ?_
        refine lv_aload_n hx hb dX0_letDecide_34 rfl (lv_at hl 1 rfl) ?_
        refine va_get (C := RX0) (T := TX0) (N := 8) hx hb hts inX0 hown hK.1 hP 0 rfl rfl 3 (by decide) f21 (fun _ h9 => h9) rfl dX0_letDecide_35 ?_
        refine lv_iload_n hx hb dX0_letDecide_38 rfl (lv_at hl 0 rfl) ?_
        obtain ⟨z39, hf⟩ := oi hf
        refine a_ild hx hb hK hP 3 rfl z39 (x_order i2.toNatClampNeg).toNatClampNeg rfl dX0_letDecide_39 ?_
        refine lv_iadd hx hb dX0_letDecide_40 ?_
        refine lv_topi (fun v41 ev41 => ?_)
        replace hf := nm_h hf v41 ev41
        refine lv_istore (lv' := [(4, .int v41), (3, .int (x_order i2.toNatClampNeg)), (0, .ref ax), (1, .int i1), (2, .int i2)]) hx hb dX0_letDecide_41 hl (by decide) rfl (fun ls hl => ?_)
        refine lv_aload_n hx hb dX0_letDecide_43 rfl (lv_at hl 2 rfl) ?_
        refine lv_iload_n hx hb dX0_letDecide_44 rfl (lv_at hl 1 rfl) ?_
        refine lv_iload hx hb dX0_letDecide_45 (lv_at hl 0 rfl) ?_
        obtain ⟨r47, q47, hf⟩ := ob hf
        refine k_i (wc := [(ax, .inr (0, [.ref ax_kind, .ref ax_walk, .ref ax_first, .ref ax_second, .ref ax_order, .ref ax_ready, .int x_people, .int x_away])), (ax_kind, .inl (cyI, 8, .inl x_kind)), (ax_first, .inl (cyI, 8, .inl x_first))]) (wr := [(ax_order, .inl (cyI, 8, .inl x_order)), (ax_walk, .inl (cyI, 8, .inl x_walk)), (ax_second, .inl (cyI, 8, .inl x_second)), (ax_ready, .inl (cyI, 8, .inl x_ready))]) (w1 := [(ax, .inr (0, [.ref ax_kind, .ref ax_walk, .ref ax_first, .ref ax_second, .ref ax_order, .ref ax_ready, .int x_people, .int x_away])), (ax_kind, .inl (cyI, 8, .inl x_kind)), (ax_first, .inl (cyI, 8, .inl x_first))]) (wn := [(ax, .inr (0, [.ref ax_kind, .ref ax_walk, .ref ax_first, .ref ax_second, .ref ax_order, .ref ax_ready, .int x_people, .int x_away])), (ax_order, .inl (cyI, 8, .inl x_order)), (ax_walk, .inl (cyI, 8, .inl x_walk)), (ax_second, .inl (cyI, 8, .inl x_second)), (ax_kind, .inl (cyI, 8, .inl x_kind)), (ax_first, .inl (cyI, 8, .inl x_first)), (ax_ready, .inl (cyI, 8, .inl x_ready))]) (va_runV (As := [.int (x_order i2.toNatClampNeg), .int v41]) (rest := []) ⟨hx, hb, hml, hown, hts⟩ (c_X0_wouldGo l D cyI cyC cyS H.size ax ax_kind ax_walk ax_first ax_second ax_order ax_ready x_people x_away x_kind x_first (x_order i2.toNatClampNeg) v41 q47) (cwV 2 hts gX0_letDecide_X0_wouldGo rfl rfl rfl (by decide +kernel) ⟨Nat.le_of_ble_eq_true rfl, Nat.le_of_ble_eq_true rfl⟩) (preV (ci := 0) hK (hP.subm (ws' := [(ax, .inr (0, [.ref ax_kind, .ref ax_walk, .ref ax_first, .ref ax_second, .ref ax_order, .ref ax_ready, .int x_people, .int x_away])), (ax_kind, .inl (cyI, 8, .inl x_kind)), (ax_first, .inl (cyI, 8, .inl x_first))]) [0, 4, 5] rfl) (hD.sub (ws' := [(ax, .inr (0, [.ref ax_kind, .ref ax_walk, .ref ax_first, .ref ax_second, .ref ax_order, .ref ax_ready, .int x_people, .int x_away])), (ax_kind, .inl (cyI, 8, .inl x_kind)), (ax_first, .inl (cyI, 8, .inl x_first))]) [0, 4, 5] (by decide) rfl) rfl rfl) rfl rfl hl.1 rfl (lv_room (Nat.le_of_ble_eq_true rfl)) dX0_letDecide_47 ⟨Nat.le_of_ble_eq_true rfl, Nat.le_of_ble_eq_true rfl⟩) hP hD hS hA [0, 4, 5] [1, 2, 3, 6] [4, 0, 1, 2, 5, 6, 3] rfl rfl rfl (by decide) (by decide) (by decide) (fun H locs hP hD hS => ?_)
        refine lv_if_eq (tgt := 76) hx hb dX0_letDecide_50 (by decide) (fun c50 => ?_) (fun c50 => ?_)
        · replace hf := ip c50 hf
          refine lv_iinc (v := i2 + (1 : Int32)) (lv' := [(2, .int (i2 + (1 : Int32))), (4, .int v41), (3, .int (x_order i2.toNatClampNeg)), (0, .ref ax), (1, .int i1)]) hx hb dX0_letDecide_76 hl (k := 4) rfl rfl (by decide) rfl (fun ls hl => ?_)
          refine lv_goto (tgt := 9) hx hb dX0_letDecide_79 (by decide) ?_
          exact ih9 i1 (i2 + (1 : Int32)) x_away x_ready _ _ _ hP hD hS (lv_sub hl [3, 4, 0] rfl) hf
        · replace hf := iq c50 hf
          refine lv_aload_n hx hb dX0_letDecide_53 rfl (lv_at hl 2 rfl) ?_
          refine lv_dup hx hb dX0_letDecide_54 rfl ?_
          refine va_get (C := RX0) (T := TX0) (N := 8) hx hb hts inX0 hown hK.1 hP 0 rfl rfl 7 (by decide) f53 (fun _ h9 => h9) rfl dX0_letDecide_55 ?_
          refine lv_iconst (v := 1) hx hb dX0_letDecide_58 (by decide) ?_
          refine lv_iload_n hx hb dX0_letDecide_59 rfl (lv_at hl 1 rfl) ?_
          refine lv_ishl hx hb dX0_letDecide_60 ?_
          refine lv_ior hx hb dX0_letDecide_61 ?_
          refine a_put (C := RX0) (T := TX0) (N := 8) (wn := [(ax, .inr (0, [.ref ax_kind, .ref ax_walk, .ref ax_first, .ref ax_second, .ref ax_order, .ref ax_ready, .int x_people, .int (x_away ||| ((1 : Int32) <<< ((x_order i2.toNatClampNeg) &&& 31)))])), (ax_order, .inl (cyI, 8, .inl x_order)), (ax_walk, .inl (cyI, 8, .inl x_walk)), (ax_second, .inl (cyI, 8, .inl x_second)), (ax_kind, .inl (cyI, 8, .inl x_kind)), (ax_first, .inl (cyI, 8, .inl x_first)), (ax_ready, .inl (cyI, 8, .inl x_ready))]) hx hb hts inX0 tyX0 tyX0_ok nmX0 hown hK hP hD hS 0 rfl rfl 7 (by decide) f53 (fun _ h9 => h9) rfl rfl (Nat.le_of_ble_eq_true rfl) rfl dX0_letDecide_62 (fun H locs hP hD hS => ?_)
          refine lv_aload_n hx hb dX0_letDecide_65 rfl (lv_at hl 2 rfl) ?_
          refine va_get (C := RX0) (T := TX0) (N := 8) hx hb hts inX0 hown hK.1 hP 0 rfl rfl 5 (by decide) f27 (fun _ h9 => h9) rfl dX0_letDecide_66 ?_
          refine lv_iload_n hx hb dX0_letDecide_69 rfl (lv_at hl 1 rfl) ?_
          refine lv_iload hx hb dX0_letDecide_70 (lv_at hl 0 rfl) ?_
          obtain ⟨z72, hf⟩ := oi hf
          refine a_ist (wn := [(ax, .inr (0, [.ref ax_kind, .ref ax_walk, .ref ax_first, .ref ax_second, .ref ax_order, .ref ax_ready, .int x_people, .int (x_away ||| ((1 : Int32) <<< ((x_order i2.toNatClampNeg) &&& 31)))])), (ax_order, .inl (cyI, 8, .inl x_order)), (ax_walk, .inl (cyI, 8, .inl x_walk)), (ax_second, .inl (cyI, 8, .inl x_second)), (ax_kind, .inl (cyI, 8, .inl x_kind)), (ax_first, .inl (cyI, 8, .inl x_first)), (ax_ready, .inl (cyI, 8, .inl (upd x_ready (x_order i2.toNatClampNeg).toNatClampNeg v41)))]) hx hb hK hP hD hS 6 rfl z72 (x_order i2.toNatClampNeg).toNatClampNeg rfl rfl dX0_letDecide_72 (fun H locs hP hD hS => ?_)
          refine lv_iload hx hb dX0_letDecide_73 (lv_at hl 0 rfl) ?_
          refine lv_istore_n (lv' := [(1, .int v41), (4, .int v41), (3, .int (x_order i2.toNatClampNeg)), (0, .ref ax), (2, .int i2)]) hx hb dX0_letDecide_75 rfl hl (by decide) rfl (fun ls hl => ?_)
          refine lv_iinc (v := i2 + (1 : Int32)) (lv' := [(2, .int (i2 + (1 : Int32))), (1, .int v41), (4, .int v41), (3, .int (x_order i2.toNatClampNeg)), (0, .ref ax)]) hx hb dX0_letDecide_76 hl (k := 4) rfl rfl (by decide) rfl (fun ls hl => ?_)
          refine lv_goto (tgt := 9) hx hb dX0_letDecide_79 (by decide) ?_
          exact ih9 v41 (i2 + (1 : Int32)) (x_away ||| ((1 : Int32) <<< ((x_order i2.toNatClampNeg) &&& 31))) (upd x_ready (x_order i2.toNatClampNeg).toNatClampNeg v41) _ _ _ hP hD hS (lv_sub hl [4, 1, 0] rfl) hf
  exact hL9 300 (0 : Int32) (0 : Int32) (0 : Int32) x_ready _ _ _ hP hD hS (lv_sub hl [2, 1, 0] rfl) hf
abbrev rX0_send : Room := { frames := 2, cells := 0, slots := 0, locals := 43 }
set_option maxHeartbeats 4000000 in
set_option maxRecDepth 100000 in
theorem c_X0_send (l : Launch) (D : va_G) (cyI cyC cyS : ClassId) (sz : Nat) (ax : Nat) (ax_kind : Nat) (ax_walk : Nat) (ax_first : Nat) (ax_second : Nat) (ax_order : Nat) (ax_ready : Nat) (x_people : Int32) (x_away : Int32) (x_order : Nat → Int32) (x_walk : Nat → Int32) (x_second : Nat → Int32) (x_ready : Nat → Int32) (x_first : Nat → Int32) (i1 : Int32) {o_x_away : Int32} {o_x_ready : Nat → Int32} (hf : S_X0_send i1 x_people x_order x_walk x_second x_ready x_first = some (o_x_away, o_x_ready)) : Met l yX0_send wsX0_send rX0_send (Cpre [.ref ax, .int i1] D cyI cyC cyS sz [(ax, .inr (0, [.ref ax_kind, .ref ax_walk, .ref ax_first, .ref ax_second, .ref ax_order, .ref ax_ready, .int x_people, .int x_away])), (ax_order, .inl (cyI, 8, .inl x_order)), (ax_walk, .inl (cyI, 8, .inl x_walk)), (ax_second, .inl (cyI, 8, .inl x_second)), (ax_ready, .inl (cyI, 8, .inl x_ready)), (ax_first, .inl (cyI, 8, .inl x_first))]) (CQv D [(ax, .inr (0, [.ref ax_kind, .ref ax_walk, .ref ax_first, .ref ax_second, .ref ax_order, .ref ax_ready, .int x_people, .int o_x_away])), (ax_order, .inl (cyI, 8, .inl x_order)), (ax_walk, .inl (cyI, 8, .inl x_walk)), (ax_second, .inl (cyI, 8, .inl x_second)), (ax_ready, .inl (cyI, 8, .inl o_x_ready)), (ax_first, .inl (cyI, 8, .inl x_first))] (va_A [(ax, .inr (0, [.ref ax_kind, .ref ax_walk, .ref ax_first, .ref ax_second, .ref ax_order, .ref ax_ready, .int x_people, .int x_away])), (ax_order, .inl (cyI, 8, .inl x_order)), (ax_walk, .inl (cyI, 8, .inl x_walk)), (ax_second, .inl (cyI, 8, .inl x_second)), (ax_ready, .inl (cyI, 8, .inl x_ready)), (ax_first, .inl (cyI, 8, .inl x_first))] sz)) 0 0 (va_A [(ax, .inr (0, [.ref ax_kind, .ref ax_walk, .ref ax_first, .ref ax_second, .ref ax_order, .ref ax_ready, .int x_people, .int x_away])), (ax_order, .inl (cyI, 8, .inl x_order)), (ax_walk, .inl (cyI, 8, .inl x_walk)), (ax_second, .inl (cyI, 8, .inl x_second)), (ax_ready, .inl (cyI, 8, .inl x_ready)), (ax_first, .inl (cyI, 8, .inl x_first))] sz) := by
  refine Met.ofW (cc := cX0_send) (maxL := 5) (ret := none) (by decide) rfl ?_
  intro p e s m args below meth c s₁ B hml hv
  obtain ⟨rfl, hsz, hP, hK, hD0⟩ := hv
  have hx := B.exec
  have hb := B.bytes
  have hr := B.returns
  have hts := atoms_spec (ws := wsX0_send) B.pre
  have hown : s.vm.findClass RX0 = some m.cls := findClass_of_methodNamed B.named
  have hlocks := B.notSynchronized
  subst hsz
  have hD := hD0.self (sz := s.heap.size)
  generalize hAe : va_A [(ax, .inr (0, [.ref ax_kind, .ref ax_walk, .ref ax_first, .ref ax_second, .ref ax_order, .ref ax_ready, .int x_people, .int x_away])), (ax_order, .inl (cyI, 8, .inl x_order)), (ax_walk, .inl (cyI, 8, .inl x_walk)), (ax_second, .inl (cyI, 8, .inl x_second)), (ax_ready, .inl (cyI, 8, .inl x_ready)), (ax_first, .inl (cyI, 8, .inl x_first))] s.heap.size = A at hD ⊢
  have hA : ∀ q : Nat, s.heap.size ≤ q → A q := fun q h => by rw [← hAe]; exact Or.inr h
  have hS : va_S A s.heap s.heap [] := va_S.rf
  have hl := lv_entry ([.ref ax, .int i1]) (n := 5) (Nat.le_of_ble_eq_true rfl)
  rw [lg_entry_eq]
  generalize (lg_sl ([.ref ax, .int i1]) ++ List.replicate (5 - (lg_sl ([.ref ax, .int i1])).length) Slot.unset).toArray = ls at hl ⊢
  have hl : lv_has ls 5 [(0, .ref ax), (1, .int i1)] := hl
  have f53 := hts (.fieldLink RX0 53 "SecondTill$Crossing" "away" "I") (by decide +kernel)
  have inX0 : ∀ w ∈ u_ws RX0 TX0 8, w ∈ wsX0_send := by decide +kernel
  have f36 := hts (.fieldLink RX0 36 "SecondTill$Crossing" "people" "I") (by decide +kernel)
  have f24 := hts (.fieldLink RX0 24 "SecondTill$Crossing" "order" "[I") (by decide +kernel)
  have f15 := hts (.fieldLink RX0 15 "SecondTill$Crossing" "walk" "[I") (by decide +kernel)
  have mx1 := hts (.methodLink RX0 56 Lib.Math.max.name) (by decide +kernel)
  have mx2 := hts (.static Lib.Math.max.name) (by decide +kernel)
  have mx3 := hts (.initialized "java/lang/Math") (by decide +kernel)
  have mx4 := hts (.code Lib.Math.max.name Lib.Math.max.code 2 (some .int)) (by decide +kernel)
  have f21 := hts (.fieldLink RX0 21 "SecondTill$Crossing" "second" "[I") (by decide +kernel)
  have f27 := hts (.fieldLink RX0 27 "SecondTill$Crossing" "ready" "[I") (by decide +kernel)
  unfold S_X0_send at hf
  have hP : va_P D vwCl [(ax, .inr (0, [.ref ax_kind, .ref ax_walk, .ref ax_first, .ref ax_second, .ref ax_order, .ref ax_ready, .int x_people, .int x_away])), (ax_order, .inl (cyI, 8, .inl x_order)), (ax_walk, .inl (cyI, 8, .inl x_walk)), (ax_second, .inl (cyI, 8, .inl x_second)), (ax_ready, .inl (cyI, 8, .inl x_ready)), (ax_first, .inl (cyI, 8, .inl x_first))] s.heap := hP
  suffices hgo : ∀ (H : Heap) (locs : List Loc), va_P D vwCl [(ax, .inr (0, [.ref ax_kind, .ref ax_walk, .ref ax_first, .ref ax_second, .ref ax_order, .ref ax_ready, .int x_people, .int x_away])), (ax_order, .inl (cyI, 8, .inl x_order)), (ax_walk, .inl (cyI, 8, .inl x_walk)), (ax_second, .inl (cyI, 8, .inl x_second)), (ax_ready, .inl (cyI, 8, .inl x_ready)), (ax_first, .inl (cyI, 8, .inl x_first))] H → va_S A s.heap H locs → W p l e rX0_send s m (([.ref ax, .int i1] : List Value).toArray) below meth c H locs 0 0 (MQ below (CQv D [(ax, .inr (0, [.ref ax_kind, .ref ax_walk, .ref ax_first, .ref ax_second, .ref ax_order, .ref ax_ready, .int x_people, .int o_x_away])), (ax_order, .inl (cyI, 8, .inl x_order)), (ax_walk, .inl (cyI, 8, .inl x_walk)), (ax_second, .inl (cyI, 8, .inl x_second)), (ax_ready, .inl (cyI, 8, .inl o_x_ready)), (ax_first, .inl (cyI, 8, .inl x_first))] A) (([.ref ax, .int i1] : List Value).toArray) s 0 0 A) (F0 m 0 ls []) from hgo _ _ hP hS
  clear hP hS
  intro H locs hP hS
  refine lv_aload_n hx hb dX0_send_0 rfl (lv_at hl 0 rfl) ?_
  refine lv_iload_n hx hb dX0_send_1 rfl (lv_at hl 1 rfl) ?_
  refine a_put (C := RX0) (T := TX0) (N := 8) (wn := [(ax, .inr (0, [.ref ax_kind, .ref ax_walk, .ref ax_first, .ref ax_second, .ref ax_order, .ref ax_ready, .int x_people, .int i1])), (ax_order, .inl (cyI, 8, .inl x_order)), (ax_walk, .inl (cyI, 8, .inl x_walk)), (ax_second, .inl (cyI, 8, .inl x_second)), (ax_ready, .inl (cyI, 8, .inl x_ready)), (ax_first, .inl (cyI, 8, .inl x_first))]) hx hb hts inX0 tyX0 tyX0_ok nmX0 hown hK hP hD hS 0 rfl rfl 7 (by decide) f53 (fun _ h9 => h9) rfl rfl (Nat.le_of_ble_eq_true rfl) rfl dX0_send_2 (fun H locs hP hD hS => ?_)
  refine lv_iconst (v := 0) hx hb dX0_send_5 (by decide) ?_
  refine lv_istore_n (lv' := [(2, .int (0 : Int32)), (0, .ref ax), (1, .int i1)]) hx hb dX0_send_6 rfl hl (by decide) rfl (fun ls hl => ?_)
  refine lv_iconst (v := 0) hx hb dX0_send_7 (by decide) ?_
  refine lv_istore_n (lv' := [(3, .int (0 : Int32)), (2, .int (0 : Int32)), (0, .ref ax), (1, .int i1)]) hx hb dX0_send_8 rfl hl (by decide) rfl (fun ls hl => ?_)
  have hL9 : ∀ (n9 : Nat) (x_away : Int32) (i2 : Int32) (i3 : Int32) (x_ready : Nat → Int32) (H : Heap) (locs : List Loc) (ls : Array Slot), va_P D vwCl [(ax, .inr (0, [.ref ax_kind, .ref ax_walk, .ref ax_first, .ref ax_second, .ref ax_order, .ref ax_ready, .int x_people, .int x_away])), (ax_order, .inl (cyI, 8, .inl x_order)), (ax_walk, .inl (cyI, 8, .inl x_walk)), (ax_second, .inl (cyI, 8, .inl x_second)), (ax_ready, .inl (cyI, 8, .inl x_ready)), (ax_first, .inl (cyI, 8, .inl x_first))] H → va_D A [(ax, .inr (0, [.ref ax_kind, .ref ax_walk, .ref ax_first, .ref ax_second, .ref ax_order, .ref ax_ready, .int x_people, .int x_away])), (ax_order, .inl (cyI, 8, .inl x_order)), (ax_walk, .inl (cyI, 8, .inl x_walk)), (ax_second, .inl (cyI, 8, .inl x_second)), (ax_ready, .inl (cyI, 8, .inl x_ready)), (ax_first, .inl (cyI, 8, .inl x_first))] → va_S A s.heap H locs → lv_has ls 5 [(0, .ref ax), (2, .int i2), (3, .int i3)] → S_X0_send_L9 x_away x_people x_order x_walk x_second x_first n9 i2 i3 x_ready = some (o_x_away, o_x_ready) → W p l e rX0_send s m (([.ref ax, .int i1] : List Value).toArray) below meth c H locs 0 0 (MQ below (CQv D [(ax, .inr (0, [.ref ax_kind, .ref ax_walk, .ref ax_first, .ref ax_second, .ref ax_order, .ref ax_ready, .int x_people, .int o_x_away])), (ax_order, .inl (cyI, 8, .inl x_order)), (ax_walk, .inl (cyI, 8, .inl x_walk)), (ax_second, .inl (cyI, 8, .inl x_second)), (ax_ready, .inl (cyI, 8, .inl o_x_ready)), (ax_first, .inl (cyI, 8, .inl x_first))] A) (([.ref ax, .int i1] : List Value).toArray) s 0 0 A) (F0 m 9 ls []) := by
    intro n9
    induction n9 with
    | zero => intro x_away i2 i3 x_ready H locs ls hP hD hS hl hf; exact absurd hf (by simp [S_X0_send_L9])
    | succ n9 ih9 =>
      intro x_away i2 i3 x_ready H locs ls hP hD hS hl hf
      rw [S_X0_send_L9] at hf
      refine lv_iload_n hx hb dX0_send_9 rfl (lv_at hl 2 rfl) ?_
      refine lv_aload_n hx hb dX0_send_10 rfl (lv_at hl 0 rfl) ?_
      refine va_get (C := RX0) (T := TX0) (N := 8) hx hb hts inX0 hown hK.1 hP 0 rfl rfl 6 (by decide) f36 (fun _ h9 => h9) rfl dX0_send_11 ?_
      refine lv_icmp_ge (tgt := 68) hx hb dX0_send_14 (by decide) (fun c14 => ?_) (fun c14 => ?_)
      · replace hf := ip c14 hf
        refine lv_aload_n hx hb dX0_send_68 rfl (lv_at hl 0 rfl) ?_
        obtain ⟨x_ready_o69, q69, hf⟩ := ob hf
        refine k_v (wc := [(ax, .inr (0, [.ref ax_kind, .ref ax_walk, .ref ax_first, .ref ax_second, .ref ax_order, .ref ax_ready, .int x_people, .int x_away])), (ax_first, .inl (cyI, 8, .inl x_first)), (ax_ready, .inl (cyI, 8, .inl x_ready))]) (wr := [(ax_order, .inl (cyI, 8, .inl x_order)), (ax_walk, .inl (cyI, 8, .inl x_walk)), (ax_second, .inl (cyI, 8, .inl x_second))]) (w1 := [(ax, .inr (0, [.ref ax_kind, .ref ax_walk, .ref ax_first, .ref ax_second, .ref ax_order, .ref ax_ready, .int x_people, .int x_away])), (ax_first, .inl (cyI, 8, .inl x_first)), (ax_ready, .inl (cyI, 8, .inl x_ready_o69))]) (wn := [(ax, .inr (0, [.ref ax_kind, .ref ax_walk, .ref ax_first, .ref ax_second, .ref ax_order, .ref ax_ready, .int x_people, .int x_away])), (ax_order, .inl (cyI, 8, .inl x_order)), (ax_walk, .inl (cyI, 8, .inl x_walk)), (ax_second, .inl (cyI, 8, .inl x_second)), (ax_ready, .inl (cyI, 8, .inl x_ready_o69)), (ax_first, .inl (cyI, 8, .inl x_first))]) (va_runV (As := []) (rest := []) ⟨hx, hb, hml, hown, hts⟩ (c_X0_serveRow l D cyI cyC cyS H.size ax ax_kind ax_walk ax_first ax_second ax_order ax_ready x_people x_away x_first x_ready q69) (cwV 0 hts gX0_send_X0_serveRow rfl rfl rfl (by decide +kernel) ⟨Nat.le_of_ble_eq_true rfl, Nat.le_of_ble_eq_true rfl⟩) (preV (ci := 0) hK (hP.subm (ws' := [(ax, .inr (0, [.ref ax_kind, .ref ax_walk, .ref ax_first, .ref ax_second, .ref ax_order, .ref ax_ready, .int x_people, .int x_away])), (ax_first, .inl (cyI, 8, .inl x_first)), (ax_ready, .inl (cyI, 8, .inl x_ready))]) [0, 5, 4] rfl) (hD.sub (ws' := [(ax, .inr (0, [.ref ax_kind, .ref ax_walk, .ref ax_first, .ref ax_second, .ref ax_order, .ref ax_ready, .int x_people, .int x_away])), (ax_first, .inl (cyI, 8, .inl x_first)), (ax_ready, .inl (cyI, 8, .inl x_ready))]) [0, 5, 4] (by decide) rfl) rfl rfl) rfl rfl hl.1 rfl (lv_room (Nat.le_of_ble_eq_true rfl)) dX0_send_69 ⟨Nat.le_of_ble_eq_true rfl, Nat.le_of_ble_eq_true rfl⟩) hP hD hS hA [0, 5, 4] [1, 2, 3] [3, 0, 1, 2, 5, 4] rfl rfl rfl (by decide) (by decide) (by decide) (fun H locs hP hD hS => ?_)
        simp only [Option.some.injEq, Prod.mk.injEq] at hf
        obtain ⟨rfl, rfl⟩ := hf
        exact W.vret hx hb hr (fun t ht hW => ⟨⟨(), rfl, trivial, by rw [ht]; exact hP, hD⟩, hS.F ht⟩) hS.2.2 dX0_send_72
      · replace hf := iq c14 hf
        refine lv_aload_n hx hb dX0_send_17 rfl (lv_at hl 0 rfl) ?_
        refine va_get (C := RX0) (T := TX0) (N := 8) hx hb hts inX0 hown hK.1 hP 0 rfl rfl 4 (by decide) f24 (fun _ h9 => h9) rfl dX0_send_18 ?_
        refine lv_iload_n hx hb dX0_send_21 rfl (lv_at hl 2 rfl) ?_
        obtain ⟨z22, hf⟩ := oi hf
        refine a_ild hx hb hK hP 1 rfl z22 i3.toNatClampNeg rfl dX0_send_22 ?_
        refine lv_istore (lv' := [(4, .int (x_order i3.toNatClampNeg)), (0, .ref ax), (2, .int i2), (3, .int i3)]) hx hb dX0_send_23 hl (by decide) rfl (fun ls hl => ?_)
        refine lv_aload_n hx hb dX0_send_25 rfl (lv_at hl 1 rfl) ?_
        refine lv_iload hx hb dX0_send_26 (lv_at hl 0 rfl) ?_
        obtain ⟨r28, q28, hf⟩ := ob hf
        refine k_i (wc := [(ax, .inr (0, [.ref ax_kind, .ref ax_walk, .ref ax_first, .ref ax_second, .ref ax_order, .ref ax_ready, .int x_people, .int x_away]))]) (wr := [(ax_order, .inl (cyI, 8, .inl x_order)), (ax_walk, .inl (cyI, 8, .inl x_walk)), (ax_second, .inl (cyI, 8, .inl x_second)), (ax_ready, .inl (cyI, 8, .inl x_ready)), (ax_first, .inl (cyI, 8, .inl x_first))]) (w1 := [(ax, .inr (0, [.ref ax_kind, .ref ax_walk, .ref ax_first, .ref ax_second, .ref ax_order, .ref ax_ready, .int x_people, .int x_away]))]) (wn := [(ax, .inr (0, [.ref ax_kind, .ref ax_walk, .ref ax_first, .ref ax_second, .ref ax_order, .ref ax_ready, .int x_people, .int x_away])), (ax_order, .inl (cyI, 8, .inl x_order)), (ax_walk, .inl (cyI, 8, .inl x_walk)), (ax_second, .inl (cyI, 8, .inl x_second)), (ax_ready, .inl (cyI, 8, .inl x_ready)), (ax_first, .inl (cyI, 8, .inl x_first))]) (va_runV (As := [.int (x_order i3.toNatClampNeg)]) (rest := []) ⟨hx, hb, hml, hown, hts⟩ (c_X0_isAway l D cyI cyC cyS H.size ax ax_kind ax_walk ax_first ax_second ax_order ax_ready x_people x_away (x_order i3.toNatClampNeg) q28) (cwV 1 hts gX0_send_X0_isAway rfl rfl rfl (by decide +kernel) ⟨Nat.le_of_ble_eq_true rfl, Nat.le_of_ble_eq_true rfl⟩) (preV (ci := 0) hK (hP.subm (ws' := [(ax, .inr (0, [.ref ax_kind, .ref ax_walk, .ref ax_first, .ref ax_second, .ref ax_order, .ref ax_ready, .int x_people, .int x_away]))]) [0] rfl) (hD.sub (ws' := [(ax, .inr (0, [.ref ax_kind, .ref ax_walk, .ref ax_first, .ref ax_second, .ref ax_order, .ref ax_ready, .int x_people, .int x_away]))]) [0] (by decide) rfl) rfl rfl) rfl rfl hl.1 rfl (lv_room (Nat.le_of_ble_eq_true rfl)) dX0_send_28 ⟨Nat.le_of_ble_eq_true rfl, Nat.le_of_ble_eq_true rfl⟩) hP hD hS hA [0] [1, 2, 3, 4, 5] [5, 0, 1, 2, 3, 4] rfl rfl rfl (by decide) (by decide) (by decide) (fun H locs hP hD hS => ?_)
        refine lv_if_eq (tgt := 62) hx hb dX0_send_31 (by decide) (fun c31 => ?_) (fun c31 => ?_)
        · replace hf := ip c31 hf
          refine lv_iinc (v := i3 + (1 : Int32)) (lv' := [(3, .int (i3 + (1 : Int32))), (4, .int (x_order i3.toNatClampNeg)), (0, .ref ax), (2, .int i2)]) hx hb dX0_send_62 hl (k := 3) rfl rfl (by decide) rfl (fun ls hl => ?_)
          refine lv_goto (tgt := 9) hx hb dX0_send_65 (by decide) ?_
          exact ih9 x_away i2 (i3 + (1 : Int32)) x_ready _ _ _ hP hD hS (lv_sub hl [2, 3, 0] rfl) hf
        · replace hf := iq c31 hf
          refine lv_iload_n hx hb dX0_send_34 rfl (lv_at hl 2 rfl) ?_
          refine lv_aload_n hx hb dX0_send_35 rfl (lv_at hl 1 rfl) ?_
          refine va_get (C := RX0) (T := TX0) (N := 8) hx hb hts inX0 hown hK.1 hP 0 rfl rfl 1 (by decide) f15 (fun _ h9 => h9) rfl dX0_send_36 ?_
          refine lv_iload hx hb dX0_send_39 (lv_at hl 0 rfl) ?_
          obtain ⟨z41, hf⟩ := oi hf
          refine a_ild hx hb hK hP 2 rfl z41 (x_order i3.toNatClampNeg).toNatClampNeg rfl dX0_send_41 ?_
          refine va_mmax hx hb (hml.trans hl.1.symm) hown mx1 mx2 mx3 mx4 (Nat.le_of_ble_eq_true rfl) (Nat.le_of_ble_eq_true rfl) (Nat.le_of_ble_eq_true rfl) (Nat.le_of_ble_eq_true rfl) dX0_send_42 ?_
          refine lv_aload_n hx hb dX0_send_45 rfl (lv_at hl 1 rfl) ?_
          refine va_get (C := RX0) (T := TX0) (N := 8) hx hb hts inX0 hown hK.1 hP 0 rfl rfl 3 (by decide) f21 (fun _ h9 => h9) rfl dX0_send_46 ?_
          refine lv_iload hx hb dX0_send_49 (lv_at hl 0 rfl) ?_
          obtain ⟨z51, hf⟩ := oi hf
          refine a_ild hx hb hK hP 3 rfl z51 (x_order i3.toNatClampNeg).toNatClampNeg rfl dX0_send_51 ?_
          refine lv_iadd hx hb dX0_send_52 ?_
          refine lv_topi (fun v53 ev53 => ?_)
          replace hf := nm_h hf v53 ev53
          refine lv_istore_n (lv' := [(2, .int v53), (4, .int (x_order i3.toNatClampNeg)), (0, .ref ax), (3, .int i3)]) hx hb dX0_send_53 rfl hl (by decide) rfl (fun ls hl => ?_)
          refine lv_aload_n hx hb dX0_send_54 rfl (lv_at hl 2 rfl) ?_
          refine va_get (C := RX0) (T := TX0) (N := 8) hx hb hts inX0 hown hK.1 hP 0 rfl rfl 5 (by decide) f27 (fun _ h9 => h9) rfl dX0_send_55 ?_
          refine lv_iload hx hb dX0_send_58 (lv_at hl 1 rfl) ?_
          refine lv_iload_n hx hb dX0_send_60 rfl (lv_at hl 0 rfl) ?_
          obtain ⟨z61, hf⟩ := oi hf
          refine a_ist (wn := [(ax, .inr (0, [.ref ax_kind, .ref ax_walk, .ref ax_first, .ref ax_second, .ref ax_order, .ref ax_ready, .int x_people, .int x_away])), (ax_order, .inl (cyI, 8, .inl x_order)), (ax_walk, .inl (cyI, 8, .inl x_walk)), (ax_second, .inl (cyI, 8, .inl x_second)), (ax_ready, .inl (cyI, 8, .inl (upd x_ready (x_order i3.toNatClampNeg).toNatClampNeg v53))), (ax_first, .inl (cyI, 8, .inl x_first))]) hx hb hK hP hD hS 4 rfl z61 (x_order i3.toNatClampNeg).toNatClampNeg rfl rfl dX0_send_61 (fun H locs hP hD hS => ?_)
          refine lv_iinc (v := i3 + (1 : Int32)) (lv' := [(3, .int (i3 + (1 : Int32))), (2, .int v53), (4, .int (x_order i3.toNatClampNeg)), (0, .ref ax)]) hx hb dX0_send_62 hl (k := 3) rfl rfl (by decide) rfl (fun ls hl => ?_)
          refine lv_goto (tgt := 9) hx hb dX0_send_65 (by decide) ?_
          exact ih9 x_away v53 (i3 + (1 : Int32)) (upd x_ready (x_order i3.toNatClampNeg).toNatClampNeg v53) _ _ _ hP hD hS (lv_sub hl [3, 1, 0] rfl) hf
  exact hL9 300 i1 (0 : Int32) (0 : Int32) x_ready _ _ _ hP hD hS (lv_sub hl [2, 1, 0] rfl) hf
abbrev rX0_shareOneRow : Room := { frames := 0, cells := 0, slots := 0, locals := 0 }
set_option maxHeartbeats 4000000 in
set_option maxRecDepth 100000 in
theorem c_X0_shareOneRow (l : Launch) (D : va_G) (cyI cyC cyS : ClassId) (sz : Nat) (ax : Nat) (ax_kind : Nat) (ax_walk : Nat) (ax_first : Nat) (ax_second : Nat) (ax_order : Nat) (ax_ready : Nat) (x_people : Int32) (x_away : Int32) (x_first : Nat → Int32) (x_ready : Nat → Int32) (x_second : Nat → Int32) {o_x_ready : Nat → Int32} (hf : S_X0_shareOneRow x_people x_first x_ready x_second = some o_x_ready) : Met l yX0_shareOneRow wsX0_shareOneRow rX0_shareOneRow (Cpre [.ref ax] D cyI cyC cyS sz [(ax, .inr (0, [.ref ax_kind, .ref ax_walk, .ref ax_first, .ref ax_second, .ref ax_order, .ref ax_ready, .int x_people, .int x_away])), (ax_first, .inl (cyI, 8, .inl x_first)), (ax_ready, .inl (cyI, 8, .inl x_ready)), (ax_second, .inl (cyI, 8, .inl x_second))]) (CQv D [(ax, .inr (0, [.ref ax_kind, .ref ax_walk, .ref ax_first, .ref ax_second, .ref ax_order, .ref ax_ready, .int x_people, .int x_away])), (ax_first, .inl (cyI, 8, .inl x_first)), (ax_ready, .inl (cyI, 8, .inl o_x_ready)), (ax_second, .inl (cyI, 8, .inl x_second))] (va_A [(ax, .inr (0, [.ref ax_kind, .ref ax_walk, .ref ax_first, .ref ax_second, .ref ax_order, .ref ax_ready, .int x_people, .int x_away])), (ax_first, .inl (cyI, 8, .inl x_first)), (ax_ready, .inl (cyI, 8, .inl x_ready)), (ax_second, .inl (cyI, 8, .inl x_second))] sz)) 0 0 (va_A [(ax, .inr (0, [.ref ax_kind, .ref ax_walk, .ref ax_first, .ref ax_second, .ref ax_order, .ref ax_ready, .int x_people, .int x_away])), (ax_first, .inl (cyI, 8, .inl x_first)), (ax_ready, .inl (cyI, 8, .inl x_ready)), (ax_second, .inl (cyI, 8, .inl x_second))] sz) := by
  refine Met.ofW (cc := cX0_shareOneRow) (maxL := 4) (ret := none) (by decide) rfl ?_
  intro p e s m args below meth c s₁ B hml hv
  obtain ⟨rfl, hsz, hP, hK, hD0⟩ := hv
  have hx := B.exec
  have hb := B.bytes
  have hr := B.returns
  have hts := atoms_spec (ws := wsX0_shareOneRow) B.pre
  have hown : s.vm.findClass RX0 = some m.cls := findClass_of_methodNamed B.named
  have hlocks := B.notSynchronized
  subst hsz
  have hD := hD0.self (sz := s.heap.size)
  generalize hAe : va_A [(ax, .inr (0, [.ref ax_kind, .ref ax_walk, .ref ax_first, .ref ax_second, .ref ax_order, .ref ax_ready, .int x_people, .int x_away])), (ax_first, .inl (cyI, 8, .inl x_first)), (ax_ready, .inl (cyI, 8, .inl x_ready)), (ax_second, .inl (cyI, 8, .inl x_second))] s.heap.size = A at hD ⊢
  have hA : ∀ q : Nat, s.heap.size ≤ q → A q := fun q h => by rw [← hAe]; exact Or.inr h
  have hS : va_S A s.heap s.heap [] := va_S.rf
  have hl := lv_entry ([.ref ax]) (n := 4) (Nat.le_of_ble_eq_true rfl)
  rw [lg_entry_eq]
  generalize (lg_sl ([.ref ax]) ++ List.replicate (4 - (lg_sl ([.ref ax])).length) Slot.unset).toArray = ls at hl ⊢
  have hl : lv_has ls 4 [(0, .ref ax)] := hl
  have f36 := hts (.fieldLink RX0 36 "SecondTill$Crossing" "people" "I") (by decide +kernel)
  have inX0 : ∀ w ∈ u_ws RX0 TX0 8, w ∈ wsX0_shareOneRow := by decide +kernel
  have f21 := hts (.fieldLink RX0 21 "SecondTill$Crossing" "second" "[I") (by decide +kernel)
  have f27 := hts (.fieldLink RX0 27 "SecondTill$Crossing" "ready" "[I") (by decide +kernel)
  have f18 := hts (.fieldLink RX0 18 "SecondTill$Crossing" "first" "[I") (by decide +kernel)
  unfold S_X0_shareOneRow at hf
  have hP : va_P D vwCl [(ax, .inr (0, [.ref ax_kind, .ref ax_walk, .ref ax_first, .ref ax_second, .ref ax_order, .ref ax_ready, .int x_people, .int x_away])), (ax_first, .inl (cyI, 8, .inl x_first)), (ax_ready, .inl (cyI, 8, .inl x_ready)), (ax_second, .inl (cyI, 8, .inl x_second))] s.heap := hP
  suffices hgo : ∀ (H : Heap) (locs : List Loc), va_P D vwCl [(ax, .inr (0, [.ref ax_kind, .ref ax_walk, .ref ax_first, .ref ax_second, .ref ax_order, .ref ax_ready, .int x_people, .int x_away])), (ax_first, .inl (cyI, 8, .inl x_first)), (ax_ready, .inl (cyI, 8, .inl x_ready)), (ax_second, .inl (cyI, 8, .inl x_second))] H → va_S A s.heap H locs → W p l e rX0_shareOneRow s m (([.ref ax] : List Value).toArray) below meth c H locs 0 0 (MQ below (CQv D [(ax, .inr (0, [.ref ax_kind, .ref ax_walk, .ref ax_first, .ref ax_second, .ref ax_order, .ref ax_ready, .int x_people, .int x_away])), (ax_first, .inl (cyI, 8, .inl x_first)), (ax_ready, .inl (cyI, 8, .inl o_x_ready)), (ax_second, .inl (cyI, 8, .inl x_second))] A) (([.ref ax] : List Value).toArray) s 0 0 A) (F0 m 0 ls []) from hgo _ _ hP hS
  clear hP hS
  intro H locs hP hS
  refine lv_iconst (v := 0) hx hb dX0_shareOneRow_0 (by decide) ?_
  refine lv_istore_n (lv' := [(1, .int (0 : Int32)), (0, .ref ax)]) hx hb dX0_shareOneRow_1 rfl hl (by decide) rfl (fun ls hl => ?_)
  refine lv_iconst (v := 0) hx hb dX0_shareOneRow_2 (by decide) ?_
  refine lv_istore_n (lv' := [(2, .int (0 : Int32)), (1, .int (0 : Int32)), (0, .ref ax)]) hx hb dX0_shareOneRow_3 rfl hl (by decide) rfl (fun ls hl => ?_)
  refine lv_iconst (v := 0) hx hb dX0_shareOneRow_4 (by decide) ?_
  refine lv_istore_n (lv' := [(3, .int (0 : Int32)), (2, .int (0 : Int32)), (1, .int (0 : Int32)), (0, .ref ax)]) hx hb dX0_shareOneRow_5 rfl hl (by decide) rfl (fun ls hl => ?_)
  have hL6 : ∀ (n6 : Nat) (i1 : Int32) (i2 : Int32) (i3 : Int32) (x_ready : Nat → Int32) (H : Heap) (locs : List Loc) (ls : Array Slot), va_P D vwCl [(ax, .inr (0, [.ref ax_kind, .ref ax_walk, .ref ax_first, .ref ax_second, .ref ax_order, .ref ax_ready, .int x_people, .int x_away])), (ax_first, .inl (cyI, 8, .inl x_first)), (ax_ready, .inl (cyI, 8, .inl x_ready)), (ax_second, .inl (cyI, 8, .inl x_second))] H → va_D A [(ax, .inr (0, [.ref ax_kind, .ref ax_walk, .ref ax_first, .ref ax_second, .ref ax_order, .ref ax_ready, .int x_people, .int x_away])), (ax_first, .inl (cyI, 8, .inl x_first)), (ax_ready, .inl (cyI, 8, .inl x_ready)), (ax_second, .inl (cyI, 8, .inl x_second))] → va_S A s.heap H locs → lv_has ls 4 [(0, .ref ax), (1, .int i1), (2, .int i2), (3, .int i3)] → S_X0_shareOneRow_L6 x_people x_first x_second n6 i1 i2 i3 x_ready = some o_x_ready → W p l e rX0_shareOneRow s m (([.ref ax] : List Value).toArray) below meth c H locs 0 0 (MQ below (CQv D [(ax, .inr (0, [.ref ax_kind, .ref ax_walk, .ref ax_first, .ref ax_second, .ref ax_order, .ref ax_ready, .int x_people, .int x_away])), (ax_first, .inl (cyI, 8, .inl x_first)), (ax_ready, .inl (cyI, 8, .inl o_x_ready)), (ax_second, .inl (cyI, 8, .inl x_second))] A) (([.ref ax] : List Value).toArray) s 0 0 A) (F0 m 6 ls []) := by
    intro n6
    induction n6 with
    | zero => intro i1 i2 i3 x_ready H locs ls hP hD hS hl hf; exact absurd hf (by simp [S_X0_shareOneRow_L6])
    | succ n6 ih6 =>
      intro i1 i2 i3 x_ready H locs ls hP hD hS hl hf
      rw [S_X0_shareOneRow_L6] at hf
      refine lv_iload_n hx hb dX0_shareOneRow_6 rfl (lv_at hl 3 rfl) ?_
      refine lv_aload_n hx hb dX0_shareOneRow_7 rfl (lv_at hl 0 rfl) ?_
      refine va_get (C := RX0) (T := TX0) (N := 8) hx hb hts inX0 hown hK.1 hP 0 rfl rfl 6 (by decide) f36 (fun _ h9 => h9) rfl dX0_shareOneRow_8 ?_
      refine lv_icmp_ge (tgt := 60) hx hb dX0_shareOneRow_11 (by decide) (fun c11 => ?_) (fun c11 => ?_)
      · replace hf := ip c11 hf
        obtain rfl := Option.some.inj hf
        exact W.vret hx hb hr (fun t ht hW => ⟨⟨(), rfl, trivial, by rw [ht]; exact hP, hD⟩, hS.F ht⟩) hS.2.2 dX0_shareOneRow_60
      · replace hf := iq c11 hf
        refine lv_iload_n hx hb dX0_shareOneRow_14 rfl (lv_at hl 1 rfl) ?_
        refine lv_iload_n hx hb dX0_shareOneRow_15 rfl (lv_at hl 2 rfl) ?_
        refine lv_icmp_gt (tgt := 38) hx hb dX0_shareOneRow_16 (by decide) (fun c16 => ?_) (fun c16 => ?_)
        · replace hf := ip c16 hf
          refine lv_iload_n hx hb dX0_shareOneRow_38 rfl (lv_at hl 2 rfl) ?_
          refine lv_aload_n hx hb dX0_shareOneRow_39 rfl (lv_at hl 0 rfl) ?_
          refine va_get (C := RX0) (T := TX0) (N := 8) hx hb hts inX0 hown hK.1 hP 0 rfl rfl 3 (by decide) f21 (fun _ h9 => h9) rfl dX0_shareOneRow_40 ?_
          refine lv_iload_n hx hb dX0_shareOneRow_43 rfl (lv_at hl 3 rfl) ?_
          obtain ⟨z44, hf⟩ := oi hf
          refine a_ild hx hb hK hP 3 rfl z44 i3.toNatClampNeg rfl dX0_shareOneRow_44 ?_
          refine lv_iadd hx hb dX0_shareOneRow_45 ?_
          refine lv_istore_n (lv' := [(2, .int (i2 + (x_second i3.toNatClampNeg))), (0, .ref ax), (1, .int i1), (3, .int i3)]) hx hb dX0_shareOneRow_46 rfl hl (by decide) rfl (fun ls hl => ?_)
          refine lv_aload_n hx hb dX0_shareOneRow_47 rfl (lv_at hl 1 rfl) ?_
          refine va_get (C := RX0) (T := TX0) (N := 8) hx hb hts inX0 hown hK.1 hP 0 rfl rfl 5 (by decide) f27 (fun _ h9 => h9) rfl dX0_shareOneRow_48 ?_
          refine lv_iload_n hx hb dX0_shareOneRow_51 rfl (lv_at hl 3 rfl) ?_
          refine lv_iload_n hx hb dX0_shareOneRow_52 rfl (lv_at hl 0 rfl) ?_
          obtain ⟨z53, hf⟩ := oi hf
          refine a_ist (wn := [(ax, .inr (0, [.ref ax_kind, .ref ax_walk, .ref ax_first, .ref ax_second, .ref ax_order, .ref ax_ready, .int x_people, .int x_away])), (ax_first, .inl (cyI, 8, .inl x_first)), (ax_ready, .inl (cyI, 8, .inl (upd x_ready i3.toNatClampNeg (i2 + (x_second i3.toNatClampNeg))))), (ax_second, .inl (cyI, 8, .inl x_second))]) hx hb hK hP hD hS 2 rfl z53 i3.toNatClampNeg rfl rfl dX0_shareOneRow_53 (fun H locs hP hD hS => ?_)
          refine lv_iinc (v := i3 + (1 : Int32)) (lv' := [(3, .int (i3 + (1 : Int32))), (2, .int (i2 + (x_second i3.toNatClampNeg))), (0, .ref ax), (1, .int i1)]) hx hb dX0_shareOneRow_54 hl (k := 3) rfl rfl (by decide) rfl (fun ls hl => ?_)
          refine lv_goto (tgt := 6) hx hb dX0_shareOneRow_57 (by decide) ?_
          exact ih6 i1 (i2 + (x_second i3.toNatClampNeg)) (i3 + (1 : Int32)) (upd x_ready i3.toNatClampNeg (i2 + (x_second i3.toNatClampNeg))) _ _ _ hP hD hS (lv_sub hl [2, 3, 1, 0] rfl) hf
        · replace hf := iq c16 hf
          refine lv_iload_n hx hb dX0_shareOneRow_19 rfl (lv_at hl 1 rfl) ?_
          refine lv_aload_n hx hb dX0_shareOneRow_20 rfl (lv_at hl 0 rfl) ?_
          refine va_get (C := RX0) (T := TX0) (N := 8) hx hb hts inX0 hown hK.1 hP 0 rfl rfl 2 (by decide) f18 (fun _ h9 => h9) rfl dX0_shareOneRow_21 ?_
          refine lv_iload_n hx hb dX0_shareOneRow_24 rfl (lv_at hl 3 rfl) ?_
          obtain ⟨z25, hf⟩ := oi hf
          refine a_ild hx hb hK hP 1 rfl z25 i3.toNatClampNeg rfl dX0_shareOneRow_25 ?_
          refine lv_iadd hx hb dX0_shareOneRow_26 ?_
          refine lv_istore_n (lv' := [(1, .int (i1 + (x_first i3.toNatClampNeg))), (0, .ref ax), (2, .int i2), (3, .int i3)]) hx hb dX0_shareOneRow_27 rfl hl (by decide) rfl (fun ls hl => ?_)
          refine lv_aload_n hx hb dX0_shareOneRow_28 rfl (lv_at hl 1 rfl) ?_
          refine va_get (C := RX0) (T := TX0) (N := 8) hx hb hts inX0 hown hK.1 hP 0 rfl rfl 5 (by decide) f27 (fun _ h9 => h9) rfl dX0_shareOneRow_29 ?_
          refine lv_iload_n hx hb dX0_shareOneRow_32 rfl (lv_at hl 3 rfl) ?_
          refine lv_iload_n hx hb dX0_shareOneRow_33 rfl (lv_at hl 0 rfl) ?_
          obtain ⟨z34, hf⟩ := oi hf
          refine a_ist (wn := [(ax, .inr (0, [.ref ax_kind, .ref ax_walk, .ref ax_first, .ref ax_second, .ref ax_order, .ref ax_ready, .int x_people, .int x_away])), (ax_first, .inl (cyI, 8, .inl x_first)), (ax_ready, .inl (cyI, 8, .inl (upd x_ready i3.toNatClampNeg (i1 + (x_first i3.toNatClampNeg))))), (ax_second, .inl (cyI, 8, .inl x_second))]) hx hb hK hP hD hS 2 rfl z34 i3.toNatClampNeg rfl rfl dX0_shareOneRow_34 (fun H locs hP hD hS => ?_)
          refine lv_goto (tgt := 54) hx hb dX0_shareOneRow_35 (by decide) ?_
          refine lv_iinc (v := i3 + (1 : Int32)) (lv' := [(3, .int (i3 + (1 : Int32))), (1, .int (i1 + (x_first i3.toNatClampNeg))), (0, .ref ax), (2, .int i2)]) hx hb dX0_shareOneRow_54 hl (k := 3) rfl rfl (by decide) rfl (fun ls hl => ?_)
          refine lv_goto (tgt := 6) hx hb dX0_shareOneRow_57 (by decide) ?_
          exact ih6 (i1 + (x_first i3.toNatClampNeg)) i2 (i3 + (1 : Int32)) (upd x_ready i3.toNatClampNeg (i1 + (x_first i3.toNatClampNeg))) _ _ _ hP hD hS (lv_sub hl [2, 1, 3, 0] rfl) hf
  exact hL6 300 (0 : Int32) (0 : Int32) (0 : Int32) x_ready _ _ _ hP hD hS (lv_sub hl [3, 2, 1, 0] rfl) hf
abbrev rX0_servedThere : Room := { frames := 1, cells := 0, slots := 0, locals := 21 }
set_option maxHeartbeats 4000000 in
set_option maxRecDepth 100000 in
theorem c_X0_servedThere (l : Launch) (D : va_G) (cyI cyC cyS : ClassId) (sz : Nat) (ax : Nat) (ax_kind : Nat) (ax_walk : Nat) (ax_first : Nat) (ax_second : Nat) (ax_order : Nat) (ax_ready : Nat) (x_people : Int32) (x_away : Int32) (x_order : Nat → Int32) (i1 : Int32) {r : Int32} (hf : S_X0_servedThere i1 x_people x_away x_order = some r) : Met l yX0_servedThere wsX0_servedThere rX0_servedThere (Cpre [.ref ax, .int i1] D cyI cyC cyS sz [(ax, .inr (0, [.ref ax_kind, .ref ax_walk, .ref ax_first, .ref ax_second, .ref ax_order, .ref ax_ready, .int x_people, .int x_away])), (ax_order, .inl (cyI, 8, .inl x_order))]) (CQi r D [(ax, .inr (0, [.ref ax_kind, .ref ax_walk, .ref ax_first, .ref ax_second, .ref ax_order, .ref ax_ready, .int x_people, .int x_away])), (ax_order, .inl (cyI, 8, .inl x_order))] (va_A [(ax, .inr (0, [.ref ax_kind, .ref ax_walk, .ref ax_first, .ref ax_second, .ref ax_order, .ref ax_ready, .int x_people, .int x_away])), (ax_order, .inl (cyI, 8, .inl x_order))] sz)) 0 0 (va_A [(ax, .inr (0, [.ref ax_kind, .ref ax_walk, .ref ax_first, .ref ax_second, .ref ax_order, .ref ax_ready, .int x_people, .int x_away])), (ax_order, .inl (cyI, 8, .inl x_order))] sz) := by
  refine Met.ofW (cc := cX0_servedThere) (maxL := 4) (ret := (some .int)) (by decide) rfl ?_
  intro p e s m args below meth c s₁ B hml hv
  obtain ⟨rfl, hsz, hP, hK, hD0⟩ := hv
  have hx := B.exec
  have hb := B.bytes
  have hr := B.returns
  have hts := atoms_spec (ws := wsX0_servedThere) B.pre
  have hown : s.vm.findClass RX0 = some m.cls := findClass_of_methodNamed B.named
  have hlocks := B.notSynchronized
  subst hsz
  have hD := hD0.self (sz := s.heap.size)
  generalize hAe : va_A [(ax, .inr (0, [.ref ax_kind, .ref ax_walk, .ref ax_first, .ref ax_second, .ref ax_order, .ref ax_ready, .int x_people, .int x_away])), (ax_order, .inl (cyI, 8, .inl x_order))] s.heap.size = A at hD ⊢
  have hA : ∀ q : Nat, s.heap.size ≤ q → A q := fun q h => by rw [← hAe]; exact Or.inr h
  have hS : va_S A s.heap s.heap [] := va_S.rf
  have hl := lv_entry ([.ref ax, .int i1]) (n := 4) (Nat.le_of_ble_eq_true rfl)
  rw [lg_entry_eq]
  generalize (lg_sl ([.ref ax, .int i1]) ++ List.replicate (4 - (lg_sl ([.ref ax, .int i1])).length) Slot.unset).toArray = ls at hl ⊢
  have hl : lv_has ls 4 [(0, .ref ax), (1, .int i1)] := hl
  have f36 := hts (.fieldLink RX0 36 "SecondTill$Crossing" "people" "I") (by decide +kernel)
  have inX0 : ∀ w ∈ u_ws RX0 TX0 8, w ∈ wsX0_servedThere := by decide +kernel
  have f24 := hts (.fieldLink RX0 24 "SecondTill$Crossing" "order" "[I") (by decide +kernel)
  unfold S_X0_servedThere at hf
  have hP : va_P D vwCl [(ax, .inr (0, [.ref ax_kind, .ref ax_walk, .ref ax_first, .ref ax_second, .ref ax_order, .ref ax_ready, .int x_people, .int x_away])), (ax_order, .inl (cyI, 8, .inl x_order))] s.heap := hP
  suffices hgo : ∀ (H : Heap) (locs : List Loc), va_P D vwCl [(ax, .inr (0, [.ref ax_kind, .ref ax_walk, .ref ax_first, .ref ax_second, .ref ax_order, .ref ax_ready, .int x_people, .int x_away])), (ax_order, .inl (cyI, 8, .inl x_order))] H → va_S A s.heap H locs → W p l e rX0_servedThere s m (([.ref ax, .int i1] : List Value).toArray) below meth c H locs 0 0 (MQ below (CQi r D [(ax, .inr (0, [.ref ax_kind, .ref ax_walk, .ref ax_first, .ref ax_second, .ref ax_order, .ref ax_ready, .int x_people, .int x_away])), (ax_order, .inl (cyI, 8, .inl x_order))] A) (([.ref ax, .int i1] : List Value).toArray) s 0 0 A) (F0 m 0 ls []) from hgo _ _ hP hS
  clear hP hS
  intro H locs hP hS
  refine lv_iconst (v := 0) hx hb dX0_servedThere_0 (by decide) ?_
  refine lv_istore_n (lv' := [(2, .int (0 : Int32)), (0, .ref ax), (1, .int i1)]) hx hb dX0_servedThere_1 rfl hl (by decide) rfl (fun ls hl => ?_)
  refine lv_iconst (v := 0) hx hb dX0_servedThere_2 (by decide) ?_
  refine lv_istore_n (lv' := [(3, .int (0 : Int32)), (2, .int (0 : Int32)), (0, .ref ax), (1, .int i1)]) hx hb dX0_servedThere_3 rfl hl (by decide) rfl (fun ls hl => ?_)
  have hL4 : ∀ (n4 : Nat) (i2 : Int32) (i3 : Int32) (H : Heap) (locs : List Loc) (ls : Array Slot), va_P D vwCl [(ax, .inr (0, [.ref ax_kind, .ref ax_walk, .ref ax_first, .ref ax_second, .ref ax_order, .ref ax_ready, .int x_people, .int x_away])), (ax_order, .inl (cyI, 8, .inl x_order))] H → va_D A [(ax, .inr (0, [.ref ax_kind, .ref ax_walk, .ref ax_first, .ref ax_second, .ref ax_order, .ref ax_ready, .int x_people, .int x_away])), (ax_order, .inl (cyI, 8, .inl x_order))] → va_S A s.heap H locs → lv_has ls 4 [(0, .ref ax), (1, .int i1), (2, .int i2), (3, .int i3)] → S_X0_servedThere_L4 i1 x_people x_away x_order n4 i2 i3 = some r → W p l e rX0_servedThere s m (([.ref ax, .int i1] : List Value).toArray) below meth c H locs 0 0 (MQ below (CQi r D [(ax, .inr (0, [.ref ax_kind, .ref ax_walk, .ref ax_first, .ref ax_second, .ref ax_order, .ref ax_ready, .int x_people, .int x_away])), (ax_order, .inl (cyI, 8, .inl x_order))] A) (([.ref ax, .int i1] : List Value).toArray) s 0 0 A) (F0 m 4 ls []) := by
    intro n4
    induction n4 with
    | zero => intro i2 i3 H locs ls hP hD hS hl hf; exact absurd hf (by simp [S_X0_servedThere_L4])
    | succ n4 ih4 =>
      intro i2 i3 H locs ls hP hD hS hl hf
      rw [S_X0_servedThere_L4] at hf
      refine lv_iload_n hx hb dX0_servedThere_4 rfl (lv_at hl 3 rfl) ?_
      refine lv_aload_n hx hb dX0_servedThere_5 rfl (lv_at hl 0 rfl) ?_
      refine va_get (C := RX0) (T := TX0) (N := 8) hx hb hts inX0 hown hK.1 hP 0 rfl rfl 6 (by decide) f36 (fun _ h9 => h9) rfl dX0_servedThere_6 ?_
      refine lv_icmp_ge (tgt := 46) hx hb dX0_servedThere_9 (by decide) (fun c9 => ?_) (fun c9 => ?_)
      · replace hf := ip c9 hf
        refine lv_bipush (v := -4) hx hb dX0_servedThere_46 (by decide) ?_
        obtain rfl := Option.some.inj hf
        exact W.iret hx hb hr (fun t ht hW => ⟨⟨_, (), rfl, rfl, by rw [ht]; exact hP, hD⟩, hS.F ht⟩) hS.2.2 dX0_servedThere_48
      · replace hf := iq c9 hf
        refine lv_aload_n hx hb dX0_servedThere_12 rfl (lv_at hl 0 rfl) ?_
        refine lv_aload_n hx hb dX0_servedThere_13 rfl (lv_at hl 0 rfl) ?_
        refine va_get (C := RX0) (T := TX0) (N := 8) hx hb hts inX0 hown hK.1 hP 0 rfl rfl 4 (by decide) f24 (fun _ h9 => h9) rfl dX0_servedThere_14 ?_
        refine lv_iload_n hx hb dX0_servedThere_17 rfl (lv_at hl 3 rfl) ?_
        obtain ⟨z18, hf⟩ := oi hf
        refine a_ild hx hb hK hP 1 rfl z18 i3.toNatClampNeg rfl dX0_servedThere_18 ?_
        obtain ⟨r19, q19, hf⟩ := ob hf
        refine k_i (wc := [(ax, .inr (0, [.ref ax_kind, .ref ax_walk, .ref ax_first, .ref ax_second, .ref ax_order, .ref ax_ready, .int x_people, .int x_away]))]) (wr := [(ax_order, .inl (cyI, 8, .inl x_order))]) (w1 := [(ax, .inr (0, [.ref ax_kind, .ref ax_walk, .ref ax_first, .ref ax_second, .ref ax_order, .ref ax_ready, .int x_people, .int x_away]))]) (wn := [(ax, .inr (0, [.ref ax_kind, .ref ax_walk, .ref ax_first, .ref ax_second, .ref ax_order, .ref ax_ready, .int x_people, .int x_away])), (ax_order, .inl (cyI, 8, .inl x_order))]) (va_runV (As := [.int (x_order i3.toNatClampNeg)]) (rest := []) ⟨hx, hb, hml, hown, hts⟩ (c_X0_isAway l D cyI cyC cyS H.size ax ax_kind ax_walk ax_first ax_second ax_order ax_ready x_people x_away (x_order i3.toNatClampNeg) q19) (cwV 1 hts gX0_servedThere_X0_isAway rfl rfl rfl (by decide +kernel) ⟨Nat.le_of_ble_eq_true rfl, Nat.le_of_ble_eq_true rfl⟩) (preV (ci := 0) hK (hP.subm (ws' := [(ax, .inr (0, [.ref ax_kind, .ref ax_walk, .ref ax_first, .ref ax_second, .ref ax_order, .ref ax_ready, .int x_people, .int x_away]))]) [0] rfl) (hD.sub (ws' := [(ax, .inr (0, [.ref ax_kind, .ref ax_walk, .ref ax_first, .ref ax_second, .ref ax_order, .ref ax_ready, .int x_people, .int x_away]))]) [0] (by decide) rfl) rfl rfl) rfl rfl hl.1 rfl (lv_room (Nat.le_of_ble_eq_true rfl)) dX0_servedThere_19 ⟨Nat.le_of_ble_eq_true rfl, Nat.le_of_ble_eq_true rfl⟩) hP hD hS hA [0] [1] [1, 0] rfl rfl rfl (by decide) (by decide) (by decide) (fun H locs hP hD hS => ?_)
        refine lv_if_eq (tgt := 40) hx hb dX0_servedThere_22 (by decide) (fun c22 => ?_) (fun c22 => ?_)
        · replace hf := ip c22 hf
          refine lv_iinc (v := i3 + (1 : Int32)) (lv' := [(3, .int (i3 + (1 : Int32))), (0, .ref ax), (1, .int i1), (2, .int i2)]) hx hb dX0_servedThere_40 hl (k := 3) rfl rfl (by decide) rfl (fun ls hl => ?_)
          refine lv_goto (tgt := 4) hx hb dX0_servedThere_43 (by decide) ?_
          exact ih4 i2 (i3 + (1 : Int32)) _ _ _ hP hD hS (lv_sub hl [1, 2, 3, 0] rfl) hf
        · replace hf := iq c22 hf
          refine lv_iload_n hx hb dX0_servedThere_25 rfl (lv_at hl 2 rfl) ?_
          refine lv_iload_n hx hb dX0_servedThere_26 rfl (lv_at hl 1 rfl) ?_
          refine lv_icmp_ne (tgt := 37) hx hb dX0_servedThere_27 (by decide) (fun c27 => ?_) (fun c27 => ?_)
          · replace hf := iq c27 hf
            refine lv_iinc (v := i2 + (1 : Int32)) (lv' := [(2, .int (i2 + (1 : Int32))), (0, .ref ax), (1, .int i1), (3, .int i3)]) hx hb dX0_servedThere_37 hl (k := 2) rfl rfl (by decide) rfl (fun ls hl => ?_)
            refine lv_iinc (v := i3 + (1 : Int32)) (lv' := [(3, .int (i3 + (1 : Int32))), (2, .int (i2 + (1 : Int32))), (0, .ref ax), (1, .int i1)]) hx hb dX0_servedThere_40 hl (k := 3) rfl rfl (by decide) rfl (fun ls hl => ?_)
            refine lv_goto (tgt := 4) hx hb dX0_servedThere_43 (by decide) ?_
            exact ih4 (i2 + (1 : Int32)) (i3 + (1 : Int32)) _ _ _ hP hD hS (lv_sub hl [2, 3, 1, 0] rfl) hf
          · replace hf := ip c27 hf
            refine lv_aload_n hx hb dX0_servedThere_30 rfl (lv_at hl 0 rfl) ?_
            refine va_get (C := RX0) (T := TX0) (N := 8) hx hb hts inX0 hown hK.1 hP 0 rfl rfl 4 (by decide) f24 (fun _ h9 => h9) rfl dX0_servedThere_31 ?_
            refine lv_iload_n hx hb dX0_servedThere_34 rfl (lv_at hl 3 rfl) ?_
            obtain ⟨z35, hf⟩ := oi hf
            refine a_ild hx hb hK hP 1 rfl z35 i3.toNatClampNeg rfl dX0_servedThere_35 ?_
            obtain rfl := Option.some.inj hf
            exact W.iret hx hb hr (fun t ht hW => ⟨⟨_, (), rfl, rfl, by rw [ht]; exact hP, hD⟩, hS.F ht⟩) hS.2.2 dX0_servedThere_36
  exact hL4 300 (0 : Int32) (0 : Int32) _ _ _ hP hD hS (lv_sub hl [2, 3, 1, 0] rfl) hf
abbrev rX0_latest : Room := { frames := 1, cells := 0, slots := 0, locals := 21 }
set_option maxHeartbeats 4000000 in
set_option maxRecDepth 100000 in
theorem c_X0_latest (l : Launch) (D : va_G) (cyI cyC cyS : ClassId) (sz : Nat) (ax : Nat) (ax_kind : Nat) (ax_walk : Nat) (ax_first : Nat) (ax_second : Nat) (ax_order : Nat) (ax_ready : Nat) (x_people : Int32) (x_away : Int32) (x_ready : Nat → Int32) {r : Int32} (hf : S_X0_latest x_people x_ready = some r) : Met l yX0_latest wsX0_latest rX0_latest (Cpre [.ref ax] D cyI cyC cyS sz [(ax, .inr (0, [.ref ax_kind, .ref ax_walk, .ref ax_first, .ref ax_second, .ref ax_order, .ref ax_ready, .int x_people, .int x_away])), (ax_ready, .inl (cyI, 8, .inl x_ready))]) (CQi r D [(ax, .inr (0, [.ref ax_kind, .ref ax_walk, .ref ax_first, .ref ax_second, .ref ax_order, .ref ax_ready, .int x_people, .int x_away])), (ax_ready, .inl (cyI, 8, .inl x_ready))] (va_A [(ax, .inr (0, [.ref ax_kind, .ref ax_walk, .ref ax_first, .ref ax_second, .ref ax_order, .ref ax_ready, .int x_people, .int x_away])), (ax_ready, .inl (cyI, 8, .inl x_ready))] sz)) 0 0 (va_A [(ax, .inr (0, [.ref ax_kind, .ref ax_walk, .ref ax_first, .ref ax_second, .ref ax_order, .ref ax_ready, .int x_people, .int x_away])), (ax_ready, .inl (cyI, 8, .inl x_ready))] sz) := by
  refine Met.ofW (cc := cX0_latest) (maxL := 3) (ret := (some .int)) (by decide) rfl ?_
  intro p e s m args below meth c s₁ B hml hv
  obtain ⟨rfl, hsz, hP, hK, hD0⟩ := hv
  have hx := B.exec
  have hb := B.bytes
  have hr := B.returns
  have hts := atoms_spec (ws := wsX0_latest) B.pre
  have hown : s.vm.findClass RX0 = some m.cls := findClass_of_methodNamed B.named
  have hlocks := B.notSynchronized
  subst hsz
  have hD := hD0.self (sz := s.heap.size)
  generalize hAe : va_A [(ax, .inr (0, [.ref ax_kind, .ref ax_walk, .ref ax_first, .ref ax_second, .ref ax_order, .ref ax_ready, .int x_people, .int x_away])), (ax_ready, .inl (cyI, 8, .inl x_ready))] s.heap.size = A at hD ⊢
  have hA : ∀ q : Nat, s.heap.size ≤ q → A q := fun q h => by rw [← hAe]; exact Or.inr h
  have hS : va_S A s.heap s.heap [] := va_S.rf
  have hl := lv_entry ([.ref ax]) (n := 3) (Nat.le_of_ble_eq_true rfl)
  rw [lg_entry_eq]
  generalize (lg_sl ([.ref ax]) ++ List.replicate (3 - (lg_sl ([.ref ax])).length) Slot.unset).toArray = ls at hl ⊢
  have hl : lv_has ls 3 [(0, .ref ax)] := hl
  have f36 := hts (.fieldLink RX0 36 "SecondTill$Crossing" "people" "I") (by decide +kernel)
  have inX0 : ∀ w ∈ u_ws RX0 TX0 8, w ∈ wsX0_latest := by decide +kernel
  have f27 := hts (.fieldLink RX0 27 "SecondTill$Crossing" "ready" "[I") (by decide +kernel)
  have mx1 := hts (.methodLink RX0 56 Lib.Math.max.name) (by decide +kernel)
  have mx2 := hts (.static Lib.Math.max.name) (by decide +kernel)
  have mx3 := hts (.initialized "java/lang/Math") (by decide +kernel)
  have mx4 := hts (.code Lib.Math.max.name Lib.Math.max.code 2 (some .int)) (by decide +kernel)
  unfold S_X0_latest at hf
  have hP : va_P D vwCl [(ax, .inr (0, [.ref ax_kind, .ref ax_walk, .ref ax_first, .ref ax_second, .ref ax_order, .ref ax_ready, .int x_people, .int x_away])), (ax_ready, .inl (cyI, 8, .inl x_ready))] s.heap := hP
  suffices hgo : ∀ (H : Heap) (locs : List Loc), va_P D vwCl [(ax, .inr (0, [.ref ax_kind, .ref ax_walk, .ref ax_first, .ref ax_second, .ref ax_order, .ref ax_ready, .int x_people, .int x_away])), (ax_ready, .inl (cyI, 8, .inl x_ready))] H → va_S A s.heap H locs → W p l e rX0_latest s m (([.ref ax] : List Value).toArray) below meth c H locs 0 0 (MQ below (CQi r D [(ax, .inr (0, [.ref ax_kind, .ref ax_walk, .ref ax_first, .ref ax_second, .ref ax_order, .ref ax_ready, .int x_people, .int x_away])), (ax_ready, .inl (cyI, 8, .inl x_ready))] A) (([.ref ax] : List Value).toArray) s 0 0 A) (F0 m 0 ls []) from hgo _ _ hP hS
  clear hP hS
  intro H locs hP hS
  refine lv_iconst (v := 0) hx hb dX0_latest_0 (by decide) ?_
  refine lv_istore_n (lv' := [(1, .int (0 : Int32)), (0, .ref ax)]) hx hb dX0_latest_1 rfl hl (by decide) rfl (fun ls hl => ?_)
  refine lv_iconst (v := 0) hx hb dX0_latest_2 (by decide) ?_
  refine lv_istore_n (lv' := [(2, .int (0 : Int32)), (1, .int (0 : Int32)), (0, .ref ax)]) hx hb dX0_latest_3 rfl hl (by decide) rfl (fun ls hl => ?_)
  have hL4 : ∀ (n4 : Nat) (i1 : Int32) (i2 : Int32) (H : Heap) (locs : List Loc) (ls : Array Slot), va_P D vwCl [(ax, .inr (0, [.ref ax_kind, .ref ax_walk, .ref ax_first, .ref ax_second, .ref ax_order, .ref ax_ready, .int x_people, .int x_away])), (ax_ready, .inl (cyI, 8, .inl x_ready))] H → va_D A [(ax, .inr (0, [.ref ax_kind, .ref ax_walk, .ref ax_first, .ref ax_second, .ref ax_order, .ref ax_ready, .int x_people, .int x_away])), (ax_ready, .inl (cyI, 8, .inl x_ready))] → va_S A s.heap H locs → lv_has ls 3 [(0, .ref ax), (1, .int i1), (2, .int i2)] → S_X0_latest_L4 x_people x_ready n4 i1 i2 = some r → W p l e rX0_latest s m (([.ref ax] : List Value).toArray) below meth c H locs 0 0 (MQ below (CQi r D [(ax, .inr (0, [.ref ax_kind, .ref ax_walk, .ref ax_first, .ref ax_second, .ref ax_order, .ref ax_ready, .int x_people, .int x_away])), (ax_ready, .inl (cyI, 8, .inl x_ready))] A) (([.ref ax] : List Value).toArray) s 0 0 A) (F0 m 4 ls []) := by
    intro n4
    induction n4 with
    | zero => intro i1 i2 H locs ls hP hD hS hl hf; exact absurd hf (by simp [S_X0_latest_L4])
    | succ n4 ih4 =>
      intro i1 i2 H locs ls hP hD hS hl hf
      rw [S_X0_latest_L4] at hf
      refine lv_iload_n hx hb dX0_latest_4 rfl (lv_at hl 2 rfl) ?_
      refine lv_aload_n hx hb dX0_latest_5 rfl (lv_at hl 0 rfl) ?_
      refine va_get (C := RX0) (T := TX0) (N := 8) hx hb hts inX0 hown hK.1 hP 0 rfl rfl 6 (by decide) f36 (fun _ h9 => h9) rfl dX0_latest_6 ?_
      refine lv_icmp_ge (tgt := 29) hx hb dX0_latest_9 (by decide) (fun c9 => ?_) (fun c9 => ?_)
      · replace hf := ip c9 hf
        refine lv_iload_n hx hb dX0_latest_29 rfl (lv_at hl 1 rfl) ?_
        obtain rfl := Option.some.inj hf
        exact W.iret hx hb hr (fun t ht hW => ⟨⟨_, (), rfl, rfl, by rw [ht]; exact hP, hD⟩, hS.F ht⟩) hS.2.2 dX0_latest_30
      · replace hf := iq c9 hf
        refine lv_iload_n hx hb dX0_latest_12 rfl (lv_at hl 1 rfl) ?_
        refine lv_aload_n hx hb dX0_latest_13 rfl (lv_at hl 0 rfl) ?_
        refine va_get (C := RX0) (T := TX0) (N := 8) hx hb hts inX0 hown hK.1 hP 0 rfl rfl 5 (by decide) f27 (fun _ h9 => h9) rfl dX0_latest_14 ?_
        refine lv_iload_n hx hb dX0_latest_17 rfl (lv_at hl 2 rfl) ?_
        obtain ⟨z18, hf⟩ := oi hf
        refine a_ild hx hb hK hP 1 rfl z18 i2.toNatClampNeg rfl dX0_latest_18 ?_
        refine va_mmax hx hb (hml.trans hl.1.symm) hown mx1 mx2 mx3 mx4 (Nat.le_of_ble_eq_true rfl) (Nat.le_of_ble_eq_true rfl) (Nat.le_of_ble_eq_true rfl) (Nat.le_of_ble_eq_true rfl) dX0_latest_19 ?_
        refine lv_topi (fun v22 ev22 => ?_)
        replace hf := nm_h hf v22 ev22
        refine lv_istore_n (lv' := [(1, .int v22), (0, .ref ax), (2, .int i2)]) hx hb dX0_latest_22 rfl hl (by decide) rfl (fun ls hl => ?_)
        refine lv_iinc (v := i2 + (1 : Int32)) (lv' := [(2, .int (i2 + (1 : Int32))), (1, .int v22), (0, .ref ax)]) hx hb dX0_latest_23 hl (k := 2) rfl rfl (by decide) rfl (fun ls hl => ?_)
        refine lv_goto (tgt := 4) hx hb dX0_latest_26 (by decide) ?_
        exact ih4 v22 (i2 + (1 : Int32)) _ _ _ hP hD hS (lv_sub hl [2, 1, 0] rfl) hf
  exact hL4 300 (0 : Int32) (0 : Int32) _ _ _ hP hD hS (lv_sub hl [2, 1, 0] rfl) hf
abbrev rX0_sumOfHead : Room := { frames := 0, cells := 0, slots := 0, locals := 0 }
set_option maxHeartbeats 4000000 in
set_option maxRecDepth 100000 in
theorem c_X0_sumOfHead (l : Launch) (D : va_G) (cyI cyC cyS : ClassId) (sz : Nat) (ax : Nat) (ax_kind : Nat) (ax_walk : Nat) (ax_first : Nat) (ax_second : Nat) (ax_order : Nat) (ax_ready : Nat) (x_people : Int32) (x_away : Int32) (x_ready : Nat → Int32) (i1 : Int32) {r : Int32} (hf : S_X0_sumOfHead i1 x_people x_ready = some r) : Met l yX0_sumOfHead wsX0_sumOfHead rX0_sumOfHead (Cpre [.ref ax, .int i1] D cyI cyC cyS sz [(ax, .inr (0, [.ref ax_kind, .ref ax_walk, .ref ax_first, .ref ax_second, .ref ax_order, .ref ax_ready, .int x_people, .int x_away])), (ax_ready, .inl (cyI, 8, .inl x_ready))]) (CQi r D [(ax, .inr (0, [.ref ax_kind, .ref ax_walk, .ref ax_first, .ref ax_second, .ref ax_order, .ref ax_ready, .int x_people, .int x_away])), (ax_ready, .inl (cyI, 8, .inl x_ready))] (va_A [(ax, .inr (0, [.ref ax_kind, .ref ax_walk, .ref ax_first, .ref ax_second, .ref ax_order, .ref ax_ready, .int x_people, .int x_away])), (ax_ready, .inl (cyI, 8, .inl x_ready))] sz)) 0 0 (va_A [(ax, .inr (0, [.ref ax_kind, .ref ax_walk, .ref ax_first, .ref ax_second, .ref ax_order, .ref ax_ready, .int x_people, .int x_away])), (ax_ready, .inl (cyI, 8, .inl x_ready))] sz) := by
  refine Met.ofW (cc := cX0_sumOfHead) (maxL := 4) (ret := (some .int)) (by decide) rfl ?_
  intro p e s m args below meth c s₁ B hml hv
  obtain ⟨rfl, hsz, hP, hK, hD0⟩ := hv
  have hx := B.exec
  have hb := B.bytes
  have hr := B.returns
  have hts := atoms_spec (ws := wsX0_sumOfHead) B.pre
  have hown : s.vm.findClass RX0 = some m.cls := findClass_of_methodNamed B.named
  have hlocks := B.notSynchronized
  subst hsz
  have hD := hD0.self (sz := s.heap.size)
  generalize hAe : va_A [(ax, .inr (0, [.ref ax_kind, .ref ax_walk, .ref ax_first, .ref ax_second, .ref ax_order, .ref ax_ready, .int x_people, .int x_away])), (ax_ready, .inl (cyI, 8, .inl x_ready))] s.heap.size = A at hD ⊢
  have hA : ∀ q : Nat, s.heap.size ≤ q → A q := fun q h => by rw [← hAe]; exact Or.inr h
  have hS : va_S A s.heap s.heap [] := va_S.rf
  have hl := lv_entry ([.ref ax, .int i1]) (n := 4) (Nat.le_of_ble_eq_true rfl)
  rw [lg_entry_eq]
  generalize (lg_sl ([.ref ax, .int i1]) ++ List.replicate (4 - (lg_sl ([.ref ax, .int i1])).length) Slot.unset).toArray = ls at hl ⊢
  have hl : lv_has ls 4 [(0, .ref ax), (1, .int i1)] := hl
  have f36 := hts (.fieldLink RX0 36 "SecondTill$Crossing" "people" "I") (by decide +kernel)
  have inX0 : ∀ w ∈ u_ws RX0 TX0 8, w ∈ wsX0_sumOfHead := by decide +kernel
  have f27 := hts (.fieldLink RX0 27 "SecondTill$Crossing" "ready" "[I") (by decide +kernel)
  unfold S_X0_sumOfHead at hf
  have hP : va_P D vwCl [(ax, .inr (0, [.ref ax_kind, .ref ax_walk, .ref ax_first, .ref ax_second, .ref ax_order, .ref ax_ready, .int x_people, .int x_away])), (ax_ready, .inl (cyI, 8, .inl x_ready))] s.heap := hP
  suffices hgo : ∀ (H : Heap) (locs : List Loc), va_P D vwCl [(ax, .inr (0, [.ref ax_kind, .ref ax_walk, .ref ax_first, .ref ax_second, .ref ax_order, .ref ax_ready, .int x_people, .int x_away])), (ax_ready, .inl (cyI, 8, .inl x_ready))] H → va_S A s.heap H locs → W p l e rX0_sumOfHead s m (([.ref ax, .int i1] : List Value).toArray) below meth c H locs 0 0 (MQ below (CQi r D [(ax, .inr (0, [.ref ax_kind, .ref ax_walk, .ref ax_first, .ref ax_second, .ref ax_order, .ref ax_ready, .int x_people, .int x_away])), (ax_ready, .inl (cyI, 8, .inl x_ready))] A) (([.ref ax, .int i1] : List Value).toArray) s 0 0 A) (F0 m 0 ls []) from hgo _ _ hP hS
  clear hP hS
  intro H locs hP hS
  refine lv_iconst (v := 0) hx hb dX0_sumOfHead_0 (by decide) ?_
  refine lv_istore_n (lv' := [(2, .int (0 : Int32)), (0, .ref ax), (1, .int i1)]) hx hb dX0_sumOfHead_1 rfl hl (by decide) rfl (fun ls hl => ?_)
  refine lv_iconst (v := 0) hx hb dX0_sumOfHead_2 (by decide) ?_
  refine lv_istore_n (lv' := [(3, .int (0 : Int32)), (2, .int (0 : Int32)), (0, .ref ax), (1, .int i1)]) hx hb dX0_sumOfHead_3 rfl hl (by decide) rfl (fun ls hl => ?_)
  have hL4 : ∀ (n4 : Nat) (i2 : Int32) (i3 : Int32) (H : Heap) (locs : List Loc) (ls : Array Slot), va_P D vwCl [(ax, .inr (0, [.ref ax_kind, .ref ax_walk, .ref ax_first, .ref ax_second, .ref ax_order, .ref ax_ready, .int x_people, .int x_away])), (ax_ready, .inl (cyI, 8, .inl x_ready))] H → va_D A [(ax, .inr (0, [.ref ax_kind, .ref ax_walk, .ref ax_first, .ref ax_second, .ref ax_order, .ref ax_ready, .int x_people, .int x_away])), (ax_ready, .inl (cyI, 8, .inl x_ready))] → va_S A s.heap H locs → lv_has ls 4 [(0, .ref ax), (1, .int i1), (2, .int i2), (3, .int i3)] → S_X0_sumOfHead_L4 i1 x_people x_ready n4 i2 i3 = some r → W p l e rX0_sumOfHead s m (([.ref ax, .int i1] : List Value).toArray) below meth c H locs 0 0 (MQ below (CQi r D [(ax, .inr (0, [.ref ax_kind, .ref ax_walk, .ref ax_first, .ref ax_second, .ref ax_order, .ref ax_ready, .int x_people, .int x_away])), (ax_ready, .inl (cyI, 8, .inl x_ready))] A) (([.ref ax, .int i1] : List Value).toArray) s 0 0 A) (F0 m 4 ls []) := by
    intro n4
    induction n4 with
    | zero => intro i2 i3 H locs ls hP hD hS hl hf; exact absurd hf (by simp [S_X0_sumOfHead_L4])
    | succ n4 ih4 =>
      intro i2 i3 H locs ls hP hD hS hl hf
      rw [S_X0_sumOfHead_L4] at hf
      refine lv_iload_n hx hb dX0_sumOfHead_4 rfl (lv_at hl 3 rfl) ?_
      refine lv_iload_n hx hb dX0_sumOfHead_5 rfl (lv_at hl 1 rfl) ?_
      refine lv_icmp_ge (tgt := 32) hx hb dX0_sumOfHead_6 (by decide) (fun c6 => ?_) (fun c6 => ?_)
      · replace hf := ip c6 hf
        refine lv_iload_n hx hb dX0_sumOfHead_32 rfl (lv_at hl 2 rfl) ?_
        obtain rfl := Option.some.inj hf
        exact W.iret hx hb hr (fun t ht hW => ⟨⟨_, (), rfl, rfl, by rw [ht]; exact hP, hD⟩, hS.F ht⟩) hS.2.2 dX0_sumOfHead_33
      · replace hf := iq c6 hf
        refine lv_iload_n hx hb dX0_sumOfHead_9 rfl (lv_at hl 3 rfl) ?_
        refine lv_aload_n hx hb dX0_sumOfHead_10 rfl (lv_at hl 0 rfl) ?_
        refine va_get (C := RX0) (T := TX0) (N := 8) hx hb hts inX0 hown hK.1 hP 0 rfl rfl 6 (by decide) f36 (fun _ h9 => h9) rfl dX0_sumOfHead_11 ?_
        refine lv_icmp_ge (tgt := 32) hx hb dX0_sumOfHead_14 (by decide) (fun c14 => ?_) (fun c14 => ?_)
        · replace hf := ip c14 hf
          refine lv_iload_n hx hb dX0_sumOfHead_32 rfl (lv_at hl 2 rfl) ?_
          obtain rfl := Option.some.inj hf
          exact W.iret hx hb hr (fun t ht hW => ⟨⟨_, (), rfl, rfl, by rw [ht]; exact hP, hD⟩, hS.F ht⟩) hS.2.2 dX0_sumOfHead_33
        · replace hf := iq c14 hf
          refine lv_iload_n hx hb dX0_sumOfHead_17 rfl (lv_at hl 2 rfl) ?_
          refine lv_aload_n hx hb dX0_sumOfHead_18 rfl (lv_at hl 0 rfl) ?_
          refine va_get (C := RX0) (T := TX0) (N := 8) hx hb hts inX0 hown hK.1 hP 0 rfl rfl 5 (by decide) f27 (fun _ h9 => h9) rfl dX0_sumOfHead_19 ?_
          refine lv_iload_n hx hb dX0_sumOfHead_22 rfl (lv_at hl 3 rfl) ?_
          obtain ⟨z23, hf⟩ := oi hf
          refine a_ild hx hb hK hP 1 rfl z23 i3.toNatClampNeg rfl dX0_sumOfHead_23 ?_
          refine lv_iadd hx hb dX0_sumOfHead_24 ?_
          refine lv_istore_n (lv' := [(2, .int (i2 + (x_ready i3.toNatClampNeg))), (0, .ref ax), (1, .int i1), (3, .int i3)]) hx hb dX0_sumOfHead_25 rfl hl (by decide) rfl (fun ls hl => ?_)
          refine lv_iinc (v := i3 + (1 : Int32)) (lv' := [(3, .int (i3 + (1 : Int32))), (2, .int (i2 + (x_ready i3.toNatClampNeg))), (0, .ref ax), (1, .int i1)]) hx hb dX0_sumOfHead_26 hl (k := 3) rfl rfl (by decide) rfl (fun ls hl => ?_)
          refine lv_goto (tgt := 4) hx hb dX0_sumOfHead_29 (by decide) ?_
          exact ih4 (i2 + (x_ready i3.toNatClampNeg)) (i3 + (1 : Int32)) _ _ _ hP hD hS (lv_sub hl [2, 3, 1, 0] rfl) hf
  exact hL4 300 (0 : Int32) (0 : Int32) _ _ _ hP hD hS (lv_sub hl [2, 3, 1, 0] rfl) hf
abbrev rX0_sum : Room := { frames := 1, cells := 0, slots := 0, locals := 23 }
set_option maxHeartbeats 4000000 in
set_option maxRecDepth 100000 in
theorem c_X0_sum (l : Launch) (D : va_G) (cyI cyC cyS : ClassId) (sz : Nat) (ax : Nat) (ax_kind : Nat) (ax_walk : Nat) (ax_first : Nat) (ax_second : Nat) (ax_order : Nat) (ax_ready : Nat) (x_people : Int32) (x_away : Int32) (x_ready : Nat → Int32) {r : Int32} (hf : S_X0_sum x_people x_ready = some r) : Met l yX0_sum wsX0_sum rX0_sum (Cpre [.ref ax] D cyI cyC cyS sz [(ax, .inr (0, [.ref ax_kind, .ref ax_walk, .ref ax_first, .ref ax_second, .ref ax_order, .ref ax_ready, .int x_people, .int x_away])), (ax_ready, .inl (cyI, 8, .inl x_ready))]) (CQi r D [(ax, .inr (0, [.ref ax_kind, .ref ax_walk, .ref ax_first, .ref ax_second, .ref ax_order, .ref ax_ready, .int x_people, .int x_away])), (ax_ready, .inl (cyI, 8, .inl x_ready))] (va_A [(ax, .inr (0, [.ref ax_kind, .ref ax_walk, .ref ax_first, .ref ax_second, .ref ax_order, .ref ax_ready, .int x_people, .int x_away])), (ax_ready, .inl (cyI, 8, .inl x_ready))] sz)) 0 0 (va_A [(ax, .inr (0, [.ref ax_kind, .ref ax_walk, .ref ax_first, .ref ax_second, .ref ax_order, .ref ax_ready, .int x_people, .int x_away])), (ax_ready, .inl (cyI, 8, .inl x_ready))] sz) := by
  refine Met.ofW (cc := cX0_sum) (maxL := 1) (ret := (some .int)) (by decide) rfl ?_
  intro p e s m args below meth c s₁ B hml hv
  obtain ⟨rfl, hsz, hP, hK, hD0⟩ := hv
  have hx := B.exec
  have hb := B.bytes
  have hr := B.returns
  have hts := atoms_spec (ws := wsX0_sum) B.pre
  have hown : s.vm.findClass RX0 = some m.cls := findClass_of_methodNamed B.named
  have hlocks := B.notSynchronized
  subst hsz
  have hD := hD0.self (sz := s.heap.size)
  generalize hAe : va_A [(ax, .inr (0, [.ref ax_kind, .ref ax_walk, .ref ax_first, .ref ax_second, .ref ax_order, .ref ax_ready, .int x_people, .int x_away])), (ax_ready, .inl (cyI, 8, .inl x_ready))] s.heap.size = A at hD ⊢
  have hA : ∀ q : Nat, s.heap.size ≤ q → A q := fun q h => by rw [← hAe]; exact Or.inr h
  have hS : va_S A s.heap s.heap [] := va_S.rf
  have hl := lv_entry ([.ref ax]) (n := 1) (Nat.le_of_ble_eq_true rfl)
  rw [lg_entry_eq]
  generalize (lg_sl ([.ref ax]) ++ List.replicate (1 - (lg_sl ([.ref ax])).length) Slot.unset).toArray = ls at hl ⊢
  have hl : lv_has ls 1 [(0, .ref ax)] := hl
  have f36 := hts (.fieldLink RX0 36 "SecondTill$Crossing" "people" "I") (by decide +kernel)
  have inX0 : ∀ w ∈ u_ws RX0 TX0 8, w ∈ wsX0_sum := by decide +kernel
  unfold S_X0_sum at hf
  have hP : va_P D vwCl [(ax, .inr (0, [.ref ax_kind, .ref ax_walk, .ref ax_first, .ref ax_second, .ref ax_order, .ref ax_ready, .int x_people, .int x_away])), (ax_ready, .inl (cyI, 8, .inl x_ready))] s.heap := hP
  suffices hgo : ∀ (H : Heap) (locs : List Loc), va_P D vwCl [(ax, .inr (0, [.ref ax_kind, .ref ax_walk, .ref ax_first, .ref ax_second, .ref ax_order, .ref ax_ready, .int x_people, .int x_away])), (ax_ready, .inl (cyI, 8, .inl x_ready))] H → va_S A s.heap H locs → W p l e rX0_sum s m (([.ref ax] : List Value).toArray) below meth c H locs 0 0 (MQ below (CQi r D [(ax, .inr (0, [.ref ax_kind, .ref ax_walk, .ref ax_first, .ref ax_second, .ref ax_order, .ref ax_ready, .int x_people, .int x_away])), (ax_ready, .inl (cyI, 8, .inl x_ready))] A) (([.ref ax] : List Value).toArray) s 0 0 A) (F0 m 0 ls []) from hgo _ _ hP hS
  clear hP hS
  intro H locs hP hS
  refine lv_aload_n hx hb dX0_sum_0 rfl (lv_at hl 0 rfl) ?_
  refine lv_aload_n hx hb dX0_sum_1 rfl (lv_at hl 0 rfl) ?_
  refine va_get (C := RX0) (T := TX0) (N := 8) hx hb hts inX0 hown hK.1 hP 0 rfl rfl 6 (by decide) f36 (fun _ h9 => h9) rfl dX0_sum_2 ?_
  obtain ⟨r5, q5, hf⟩ := ob hf
  refine k_i (wc := [(ax, .inr (0, [.ref ax_kind, .ref ax_walk, .ref ax_first, .ref ax_second, .ref ax_order, .ref ax_ready, .int x_people, .int x_away])), (ax_ready, .inl (cyI, 8, .inl x_ready))]) (wr := []) (w1 := [(ax, .inr (0, [.ref ax_kind, .ref ax_walk, .ref ax_first, .ref ax_second, .ref ax_order, .ref ax_ready, .int x_people, .int x_away])), (ax_ready, .inl (cyI, 8, .inl x_ready))]) (wn := [(ax, .inr (0, [.ref ax_kind, .ref ax_walk, .ref ax_first, .ref ax_second, .ref ax_order, .ref ax_ready, .int x_people, .int x_away])), (ax_ready, .inl (cyI, 8, .inl x_ready))]) (va_runV (As := [.int x_people]) (rest := []) ⟨hx, hb, hml, hown, hts⟩ (c_X0_sumOfHead l D cyI cyC cyS H.size ax ax_kind ax_walk ax_first ax_second ax_order ax_ready x_people x_away x_ready x_people q5) (cwV 1 hts gX0_sum_X0_sumOfHead rfl rfl rfl (by decide +kernel) ⟨Nat.le_of_ble_eq_true rfl, Nat.le_of_ble_eq_true rfl⟩) (preV (ci := 0) hK (hP.subm (ws' := [(ax, .inr (0, [.ref ax_kind, .ref ax_walk, .ref ax_first, .ref ax_second, .ref ax_order, .ref ax_ready, .int x_people, .int x_away])), (ax_ready, .inl (cyI, 8, .inl x_ready))]) [0, 1] rfl) (hD.sub (ws' := [(ax, .inr (0, [.ref ax_kind, .ref ax_walk, .ref ax_first, .ref ax_second, .ref ax_order, .ref ax_ready, .int x_people, .int x_away])), (ax_ready, .inl (cyI, 8, .inl x_ready))]) [0, 1] (by decide) rfl) rfl rfl) rfl rfl hl.1 rfl (lv_room (Nat.le_of_ble_eq_true rfl)) dX0_sum_5 ⟨Nat.le_of_ble_eq_true rfl, Nat.le_of_ble_eq_true rfl⟩) hP hD hS hA [0, 1] [] [0, 1] rfl rfl rfl (by decide) (by decide) (by decide) (fun H locs hP hD hS => ?_)
  obtain rfl := Option.some.inj hf
  exact W.iret hx hb hr (fun t ht hW => ⟨⟨_, (), rfl, rfl, by rw [ht]; exact hP, hD⟩, hS.F ht⟩) hS.2.2 dX0_sum_8
abbrev rX0_readyOf : Room := { frames := 2, cells := 0, slots := 0, locals := 43 }
set_option maxHeartbeats 4000000 in
set_option maxRecDepth 100000 in
theorem c_X0_readyOf (l : Launch) (D : va_G) (cyI cyC cyS : ClassId) (sz : Nat) (ax : Nat) (ax_kind : Nat) (ax_walk : Nat) (ax_first : Nat) (ax_second : Nat) (ax_order : Nat) (ax_ready : Nat) (x_people : Int32) (x_away : Int32) (x_ready : Nat → Int32) (i1 : Int32) {r : Int32} (hf : S_X0_readyOf i1 x_people x_ready = some r) : Met l yX0_readyOf wsX0_readyOf rX0_readyOf (Cpre [.ref ax, .int i1] D cyI cyC cyS sz [(ax, .inr (0, [.ref ax_kind, .ref ax_walk, .ref ax_first, .ref ax_second, .ref ax_order, .ref ax_ready, .int x_people, .int x_away])), (ax_ready, .inl (cyI, 8, .inl x_ready))]) (CQi r D [(ax, .inr (0, [.ref ax_kind, .ref ax_walk, .ref ax_first, .ref ax_second, .ref ax_order, .ref ax_ready, .int x_people, .int x_away])), (ax_ready, .inl (cyI, 8, .inl x_ready))] (va_A [(ax, .inr (0, [.ref ax_kind, .ref ax_walk, .ref ax_first, .ref ax_second, .ref ax_order, .ref ax_ready, .int x_people, .int x_away])), (ax_ready, .inl (cyI, 8, .inl x_ready))] sz)) 0 0 (va_A [(ax, .inr (0, [.ref ax_kind, .ref ax_walk, .ref ax_first, .ref ax_second, .ref ax_order, .ref ax_ready, .int x_people, .int x_away])), (ax_ready, .inl (cyI, 8, .inl x_ready))] sz) := by
  refine Met.ofW (cc := cX0_readyOf) (maxL := 2) (ret := (some .int)) (by decide) rfl ?_
  intro p e s m args below meth c s₁ B hml hv
  obtain ⟨rfl, hsz, hP, hK, hD0⟩ := hv
  have hx := B.exec
  have hb := B.bytes
  have hr := B.returns
  have hts := atoms_spec (ws := wsX0_readyOf) B.pre
  have hown : s.vm.findClass RX0 = some m.cls := findClass_of_methodNamed B.named
  have hlocks := B.notSynchronized
  subst hsz
  have hD := hD0.self (sz := s.heap.size)
  generalize hAe : va_A [(ax, .inr (0, [.ref ax_kind, .ref ax_walk, .ref ax_first, .ref ax_second, .ref ax_order, .ref ax_ready, .int x_people, .int x_away])), (ax_ready, .inl (cyI, 8, .inl x_ready))] s.heap.size = A at hD ⊢
  have hA : ∀ q : Nat, s.heap.size ≤ q → A q := fun q h => by rw [← hAe]; exact Or.inr h
  have hS : va_S A s.heap s.heap [] := va_S.rf
  have hl := lv_entry ([.ref ax, .int i1]) (n := 2) (Nat.le_of_ble_eq_true rfl)
  rw [lg_entry_eq]
  generalize (lg_sl ([.ref ax, .int i1]) ++ List.replicate (2 - (lg_sl ([.ref ax, .int i1])).length) Slot.unset).toArray = ls at hl ⊢
  have hl : lv_has ls 2 [(0, .ref ax), (1, .int i1)] := hl
  have f36 := hts (.fieldLink RX0 36 "SecondTill$Crossing" "people" "I") (by decide +kernel)
  have inX0 : ∀ w ∈ u_ws RX0 TX0 8, w ∈ wsX0_readyOf := by decide +kernel
  have f27 := hts (.fieldLink RX0 27 "SecondTill$Crossing" "ready" "[I") (by decide +kernel)
  unfold S_X0_readyOf at hf
  have hP : va_P D vwCl [(ax, .inr (0, [.ref ax_kind, .ref ax_walk, .ref ax_first, .ref ax_second, .ref ax_order, .ref ax_ready, .int x_people, .int x_away])), (ax_ready, .inl (cyI, 8, .inl x_ready))] s.heap := hP
  suffices hgo : ∀ (H : Heap) (locs : List Loc), va_P D vwCl [(ax, .inr (0, [.ref ax_kind, .ref ax_walk, .ref ax_first, .ref ax_second, .ref ax_order, .ref ax_ready, .int x_people, .int x_away])), (ax_ready, .inl (cyI, 8, .inl x_ready))] H → va_S A s.heap H locs → W p l e rX0_readyOf s m (([.ref ax, .int i1] : List Value).toArray) below meth c H locs 0 0 (MQ below (CQi r D [(ax, .inr (0, [.ref ax_kind, .ref ax_walk, .ref ax_first, .ref ax_second, .ref ax_order, .ref ax_ready, .int x_people, .int x_away])), (ax_ready, .inl (cyI, 8, .inl x_ready))] A) (([.ref ax, .int i1] : List Value).toArray) s 0 0 A) (F0 m 0 ls []) from hgo _ _ hP hS
  clear hP hS
  intro H locs hP hS
  refine lv_iload_n hx hb dX0_readyOf_0 rfl (lv_at hl 1 rfl) ?_
  refine lv_bipush (v := -2) hx hb dX0_readyOf_1 (by decide) ?_
  refine lv_icmp_ne (tgt := 11) hx hb dX0_readyOf_3 (by decide) (fun c3 => ?_) (fun c3 => ?_)
  · replace hf := iq c3 hf
    refine lv_iload_n hx hb dX0_readyOf_11 rfl (lv_at hl 1 rfl) ?_
    have hJ32 : ∀ (H : Heap) (locs : List Loc) (ls : Array Slot), va_P D vwCl [(ax, .inr (0, [.ref ax_kind, .ref ax_walk, .ref ax_first, .ref ax_second, .ref ax_order, .ref ax_ready, .int x_people, .int x_away])), (ax_ready, .inl (cyI, 8, .inl x_ready))] H → va_D A [(ax, .inr (0, [.ref ax_kind, .ref ax_walk, .ref ax_first, .ref ax_second, .ref ax_order, .ref ax_ready, .int x_people, .int x_away])), (ax_ready, .inl (cyI, 8, .inl x_ready))] → va_S A s.heap H locs → lv_has ls 2 [(0, .ref ax)] → (Option.bind (S_X0_latest x_people x_ready) (fun r33 =>
some r33)) = some r → W p l e rX0_readyOf s m (([.ref ax, .int i1] : List Value).toArray) below meth c H locs 0 0 (MQ below (CQi r D [(ax, .inr (0, [.ref ax_kind, .ref ax_walk, .ref ax_first, .ref ax_second, .ref ax_order, .ref ax_ready, .int x_people, .int x_away])), (ax_ready, .inl (cyI, 8, .inl x_ready))] A) (([.ref ax, .int i1] : List Value).toArray) s 0 0 A) (F0 m 32 ls []) := by
      intro  H locs ls hP hD hS hl hf
      refine lv_aload_n hx hb dX0_readyOf_32 rfl (lv_at hl 0 rfl) ?_
      obtain ⟨r33, q33, hf⟩ := ob hf
      refine k_i (wc := [(ax, .inr (0, [.ref ax_kind, .ref ax_walk, .ref ax_first, .ref ax_second, .ref ax_order, .ref ax_ready, .int x_people, .int x_away])), (ax_ready, .inl (cyI, 8, .inl x_ready))]) (wr := []) (w1 := [(ax, .inr (0, [.ref ax_kind, .ref ax_walk, .ref ax_first, .ref ax_second, .ref ax_order, .ref ax_ready, .int x_people, .int x_away])), (ax_ready, .inl (cyI, 8, .inl x_ready))]) (wn := [(ax, .inr (0, [.ref ax_kind, .ref ax_walk, .ref ax_first, .ref ax_second, .ref ax_order, .ref ax_ready, .int x_people, .int x_away])), (ax_ready, .inl (cyI, 8, .inl x_ready))]) (va_runV (As := []) (rest := []) ⟨hx, hb, hml, hown, hts⟩ (c_X0_latest l D cyI cyC cyS H.size ax ax_kind ax_walk ax_first ax_second ax_order ax_ready x_people x_away x_ready q33) (cwV 0 hts gX0_readyOf_X0_latest rfl rfl rfl (by decide +kernel) ⟨Nat.le_of_ble_eq_true rfl, Nat.le_of_ble_eq_true rfl⟩) (preV (ci := 0) hK (hP.subm (ws' := [(ax, .inr (0, [.ref ax_kind, .ref ax_walk, .ref ax_first, .ref ax_second, .ref ax_order, .ref ax_ready, .int x_people, .int x_away])), (ax_ready, .inl (cyI, 8, .inl x_ready))]) [0, 1] rfl) (hD.sub (ws' := [(ax, .inr (0, [.ref ax_kind, .ref ax_walk, .ref ax_first, .ref ax_second, .ref ax_order, .ref ax_ready, .int x_people, .int x_away])), (ax_ready, .inl (cyI, 8, .inl x_ready))]) [0, 1] (by decide) rfl) rfl rfl) rfl rfl hl.1 rfl (lv_room (Nat.le_of_ble_eq_true rfl)) dX0_readyOf_33 ⟨Nat.le_of_ble_eq_true rfl, Nat.le_of_ble_eq_true rfl⟩) hP hD hS hA [0, 1] [] [0, 1] rfl rfl rfl (by decide) (by decide) (by decide) (fun H locs hP hD hS => ?_)
      obtain rfl := Option.some.inj hf
      exact W.iret hx hb hr (fun t ht hW => ⟨⟨_, (), rfl, rfl, by rw [ht]; exact hP, hD⟩, hS.F ht⟩) hS.2.2 dX0_readyOf_36
    replace hf := jn_h hf
    refine lv_if_lt (tgt := 32) hx hb dX0_readyOf_12 (by decide) (fun c12 => ?_) (fun c12 => ?_)
    · replace hf := ip c12 hf
      exact hJ32 _ _ _ hP hD hS (lv_sub hl [0] rfl) hf
    · replace hf := iq c12 hf
      refine lv_iload_n hx hb dX0_readyOf_15 rfl (lv_at hl 1 rfl) ?_
      refine lv_aload_n hx hb dX0_readyOf_16 rfl (lv_at hl 0 rfl) ?_
      refine va_get (C := RX0) (T := TX0) (N := 8) hx hb hts inX0 hown hK.1 hP 0 rfl rfl 6 (by decide) f36 (fun _ h9 => h9) rfl dX0_readyOf_17 ?_
      refine lv_icmp_ge (tgt := 32) hx hb dX0_readyOf_20 (by decide) (fun c20 => ?_) (fun c20 => ?_)
      · replace hf := ip c20 hf
        exact hJ32 _ _ _ hP hD hS (lv_sub hl [0] rfl) hf
      · replace hf := iq c20 hf
        refine lv_aload_n hx hb dX0_readyOf_23 rfl (lv_at hl 0 rfl) ?_
        refine va_get (C := RX0) (T := TX0) (N := 8) hx hb hts inX0 hown hK.1 hP 0 rfl rfl 5 (by decide) f27 (fun _ h9 => h9) rfl dX0_readyOf_24 ?_
        refine lv_iload_n hx hb dX0_readyOf_27 rfl (lv_at hl 1 rfl) ?_
        obtain ⟨z28, hf⟩ := oi hf
        refine a_ild hx hb hK hP 1 rfl z28 i1.toNatClampNeg rfl dX0_readyOf_28 ?_
        refine lv_goto (tgt := 36) hx hb dX0_readyOf_29 (by decide) ?_
        obtain rfl := Option.some.inj hf
        exact W.iret hx hb hr (fun t ht hW => ⟨⟨_, (), rfl, rfl, by rw [ht]; exact hP, hD⟩, hS.F ht⟩) hS.2.2 dX0_readyOf_36
  · replace hf := ip c3 hf
    refine lv_aload_n hx hb dX0_readyOf_6 rfl (lv_at hl 0 rfl) ?_
    obtain ⟨r7, q7, hf⟩ := ob hf
    refine k_i (wc := [(ax, .inr (0, [.ref ax_kind, .ref ax_walk, .ref ax_first, .ref ax_second, .ref ax_order, .ref ax_ready, .int x_people, .int x_away])), (ax_ready, .inl (cyI, 8, .inl x_ready))]) (wr := []) (w1 := [(ax, .inr (0, [.ref ax_kind, .ref ax_walk, .ref ax_first, .ref ax_second, .ref ax_order, .ref ax_ready, .int x_people, .int x_away])), (ax_ready, .inl (cyI, 8, .inl x_ready))]) (wn := [(ax, .inr (0, [.ref ax_kind, .ref ax_walk, .ref ax_first, .ref ax_second, .ref ax_order, .ref ax_ready, .int x_people, .int x_away])), (ax_ready, .inl (cyI, 8, .inl x_ready))]) (va_runV (As := []) (rest := []) ⟨hx, hb, hml, hown, hts⟩ (c_X0_sum l D cyI cyC cyS H.size ax ax_kind ax_walk ax_first ax_second ax_order ax_ready x_people x_away x_ready q7) (cwV 0 hts gX0_readyOf_X0_sum rfl rfl rfl (by decide +kernel) ⟨Nat.le_of_ble_eq_true rfl, Nat.le_of_ble_eq_true rfl⟩) (preV (ci := 0) hK (hP.subm (ws' := [(ax, .inr (0, [.ref ax_kind, .ref ax_walk, .ref ax_first, .ref ax_second, .ref ax_order, .ref ax_ready, .int x_people, .int x_away])), (ax_ready, .inl (cyI, 8, .inl x_ready))]) [0, 1] rfl) (hD.sub (ws' := [(ax, .inr (0, [.ref ax_kind, .ref ax_walk, .ref ax_first, .ref ax_second, .ref ax_order, .ref ax_ready, .int x_people, .int x_away])), (ax_ready, .inl (cyI, 8, .inl x_ready))]) [0, 1] (by decide) rfl) rfl rfl) rfl rfl hl.1 rfl (lv_room (Nat.le_of_ble_eq_true rfl)) dX0_readyOf_7 ⟨Nat.le_of_ble_eq_true rfl, Nat.le_of_ble_eq_true rfl⟩) hP hD hS hA [0, 1] [] [0, 1] rfl rfl rfl (by decide) (by decide) (by decide) (fun H locs hP hD hS => ?_)
    obtain rfl := Option.some.inj hf
    exact W.iret hx hb hr (fun t ht hW => ⟨⟨_, (), rfl, rfl, by rw [ht]; exact hP, hD⟩, hS.F ht⟩) hS.2.2 dX0_readyOf_10
abbrev rX0_overtakersOf : Room := { frames := 0, cells := 0, slots := 0, locals := 0 }
set_option maxHeartbeats 4000000 in
set_option maxRecDepth 100000 in
theorem c_X0_overtakersOf (l : Launch) (D : va_G) (cyI cyC cyS : ClassId) (sz : Nat) (ax : Nat) (ax_kind : Nat) (ax_walk : Nat) (ax_first : Nat) (ax_second : Nat) (ax_order : Nat) (ax_ready : Nat) (x_people : Int32) (x_away : Int32) (x_ready : Nat → Int32) (i1 : Int32) {r : Int32} (hf : S_X0_overtakersOf i1 x_people x_ready = some r) : Met l yX0_overtakersOf wsX0_overtakersOf rX0_overtakersOf (Cpre [.ref ax, .int i1] D cyI cyC cyS sz [(ax, .inr (0, [.ref ax_kind, .ref ax_walk, .ref ax_first, .ref ax_second, .ref ax_order, .ref ax_ready, .int x_people, .int x_away])), (ax_ready, .inl (cyI, 8, .inl x_ready))]) (CQi r D [(ax, .inr (0, [.ref ax_kind, .ref ax_walk, .ref ax_first, .ref ax_second, .ref ax_order, .ref ax_ready, .int x_people, .int x_away])), (ax_ready, .inl (cyI, 8, .inl x_ready))] (va_A [(ax, .inr (0, [.ref ax_kind, .ref ax_walk, .ref ax_first, .ref ax_second, .ref ax_order, .ref ax_ready, .int x_people, .int x_away])), (ax_ready, .inl (cyI, 8, .inl x_ready))] sz)) 0 0 (va_A [(ax, .inr (0, [.ref ax_kind, .ref ax_walk, .ref ax_first, .ref ax_second, .ref ax_order, .ref ax_ready, .int x_people, .int x_away])), (ax_ready, .inl (cyI, 8, .inl x_ready))] sz) := by
  refine Met.ofW (cc := cX0_overtakersOf) (maxL := 4) (ret := (some .int)) (by decide) rfl ?_
  intro p e s m args below meth c s₁ B hml hv
  obtain ⟨rfl, hsz, hP, hK, hD0⟩ := hv
  have hx := B.exec
  have hb := B.bytes
  have hr := B.returns
  have hts := atoms_spec (ws := wsX0_overtakersOf) B.pre
  have hown : s.vm.findClass RX0 = some m.cls := findClass_of_methodNamed B.named
  have hlocks := B.notSynchronized
  subst hsz
  have hD := hD0.self (sz := s.heap.size)
  generalize hAe : va_A [(ax, .inr (0, [.ref ax_kind, .ref ax_walk, .ref ax_first, .ref ax_second, .ref ax_order, .ref ax_ready, .int x_people, .int x_away])), (ax_ready, .inl (cyI, 8, .inl x_ready))] s.heap.size = A at hD ⊢
  have hA : ∀ q : Nat, s.heap.size ≤ q → A q := fun q h => by rw [← hAe]; exact Or.inr h
  have hS : va_S A s.heap s.heap [] := va_S.rf
  have hl := lv_entry ([.ref ax, .int i1]) (n := 4) (Nat.le_of_ble_eq_true rfl)
  rw [lg_entry_eq]
  generalize (lg_sl ([.ref ax, .int i1]) ++ List.replicate (4 - (lg_sl ([.ref ax, .int i1])).length) Slot.unset).toArray = ls at hl ⊢
  have hl : lv_has ls 4 [(0, .ref ax), (1, .int i1)] := hl
  have f36 := hts (.fieldLink RX0 36 "SecondTill$Crossing" "people" "I") (by decide +kernel)
  have inX0 : ∀ w ∈ u_ws RX0 TX0 8, w ∈ wsX0_overtakersOf := by decide +kernel
  have f27 := hts (.fieldLink RX0 27 "SecondTill$Crossing" "ready" "[I") (by decide +kernel)
  unfold S_X0_overtakersOf at hf
  have hP : va_P D vwCl [(ax, .inr (0, [.ref ax_kind, .ref ax_walk, .ref ax_first, .ref ax_second, .ref ax_order, .ref ax_ready, .int x_people, .int x_away])), (ax_ready, .inl (cyI, 8, .inl x_ready))] s.heap := hP
  suffices hgo : ∀ (H : Heap) (locs : List Loc), va_P D vwCl [(ax, .inr (0, [.ref ax_kind, .ref ax_walk, .ref ax_first, .ref ax_second, .ref ax_order, .ref ax_ready, .int x_people, .int x_away])), (ax_ready, .inl (cyI, 8, .inl x_ready))] H → va_S A s.heap H locs → W p l e rX0_overtakersOf s m (([.ref ax, .int i1] : List Value).toArray) below meth c H locs 0 0 (MQ below (CQi r D [(ax, .inr (0, [.ref ax_kind, .ref ax_walk, .ref ax_first, .ref ax_second, .ref ax_order, .ref ax_ready, .int x_people, .int x_away])), (ax_ready, .inl (cyI, 8, .inl x_ready))] A) (([.ref ax, .int i1] : List Value).toArray) s 0 0 A) (F0 m 0 ls []) from hgo _ _ hP hS
  clear hP hS
  intro H locs hP hS
  refine lv_iconst (v := 0) hx hb dX0_overtakersOf_0 (by decide) ?_
  refine lv_istore_n (lv' := [(2, .int (0 : Int32)), (0, .ref ax), (1, .int i1)]) hx hb dX0_overtakersOf_1 rfl hl (by decide) rfl (fun ls hl => ?_)
  refine lv_iload_n hx hb dX0_overtakersOf_2 rfl (lv_at hl 2 rfl) ?_
  refine lv_iconst (v := 1) hx hb dX0_overtakersOf_3 (by decide) ?_
  refine lv_iadd hx hb dX0_overtakersOf_4 ?_
  refine lv_istore_n (lv' := [(3, .int (i1 + (1 : Int32))), (2, .int (0 : Int32)), (0, .ref ax), (1, .int i1)]) hx hb dX0_overtakersOf_5 rfl hl (by decide) rfl (fun ls hl => ?_)
  have hL6 : ∀ (n6 : Nat) (i2 : Int32) (i3 : Int32) (H : Heap) (locs : List Loc) (ls : Array Slot), va_P D vwCl [(ax, .inr (0, [.ref ax_kind, .ref ax_walk, .ref ax_first, .ref ax_second, .ref ax_order, .ref ax_ready, .int x_people, .int x_away])), (ax_ready, .inl (cyI, 8, .inl x_ready))] H → va_D A [(ax, .inr (0, [.ref ax_kind, .ref ax_walk, .ref ax_first, .ref ax_second, .ref ax_order, .ref ax_ready, .int x_people, .int x_away])), (ax_ready, .inl (cyI, 8, .inl x_ready))] → va_S A s.heap H locs → lv_has ls 4 [(0, .ref ax), (1, .int i1), (2, .int i2), (3, .int i3)] → S_X0_overtakersOf_L6 i1 x_people x_ready n6 i2 i3 = some r → W p l e rX0_overtakersOf s m (([.ref ax, .int i1] : List Value).toArray) below meth c H locs 0 0 (MQ below (CQi r D [(ax, .inr (0, [.ref ax_kind, .ref ax_walk, .ref ax_first, .ref ax_second, .ref ax_order, .ref ax_ready, .int x_people, .int x_away])), (ax_ready, .inl (cyI, 8, .inl x_ready))] A) (([.ref ax, .int i1] : List Value).toArray) s 0 0 A) (F0 m 6 ls []) := by
    intro n6
    induction n6 with
    | zero => intro i2 i3 H locs ls hP hD hS hl hf; exact absurd hf (by simp [S_X0_overtakersOf_L6])
    | succ n6 ih6 =>
      intro i2 i3 H locs ls hP hD hS hl hf
      rw [S_X0_overtakersOf_L6] at hf
      refine lv_iload_n hx hb dX0_overtakersOf_6 rfl (lv_at hl 3 rfl) ?_
      refine lv_aload_n hx hb dX0_overtakersOf_7 rfl (lv_at hl 0 rfl) ?_
      refine va_get (C := RX0) (T := TX0) (N := 8) hx hb hts inX0 hown hK.1 hP 0 rfl rfl 6 (by decide) f36 (fun _ h9 => h9) rfl dX0_overtakersOf_8 ?_
      refine lv_icmp_ge (tgt := 41) hx hb dX0_overtakersOf_11 (by decide) (fun c11 => ?_) (fun c11 => ?_)
      · replace hf := ip c11 hf
        refine lv_iload_n hx hb dX0_overtakersOf_41 rfl (lv_at hl 2 rfl) ?_
        obtain rfl := Option.some.inj hf
        exact W.iret hx hb hr (fun t ht hW => ⟨⟨_, (), rfl, rfl, by rw [ht]; exact hP, hD⟩, hS.F ht⟩) hS.2.2 dX0_overtakersOf_42
      · replace hf := iq c11 hf
        refine lv_aload_n hx hb dX0_overtakersOf_14 rfl (lv_at hl 0 rfl) ?_
        refine va_get (C := RX0) (T := TX0) (N := 8) hx hb hts inX0 hown hK.1 hP 0 rfl rfl 5 (by decide) f27 (fun _ h9 => h9) rfl dX0_overtakersOf_15 ?_
        refine lv_iload_n hx hb dX0_overtakersOf_18 rfl (lv_at hl 3 rfl) ?_
        obtain ⟨z19, hf⟩ := oi hf
        refine a_ild hx hb hK hP 1 rfl z19 i3.toNatClampNeg rfl dX0_overtakersOf_19 ?_
        refine lv_aload_n hx hb dX0_overtakersOf_20 rfl (lv_at hl 0 rfl) ?_
        refine va_get (C := RX0) (T := TX0) (N := 8) hx hb hts inX0 hown hK.1 hP 0 rfl rfl 5 (by decide) f27 (fun _ h9 => h9) rfl dX0_overtakersOf_21 ?_
        refine lv_iload_n hx hb dX0_overtakersOf_24 rfl (lv_at hl 1 rfl) ?_
        obtain ⟨z25, hf⟩ := oi hf
        refine a_ild hx hb hK hP 1 rfl z25 i1.toNatClampNeg rfl dX0_overtakersOf_25 ?_
        refine lv_icmp_ge (tgt := 35) hx hb dX0_overtakersOf_26 (by decide) (fun c26 => ?_) (fun c26 => ?_)
        · replace hf := ip c26 hf
          refine lv_iinc (v := i3 + (1 : Int32)) (lv' := [(3, .int (i3 + (1 : Int32))), (0, .ref ax), (1, .int i1), (2, .int i2)]) hx hb dX0_overtakersOf_35 hl (k := 3) rfl rfl (by decide) rfl (fun ls hl => ?_)
          refine lv_goto (tgt := 6) hx hb dX0_overtakersOf_38 (by decide) ?_
          exact ih6 i2 (i3 + (1 : Int32)) _ _ _ hP hD hS (lv_sub hl [1, 2, 3, 0] rfl) hf
        · replace hf := iq c26 hf
          refine lv_iload_n hx hb dX0_overtakersOf_29 rfl (lv_at hl 2 rfl) ?_
          refine lv_iconst (v := 1) hx hb dX0_overtakersOf_30 (by decide) ?_
          refine lv_iload_n hx hb dX0_overtakersOf_31 rfl (lv_at hl 3 rfl) ?_
          refine lv_ishl hx hb dX0_overtakersOf_32 ?_
          refine lv_ior hx hb dX0_overtakersOf_33 ?_
          refine lv_istore_n (lv' := [(2, .int (i2 ||| ((1 : Int32) <<< (i3 &&& 31)))), (0, .ref ax), (1, .int i1), (3, .int i3)]) hx hb dX0_overtakersOf_34 rfl hl (by decide) rfl (fun ls hl => ?_)
          refine lv_iinc (v := i3 + (1 : Int32)) (lv' := [(3, .int (i3 + (1 : Int32))), (2, .int (i2 ||| ((1 : Int32) <<< (i3 &&& 31)))), (0, .ref ax), (1, .int i1)]) hx hb dX0_overtakersOf_35 hl (k := 3) rfl rfl (by decide) rfl (fun ls hl => ?_)
          refine lv_goto (tgt := 6) hx hb dX0_overtakersOf_38 (by decide) ?_
          exact ih6 (i2 ||| ((1 : Int32) <<< (i3 &&& 31))) (i3 + (1 : Int32)) _ _ _ hP hD hS (lv_sub hl [2, 3, 1, 0] rfl) hf
  exact hL6 300 (0 : Int32) (i1 + (1 : Int32)) _ _ _ hP hD hS (lv_sub hl [2, 3, 1, 0] rfl) hf
abbrev rX0_overtakings : Room := { frames := 1, cells := 0, slots := 0, locals := 23 }
set_option maxHeartbeats 4000000 in
set_option maxRecDepth 100000 in
theorem c_X0_overtakings (l : Launch) (D : va_G) (cyI cyC cyS : ClassId) (sz : Nat) (ax : Nat) (ax_kind : Nat) (ax_walk : Nat) (ax_first : Nat) (ax_second : Nat) (ax_order : Nat) (ax_ready : Nat) (x_people : Int32) (x_away : Int32) (x_ready : Nat → Int32) {r : Int32} (hf : S_X0_overtakings x_people x_ready = some r) : Met l yX0_overtakings wsX0_overtakings rX0_overtakings (Cpre [.ref ax] D cyI cyC cyS sz [(ax, .inr (0, [.ref ax_kind, .ref ax_walk, .ref ax_first, .ref ax_second, .ref ax_order, .ref ax_ready, .int x_people, .int x_away])), (ax_ready, .inl (cyI, 8, .inl x_ready))]) (CQi r D [(ax, .inr (0, [.ref ax_kind, .ref ax_walk, .ref ax_first, .ref ax_second, .ref ax_order, .ref ax_ready, .int x_people, .int x_away])), (ax_ready, .inl (cyI, 8, .inl x_ready))] (va_A [(ax, .inr (0, [.ref ax_kind, .ref ax_walk, .ref ax_first, .ref ax_second, .ref ax_order, .ref ax_ready, .int x_people, .int x_away])), (ax_ready, .inl (cyI, 8, .inl x_ready))] sz)) 0 0 (va_A [(ax, .inr (0, [.ref ax_kind, .ref ax_walk, .ref ax_first, .ref ax_second, .ref ax_order, .ref ax_ready, .int x_people, .int x_away])), (ax_ready, .inl (cyI, 8, .inl x_ready))] sz) := by
  refine Met.ofW (cc := cX0_overtakings) (maxL := 3) (ret := (some .int)) (by decide) rfl ?_
  intro p e s m args below meth c s₁ B hml hv
  obtain ⟨rfl, hsz, hP, hK, hD0⟩ := hv
  have hx := B.exec
  have hb := B.bytes
  have hr := B.returns
  have hts := atoms_spec (ws := wsX0_overtakings) B.pre
  have hown : s.vm.findClass RX0 = some m.cls := findClass_of_methodNamed B.named
  have hlocks := B.notSynchronized
  subst hsz
  have hD := hD0.self (sz := s.heap.size)
  generalize hAe : va_A [(ax, .inr (0, [.ref ax_kind, .ref ax_walk, .ref ax_first, .ref ax_second, .ref ax_order, .ref ax_ready, .int x_people, .int x_away])), (ax_ready, .inl (cyI, 8, .inl x_ready))] s.heap.size = A at hD ⊢
  have hA : ∀ q : Nat, s.heap.size ≤ q → A q := fun q h => by rw [← hAe]; exact Or.inr h
  have hS : va_S A s.heap s.heap [] := va_S.rf
  have hl := lv_entry ([.ref ax]) (n := 3) (Nat.le_of_ble_eq_true rfl)
  rw [lg_entry_eq]
  generalize (lg_sl ([.ref ax]) ++ List.replicate (3 - (lg_sl ([.ref ax])).length) Slot.unset).toArray = ls at hl ⊢
  have hl : lv_has ls 3 [(0, .ref ax)] := hl
  have f36 := hts (.fieldLink RX0 36 "SecondTill$Crossing" "people" "I") (by decide +kernel)
  have inX0 : ∀ w ∈ u_ws RX0 TX0 8, w ∈ wsX0_overtakings := by decide +kernel
  unfold S_X0_overtakings at hf
  have hP : va_P D vwCl [(ax, .inr (0, [.ref ax_kind, .ref ax_walk, .ref ax_first, .ref ax_second, .ref ax_order, .ref ax_ready, .int x_people, .int x_away])), (ax_ready, .inl (cyI, 8, .inl x_ready))] s.heap := hP
  suffices hgo : ∀ (H : Heap) (locs : List Loc), va_P D vwCl [(ax, .inr (0, [.ref ax_kind, .ref ax_walk, .ref ax_first, .ref ax_second, .ref ax_order, .ref ax_ready, .int x_people, .int x_away])), (ax_ready, .inl (cyI, 8, .inl x_ready))] H → va_S A s.heap H locs → W p l e rX0_overtakings s m (([.ref ax] : List Value).toArray) below meth c H locs 0 0 (MQ below (CQi r D [(ax, .inr (0, [.ref ax_kind, .ref ax_walk, .ref ax_first, .ref ax_second, .ref ax_order, .ref ax_ready, .int x_people, .int x_away])), (ax_ready, .inl (cyI, 8, .inl x_ready))] A) (([.ref ax] : List Value).toArray) s 0 0 A) (F0 m 0 ls []) from hgo _ _ hP hS
  clear hP hS
  intro H locs hP hS
  refine lv_iconst (v := 0) hx hb dX0_overtakings_0 (by decide) ?_
  refine lv_istore_n (lv' := [(1, .int (0 : Int32)), (0, .ref ax)]) hx hb dX0_overtakings_1 rfl hl (by decide) rfl (fun ls hl => ?_)
  refine lv_iconst (v := 0) hx hb dX0_overtakings_2 (by decide) ?_
  refine lv_istore_n (lv' := [(2, .int (0 : Int32)), (1, .int (0 : Int32)), (0, .ref ax)]) hx hb dX0_overtakings_3 rfl hl (by decide) rfl (fun ls hl => ?_)
  have hL4 : ∀ (n4 : Nat) (i1 : Int32) (i2 : Int32) (H : Heap) (locs : List Loc) (ls : Array Slot), va_P D vwCl [(ax, .inr (0, [.ref ax_kind, .ref ax_walk, .ref ax_first, .ref ax_second, .ref ax_order, .ref ax_ready, .int x_people, .int x_away])), (ax_ready, .inl (cyI, 8, .inl x_ready))] H → va_D A [(ax, .inr (0, [.ref ax_kind, .ref ax_walk, .ref ax_first, .ref ax_second, .ref ax_order, .ref ax_ready, .int x_people, .int x_away])), (ax_ready, .inl (cyI, 8, .inl x_ready))] → va_S A s.heap H locs → lv_has ls 3 [(0, .ref ax), (1, .int i1), (2, .int i2)] → S_X0_overtakings_L4 x_people x_ready n4 i1 i2 = some r → W p l e rX0_overtakings s m (([.ref ax] : List Value).toArray) below meth c H locs 0 0 (MQ below (CQi r D [(ax, .inr (0, [.ref ax_kind, .ref ax_walk, .ref ax_first, .ref ax_second, .ref ax_order, .ref ax_ready, .int x_people, .int x_away])), (ax_ready, .inl (cyI, 8, .inl x_ready))] A) (([.ref ax] : List Value).toArray) s 0 0 A) (F0 m 4 ls []) := by
    intro n4
    induction n4 with
    | zero => intro i1 i2 H locs ls hP hD hS hl hf; exact absurd hf (by simp [S_X0_overtakings_L4])
    | succ n4 ih4 =>
      intro i1 i2 H locs ls hP hD hS hl hf
      rw [S_X0_overtakings_L4] at hf
      refine lv_iload_n hx hb dX0_overtakings_4 rfl (lv_at hl 2 rfl) ?_
      refine lv_aload_n hx hb dX0_overtakings_5 rfl (lv_at hl 0 rfl) ?_
      refine va_get (C := RX0) (T := TX0) (N := 8) hx hb hts inX0 hown hK.1 hP 0 rfl rfl 6 (by decide) f36 (fun _ h9 => h9) rfl dX0_overtakings_6 ?_
      refine lv_icmp_ge (tgt := 29) hx hb dX0_overtakings_9 (by decide) (fun c9 => ?_) (fun c9 => ?_)
      · replace hf := ip c9 hf
        refine lv_iload_n hx hb dX0_overtakings_29 rfl (lv_at hl 1 rfl) ?_
        obtain rfl := Option.some.inj hf
        exact W.iret hx hb hr (fun t ht hW => ⟨⟨_, (), rfl, rfl, by rw [ht]; exact hP, hD⟩, hS.F ht⟩) hS.2.2 dX0_overtakings_30
      · replace hf := iq c9 hf
        refine lv_iload_n hx hb dX0_overtakings_12 rfl (lv_at hl 1 rfl) ?_
        refine lv_aload_n hx hb dX0_overtakings_13 rfl (lv_at hl 0 rfl) ?_
        refine lv_iload_n hx hb dX0_overtakings_14 rfl (lv_at hl 2 rfl) ?_
        obtain ⟨r15, q15, hf⟩ := ob hf
        refine k_i (wc := [(ax, .inr (0, [.ref ax_kind, .ref ax_walk, .ref ax_first, .ref ax_second, .ref ax_order, .ref ax_ready, .int x_people, .int x_away])), (ax_ready, .inl (cyI, 8, .inl x_ready))]) (wr := []) (w1 := [(ax, .inr (0, [.ref ax_kind, .ref ax_walk, .ref ax_first, .ref ax_second, .ref ax_order, .ref ax_ready, .int x_people, .int x_away])), (ax_ready, .inl (cyI, 8, .inl x_ready))]) (wn := [(ax, .inr (0, [.ref ax_kind, .ref ax_walk, .ref ax_first, .ref ax_second, .ref ax_order, .ref ax_ready, .int x_people, .int x_away])), (ax_ready, .inl (cyI, 8, .inl x_ready))]) (va_runV (As := [.int i2]) (rest := [.int i1]) ⟨hx, hb, hml, hown, hts⟩ (c_X0_overtakersOf l D cyI cyC cyS H.size ax ax_kind ax_walk ax_first ax_second ax_order ax_ready x_people x_away x_ready i2 q15) (cwV 1 hts gX0_overtakings_X0_overtakersOf rfl rfl rfl (by decide +kernel) ⟨Nat.le_of_ble_eq_true rfl, Nat.le_of_ble_eq_true rfl⟩) (preV (ci := 0) hK (hP.subm (ws' := [(ax, .inr (0, [.ref ax_kind, .ref ax_walk, .ref ax_first, .ref ax_second, .ref ax_order, .ref ax_ready, .int x_people, .int x_away])), (ax_ready, .inl (cyI, 8, .inl x_ready))]) [0, 1] rfl) (hD.sub (ws' := [(ax, .inr (0, [.ref ax_kind, .ref ax_walk, .ref ax_first, .ref ax_second, .ref ax_order, .ref ax_ready, .int x_people, .int x_away])), (ax_ready, .inl (cyI, 8, .inl x_ready))]) [0, 1] (by decide) rfl) rfl rfl) rfl rfl hl.1 rfl (lv_room (Nat.le_of_ble_eq_true rfl)) dX0_overtakings_15 ⟨Nat.le_of_ble_eq_true rfl, Nat.le_of_ble_eq_true rfl⟩) hP hD hS hA [0, 1] [] [0, 1] rfl rfl rfl (by decide) (by decide) (by decide) (fun H locs hP hD hS => ?_)
        obtain ⟨r18, q18, hf⟩ := ob hf
        refine k_i (wc := []) (wr := [(ax, .inr (0, [.ref ax_kind, .ref ax_walk, .ref ax_first, .ref ax_second, .ref ax_order, .ref ax_ready, .int x_people, .int x_away])), (ax_ready, .inl (cyI, 8, .inl x_ready))]) (w1 := []) (wn := [(ax, .inr (0, [.ref ax_kind, .ref ax_walk, .ref ax_first, .ref ax_second, .ref ax_order, .ref ax_ready, .int x_people, .int x_away])), (ax_ready, .inl (cyI, 8, .inl x_ready))]) (va_runS (As := [.int r15]) (rest := [.int i1]) ⟨hx, hb, hml, hown, hts⟩ (c_J6_bitCount_0f7a4 l D cyI cyC cyS H.size r15 q18) (va_cwS 1 hts gX0_overtakings_J6_bitCount_0f7a4 rfl rfl rfl (by decide +kernel) ⟨Nat.le_of_ble_eq_true rfl, Nat.le_of_ble_eq_true rfl⟩) (preS hK (hP.subm (ws' := []) [] rfl) (hD.sub (ws' := []) [] (by decide) rfl)) rfl rfl hl.1 rfl (lv_room (Nat.le_of_ble_eq_true rfl)) dX0_overtakings_18 ⟨Nat.le_of_ble_eq_true rfl, Nat.le_of_ble_eq_true rfl⟩) hP hD hS hA [] [0, 1] [0, 1] rfl rfl rfl (by decide) (by decide) (by decide) (fun H locs hP hD hS => ?_)
        refine lv_iadd hx hb dX0_overtakings_21 ?_
        refine lv_istore_n (lv' := [(1, .int (i1 + r18)), (0, .ref ax), (2, .int i2)]) hx hb dX0_overtakings_22 rfl hl (by decide) rfl (fun ls hl => ?_)
        refine lv_iinc (v := i2 + (1 : Int32)) (lv' := [(2, .int (i2 + (1 : Int32))), (1, .int (i1 + r18)), (0, .ref ax)]) hx hb dX0_overtakings_23 hl (k := 2) rfl rfl (by decide) rfl (fun ls hl => ?_)
        refine lv_goto (tgt := 4) hx hb dX0_overtakings_26 (by decide) ?_
        exact ih4 (i1 + r18) (i2 + (1 : Int32)) _ _ _ hP hD hS (lv_sub hl [2, 1, 0] rfl) hf
  exact hL4 300 (0 : Int32) (0 : Int32) _ _ _ hP hD hS (lv_sub hl [2, 1, 0] rfl) hf
