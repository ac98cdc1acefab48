abbrev rX4_append : Room := { frames := 0, cells := 0, slots := 0, locals := 0 }
set_option maxHeartbeats 4000000 in
set_option maxRecDepth 100000 in
theorem c_X4_append (l : Launch) (D : va_G) (cyI cyC cyS : ClassId) (sz : Nat) (ax : Nat) (ax_who : Nat) (ax_where : Nat) (x_length : Int32) (x_who : Nat → Int32) (x_where : Nat → Int32) (i1 : Int32) (i2 : Int32) {r : Int32} {o_x_length : Int32} {o_x_who : Nat → Int32} {o_x_where : Nat → Int32} (hf : S_X4_append i1 i2 x_length x_who x_where = some (r, o_x_length, o_x_who, o_x_where)) : Met l yX4_append wsX4_append rX4_append (Cpre [.ref ax, .int i1, .int i2] D cyI cyC cyS sz [(ax, .inr (4, [.ref ax_who, .ref ax_where, .int x_length])), (ax_who, .inl (cyI, 8, .inl x_who)), (ax_where, .inl (cyI, 8, .inl x_where))]) (CQi r D [(ax, .inr (4, [.ref ax_who, .ref ax_where, .int o_x_length])), (ax_who, .inl (cyI, 8, .inl o_x_who)), (ax_where, .inl (cyI, 8, .inl o_x_where))] (va_A [(ax, .inr (4, [.ref ax_who, .ref ax_where, .int x_length])), (ax_who, .inl (cyI, 8, .inl x_who)), (ax_where, .inl (cyI, 8, .inl x_where))] sz)) 0 0 (va_A [(ax, .inr (4, [.ref ax_who, .ref ax_where, .int x_length])), (ax_who, .inl (cyI, 8, .inl x_who)), (ax_where, .inl (cyI, 8, .inl x_where))] sz) := by
  refine Met.ofW (cc := cX4_append) (maxL := 3) (ret := (some .boolean)) (by decide) rfl ?_
  intro p e s m args below meth c s₁ B hml hv
  obtain ⟨rfl, hsz, hP, hK, hD0⟩ := hv
  have hx := B.exec
  have hb := B.bytes
  have hr := B.returns
  have hts := atoms_spec (ws := wsX4_append) B.pre
  have hown : s.vm.findClass RX4 = some m.cls := findClass_of_methodNamed B.named
  have hlocks := B.notSynchronized
  subst hsz
  have hD := hD0.self (sz := s.heap.size)
  generalize hAe : va_A [(ax, .inr (4, [.ref ax_who, .ref ax_where, .int x_length])), (ax_who, .inl (cyI, 8, .inl x_who)), (ax_where, .inl (cyI, 8, .inl x_where))] s.heap.size = A at hD ⊢
  have hA : ∀ q : Nat, s.heap.size ≤ q → A q := fun q h => by rw [← hAe]; exact Or.inr h
  have hS : va_S A s.heap s.heap [] := va_S.rf
  have hl := lv_entry ([.ref ax, .int i1, .int i2]) (n := 3) (Nat.le_of_ble_eq_true rfl)
  rw [lg_entry_eq]
  generalize (lg_sl ([.ref ax, .int i1, .int i2]) ++ List.replicate (3 - (lg_sl ([.ref ax, .int i1, .int i2])).length) Slot.unset).toArray = ls at hl ⊢
  have hl : lv_has ls 3 [(0, .ref ax), (1, .int i1), (2, .int i2)] := hl
  have f18 := hts (.fieldLink RX4 18 "SecondTill$Tape" "length" "I") (by decide +kernel)
  have inX4 : ∀ w ∈ u_ws RX4 TX4 3, w ∈ wsX4_append := by decide +kernel
  have f9 := hts (.fieldLink RX4 9 "SecondTill$Tape" "who" "[I") (by decide +kernel)
  have f15 := hts (.fieldLink RX4 15 "SecondTill$Tape" "where" "[I") (by decide +kernel)
  unfold S_X4_append at hf
  have hP : va_P D vwCl [(ax, .inr (4, [.ref ax_who, .ref ax_where, .int x_length])), (ax_who, .inl (cyI, 8, .inl x_who)), (ax_where, .inl (cyI, 8, .inl x_where))] s.heap := hP
  suffices hgo : ∀ (H : Heap) (locs : List Loc), va_P D vwCl [(ax, .inr (4, [.ref ax_who, .ref ax_where, .int x_length])), (ax_who, .inl (cyI, 8, .inl x_who)), (ax_where, .inl (cyI, 8, .inl x_where))] H → va_S A s.heap H locs → W p l e rX4_append s m (([.ref ax, .int i1, .int i2] : List Value).toArray) below meth c H locs 0 0 (MQ below (CQi r D [(ax, .inr (4, [.ref ax_who, .ref ax_where, .int o_x_length])), (ax_who, .inl (cyI, 8, .inl o_x_who)), (ax_where, .inl (cyI, 8, .inl o_x_where))] A) (([.ref ax, .int i1, .int i2] : List Value).toArray) s 0 0 A) (F0 m 0 ls []) from hgo _ _ hP hS
  clear hP hS
  intro H locs hP hS
  refine lv_aload_n hx hb dX4_append_0 rfl (lv_at hl 0 rfl) ?_
  refine va_get (C := RX4) (T := TX4) (N := 3) hx hb hts inX4 hown hK.1 hP 0 rfl rfl 2 (by decide) f18 (fun _ h9 => h9) rfl dX4_append_1 ?_
  refine lv_bipush (v := 8) hx hb dX4_append_4 (by decide) ?_
  refine lv_icmp_lt (tgt := 11) hx hb dX4_append_6 (by decide) (fun c6 => ?_) (fun c6 => ?_)
  · replace hf := ip c6 hf
    refine lv_aload_n hx hb dX4_append_11 rfl (lv_at hl 0 rfl) ?_
    refine va_get (C := RX4) (T := TX4) (N := 3) hx hb hts inX4 hown hK.1 hP 0 rfl rfl 0 (by decide) f9 (fun _ h9 => h9) rfl dX4_append_12 ?_
    refine lv_aload_n hx hb dX4_append_15 rfl (lv_at hl 0 rfl) ?_
    refine va_get (C := RX4) (T := TX4) (N := 3) hx hb hts inX4 hown hK.1 hP 0 rfl rfl 2 (by decide) f18 (fun _ h9 => h9) rfl dX4_append_16 ?_
    refine lv_iload_n hx hb dX4_append_19 rfl (lv_at hl 1 rfl) ?_
    obtain ⟨z20, hf⟩ := oi hf
    refine a_ist (wn := [(ax, .inr (4, [.ref ax_who, .ref ax_where, .int x_length])), (ax_who, .inl (cyI, 8, .inl (upd x_who x_length.toNatClampNeg i1))), (ax_where, .inl (cyI, 8, .inl x_where))]) hx hb hK hP hD hS 1 rfl z20 x_length.toNatClampNeg rfl rfl dX4_append_20 (fun H locs hP hD hS => ?_)
    refine lv_aload_n hx hb dX4_append_21 rfl (lv_at hl 0 rfl) ?_
    refine va_get (C := RX4) (T := TX4) (N := 3) hx hb hts inX4 hown hK.1 hP 0 rfl rfl 1 (by decide) f15 (fun _ h9 => h9) rfl dX4_append_22 ?_
    refine lv_aload_n hx hb dX4_append_25 rfl (lv_at hl 0 rfl) ?_
    refine va_get (C := RX4) (T := TX4) (N := 3) hx hb hts inX4 hown hK.1 hP 0 rfl rfl 2 (by decide) f18 (fun _ h9 => h9) rfl dX4_append_26 ?_
    refine lv_iload_n hx hb dX4_append_29 rfl (lv_at hl 2 rfl) ?_
    obtain ⟨z30, hf⟩ := oi hf
    refine a_ist (wn := [(ax, .inr (4, [.ref ax_who, .ref ax_where, .int x_length])), (ax_who, .inl (cyI, 8, .inl (upd x_who x_length.toNatClampNeg i1))), (ax_where, .inl (cyI, 8, .inl (upd x_where x_length.toNatClampNeg i2)))]) hx hb hK hP hD hS 2 rfl z30 x_length.toNatClampNeg rfl rfl dX4_append_30 (fun H locs hP hD hS => ?_)
    refine lv_aload_n hx hb dX4_append_31 rfl (lv_at hl 0 rfl) ?_
    refine lv_dup hx hb dX4_append_32 rfl ?_
    refine va_get (C := RX4) (T := TX4) (N := 3) hx hb hts inX4 hown hK.1 hP 0 rfl rfl 2 (by decide) f18 (fun _ h9 => h9) rfl dX4_append_33 ?_
    refine lv_iconst (v := 1) hx hb dX4_append_36 (by decide) ?_
    refine lv_iadd hx hb dX4_append_37 ?_
    refine a_put (C := RX4) (T := TX4) (N := 3) (wn := [(ax, .inr (4, [.ref ax_who, .ref ax_where, .int (x_length + (1 : Int32))])), (ax_who, .inl (cyI, 8, .inl (upd x_who x_length.toNatClampNeg i1))), (ax_where, .inl (cyI, 8, .inl (upd x_where x_length.toNatClampNeg i2)))]) hx hb hts inX4 tyX4 tyX4_ok nmX4 hown hK hP hD hS 0 rfl rfl 2 (by decide) f18 (fun _ h9 => h9) rfl rfl (Nat.le_of_ble_eq_true rfl) rfl dX4_append_38 (fun H locs hP hD hS => ?_)
    refine lv_iconst (v := 1) hx hb dX4_append_41 (by decide) ?_
    simp only [Option.some.injEq, Prod.mk.injEq] at hf
    obtain ⟨rfl, rfl, rfl, rfl⟩ := hf
    exact W.zret hx hb hr rfl (fun t ht hW => ⟨⟨_, (), rfl, rfl, by rw [ht]; exact hP, hD⟩, hS.F ht⟩) hS.2.2 dX4_append_42
  · replace hf := iq c6 hf
    refine lv_iconst (v := 0) hx hb dX4_append_9 (by decide) ?_
    simp only [Option.some.injEq, Prod.mk.injEq] at hf
    obtain ⟨rfl, rfl, rfl, rfl⟩ := hf
    exact W.zret hx hb hr rfl (fun t ht hW => ⟨⟨_, (), rfl, rfl, by rw [ht]; exact hP, hD⟩, hS.F ht⟩) hS.2.2 dX4_append_10
abbrev rX4_agreesWith : Room := { frames := 0, cells := 0, slots := 0, locals := 0 }
set_option maxHeartbeats 4000000 in
set_option maxRecDepth 100000 in
theorem c_X4_agreesWith (l : Launch) (D : va_G) (cyI cyC cyS : ClassId) (sz : Nat) (ax : Nat) (ax_who : Nat) (ax_where : Nat) (x_length : Int32) (x_who : Nat → Int32) (x_where : Nat → Int32) (i1 : Int32) {r : Int32} (hf : S_X4_agreesWith i1 x_length x_who x_where = some r) : Met l yX4_agreesWith wsX4_agreesWith rX4_agreesWith (Cpre [.ref ax, .int i1] D cyI cyC cyS sz [(ax, .inr (4, [.ref ax_who, .ref ax_where, .int x_length])), (ax_who, .inl (cyI, 8, .inl x_who)), (ax_where, .inl (cyI, 8, .inl x_where))]) (CQi r D [(ax, .inr (4, [.ref ax_who, .ref ax_where, .int x_length])), (ax_who, .inl (cyI, 8, .inl x_who)), (ax_where, .inl (cyI, 8, .inl x_where))] (va_A [(ax, .inr (4, [.ref ax_who, .ref ax_where, .int x_length])), (ax_who, .inl (cyI, 8, .inl x_who)), (ax_where, .inl (cyI, 8, .inl x_where))] sz)) 0 0 (va_A [(ax, .inr (4, [.ref ax_who, .ref ax_where, .int x_length])), (ax_who, .inl (cyI, 8, .inl x_who)), (ax_where, .inl (cyI, 8, .inl x_where))] sz) := by
  refine Met.ofW (cc := cX4_agreesWith) (maxL := 3) (ret := (some .boolean)) (by decide) rfl ?_
  intro p e s m args below meth c s₁ B hml hv
  obtain ⟨rfl, hsz, hP, hK, hD0⟩ := hv
  have hx := B.exec
  have hb := B.bytes
  have hr := B.returns
  have hts := atoms_spec (ws := wsX4_agreesWith) B.pre
  have hown : s.vm.findClass RX4 = some m.cls := findClass_of_methodNamed B.named
  have hlocks := B.notSynchronized
  subst hsz
  have hD := hD0.self (sz := s.heap.size)
  generalize hAe : va_A [(ax, .inr (4, [.ref ax_who, .ref ax_where, .int x_length])), (ax_who, .inl (cyI, 8, .inl x_who)), (ax_where, .inl (cyI, 8, .inl x_where))] s.heap.size = A at hD ⊢
  have hA : ∀ q : Nat, s.heap.size ≤ q → A q := fun q h => by rw [← hAe]; exact Or.inr h
  have hS : va_S A s.heap s.heap [] := va_S.rf
  have hl := lv_entry ([.ref ax, .int i1]) (n := 3) (Nat.le_of_ble_eq_true rfl)
  rw [lg_entry_eq]
  generalize (lg_sl ([.ref ax, .int i1]) ++ List.replicate (3 - (lg_sl ([.ref ax, .int i1])).length) Slot.unset).toArray = ls at hl ⊢
  have hl : lv_has ls 3 [(0, .ref ax), (1, .int i1)] := hl
  have f18 := hts (.fieldLink RX4 18 "SecondTill$Tape" "length" "I") (by decide +kernel)
  have inX4 : ∀ w ∈ u_ws RX4 TX4 3, w ∈ wsX4_agreesWith := by decide +kernel
  have f9 := hts (.fieldLink RX4 9 "SecondTill$Tape" "who" "[I") (by decide +kernel)
  have f15 := hts (.fieldLink RX4 15 "SecondTill$Tape" "where" "[I") (by decide +kernel)
  unfold S_X4_agreesWith at hf
  have hP : va_P D vwCl [(ax, .inr (4, [.ref ax_who, .ref ax_where, .int x_length])), (ax_who, .inl (cyI, 8, .inl x_who)), (ax_where, .inl (cyI, 8, .inl x_where))] s.heap := hP
  suffices hgo : ∀ (H : Heap) (locs : List Loc), va_P D vwCl [(ax, .inr (4, [.ref ax_who, .ref ax_where, .int x_length])), (ax_who, .inl (cyI, 8, .inl x_who)), (ax_where, .inl (cyI, 8, .inl x_where))] H → va_S A s.heap H locs → W p l e rX4_agreesWith s m (([.ref ax, .int i1] : List Value).toArray) below meth c H locs 0 0 (MQ below (CQi r D [(ax, .inr (4, [.ref ax_who, .ref ax_where, .int x_length])), (ax_who, .inl (cyI, 8, .inl x_who)), (ax_where, .inl (cyI, 8, .inl x_where))] A) (([.ref ax, .int i1] : List Value).toArray) s 0 0 A) (F0 m 0 ls []) from hgo _ _ hP hS
  clear hP hS
  intro H locs hP hS
  refine lv_iconst (v := 0) hx hb dX4_agreesWith_0 (by decide) ?_
  refine lv_istore_n (lv' := [(2, .int (0 : Int32)), (0, .ref ax), (1, .int i1)]) hx hb dX4_agreesWith_1 rfl hl (by decide) rfl (fun ls hl => ?_)
  have hL2 : ∀ (n2 : Nat) (i2 : Int32) (H : Heap) (locs : List Loc) (ls : Array Slot), va_P D vwCl [(ax, .inr (4, [.ref ax_who, .ref ax_where, .int x_length])), (ax_who, .inl (cyI, 8, .inl x_who)), (ax_where, .inl (cyI, 8, .inl x_where))] H → va_D A [(ax, .inr (4, [.ref ax_who, .ref ax_where, .int x_length])), (ax_who, .inl (cyI, 8, .inl x_who)), (ax_where, .inl (cyI, 8, .inl x_where))] → va_S A s.heap H locs → lv_has ls 3 [(0, .ref ax), (1, .int i1), (2, .int i2)] → S_X4_agreesWith_L2 i1 x_length x_who x_where n2 i2 = some r → W p l e rX4_agreesWith s m (([.ref ax, .int i1] : List Value).toArray) below meth c H locs 0 0 (MQ below (CQi r D [(ax, .inr (4, [.ref ax_who, .ref ax_where, .int x_length])), (ax_who, .inl (cyI, 8, .inl x_who)), (ax_where, .inl (cyI, 8, .inl x_where))] A) (([.ref ax, .int i1] : List Value).toArray) s 0 0 A) (F0 m 2 ls []) := by
    intro n2
    induction n2 with
    | zero => intro i2 H locs ls hP hD hS hl hf; exact absurd hf (by simp [S_X4_agreesWith_L2])
    | succ n2 ih2 =>
      intro i2 H locs ls hP hD hS hl hf
      rw [S_X4_agreesWith_L2] at hf
      refine lv_iload_n hx hb dX4_agreesWith_2 rfl (lv_at hl 2 rfl) ?_
      refine lv_aload_n hx hb dX4_agreesWith_3 rfl (lv_at hl 0 rfl) ?_
      refine va_get (C := RX4) (T := TX4) (N := 3) hx hb hts inX4 hown hK.1 hP 0 rfl rfl 2 (by decide) f18 (fun _ h9 => h9) rfl dX4_agreesWith_4 ?_
      refine lv_icmp_ge (tgt := 37) hx hb dX4_agreesWith_7 (by decide) (fun c7 => ?_) (fun c7 => ?_)
      · replace hf := ip c7 hf
        refine lv_iconst (v := 1) hx hb dX4_agreesWith_37 (by decide) ?_
        obtain rfl := Option.some.inj hf
        exact W.zret hx hb hr rfl (fun t ht hW => ⟨⟨_, (), rfl, rfl, by rw [ht]; exact hP, hD⟩, hS.F ht⟩) hS.2.2 dX4_agreesWith_38
      · replace hf := iq c7 hf
        refine lv_iload_n hx hb dX4_agreesWith_10 rfl (lv_at hl 1 rfl) ?_
        refine lv_aload_n hx hb dX4_agreesWith_11 rfl (lv_at hl 0 rfl) ?_
        refine va_get (C := RX4) (T := TX4) (N := 3) hx hb hts inX4 hown hK.1 hP 0 rfl rfl 0 (by decide) f9 (fun _ h9 => h9) rfl dX4_agreesWith_12 ?_
        refine lv_iload_n hx hb dX4_agreesWith_15 rfl (lv_at hl 2 rfl) ?_
        obtain ⟨z16, hf⟩ := oi hf
        refine a_ild hx hb hK hP 1 rfl z16 i2.toNatClampNeg rfl dX4_agreesWith_16 ?_
        refine lv_ishr hx hb dX4_agreesWith_17 ?_
        refine lv_iconst (v := 1) hx hb dX4_agreesWith_18 (by decide) ?_
        refine lv_iand hx hb dX4_agreesWith_19 ?_
        refine lv_aload_n hx hb dX4_agreesWith_20 rfl (lv_at hl 0 rfl) ?_
        refine va_get (C := RX4) (T := TX4) (N := 3) hx hb hts inX4 hown hK.1 hP 0 rfl rfl 1 (by decide) f15 (fun _ h9 => h9) rfl dX4_agreesWith_21 ?_
        refine lv_iload_n hx hb dX4_agreesWith_24 rfl (lv_at hl 2 rfl) ?_
        obtain ⟨z25, hf⟩ := oi hf
        refine a_ild hx hb hK hP 2 rfl z25 i2.toNatClampNeg rfl dX4_agreesWith_25 ?_
        refine lv_icmp_eq (tgt := 31) hx hb dX4_agreesWith_26 (by decide) (fun c26 => ?_) (fun c26 => ?_)
        · replace hf := ip c26 hf
          refine lv_iinc (v := i2 + (1 : Int32)) (lv' := [(2, .int (i2 + (1 : Int32))), (0, .ref ax), (1, .int i1)]) hx hb dX4_agreesWith_31 hl (k := 2) rfl rfl (by decide) rfl (fun ls hl => ?_)
          refine lv_goto (tgt := 2) hx hb dX4_agreesWith_34 (by decide) ?_
          exact ih2 (i2 + (1 : Int32)) _ _ _ hP hD hS (lv_sub hl [1, 2, 0] rfl) hf
        · replace hf := iq c26 hf
          refine lv_iconst (v := 0) hx hb dX4_agreesWith_29 (by decide) ?_
          obtain rfl := Option.some.inj hf
          exact W.zret hx hb hr rfl (fun t ht hW => ⟨⟨_, (), rfl, rfl, by rw [ht]; exact hP, hD⟩, hS.F ht⟩) hS.2.2 dX4_agreesWith_30
  exact hL2 300 (0 : Int32) _ _ _ hP hD hS (lv_sub hl [1, 2, 0] rfl) hf
abbrev rX5_append : Room := { frames := 0, cells := 0, slots := 0, locals := 0 }
set_option maxHeartbeats 4000000 in
set_option maxRecDepth 100000 in
theorem c_X5_append (l : Launch) (D : va_G) (cyI cyC cyS : ClassId) (sz : Nat) (ax : Nat) (ax_letters : Nat) (ax_numbers : Nat) (x_length : Int32) (x_letters : Nat → Int32) (i1 : Int32) {r : Int32} {o_x_length : Int32} {o_x_letters : Nat → Int32} (hf : S_X5_append i1 x_length x_letters = some (r, o_x_length, o_x_letters)) : Met l yX5_append wsX5_append rX5_append (Cpre [.ref ax, .int i1] D cyI cyC cyS sz [(ax, .inr (5, [.ref ax_letters, .ref ax_numbers, .int x_length])), (ax_letters, .inl (cyC, 200, .inl x_letters))]) (CQi r D [(ax, .inr (5, [.ref ax_letters, .ref ax_numbers, .int o_x_length])), (ax_letters, .inl (cyC, 200, .inl o_x_letters))] (va_A [(ax, .inr (5, [.ref ax_letters, .ref ax_numbers, .int x_length])), (ax_letters, .inl (cyC, 200, .inl x_letters))] sz)) 0 0 (va_A [(ax, .inr (5, [.ref ax_letters, .ref ax_numbers, .int x_length])), (ax_letters, .inl (cyC, 200, .inl x_letters))] sz) := by
  refine Met.ofW (cc := cX5_append) (maxL := 2) (ret := (some .boolean)) (by decide) rfl ?_
  intro p e s m args below meth c s₁ B hml hv
  obtain ⟨rfl, hsz, hP, hK, hD0⟩ := hv
  have hx := B.exec
  have hb := B.bytes
  have hr := B.returns
  have hts := atoms_spec (ws := wsX5_append) B.pre
  have hown : s.vm.findClass RX5 = some m.cls := findClass_of_methodNamed B.named
  have hlocks := B.notSynchronized
  subst hsz
  have hD := hD0.self (sz := s.heap.size)
  generalize hAe : va_A [(ax, .inr (5, [.ref ax_letters, .ref ax_numbers, .int x_length])), (ax_letters, .inl (cyC, 200, .inl x_letters))] s.heap.size = A at hD ⊢
  have hA : ∀ q : Nat, s.heap.size ≤ q → A q := fun q h => by rw [← hAe]; exact Or.inr h
  have hS : va_S A s.heap s.heap [] := va_S.rf
  have hl := lv_entry ([.ref ax, .int i1]) (n := 2) (Nat.le_of_ble_eq_true rfl)
  rw [lg_entry_eq]
  generalize (lg_sl ([.ref ax, .int i1]) ++ List.replicate (2 - (lg_sl ([.ref ax, .int i1])).length) Slot.unset).toArray = ls at hl ⊢
  have hl : lv_has ls 2 [(0, .ref ax), (1, .int i1)] := hl
  have f19 := hts (.fieldLink RX5 19 "SecondTill$Text" "length" "I") (by decide +kernel)
  have inX5 : ∀ w ∈ u_ws RX5 TX5 3, w ∈ wsX5_append := by decide +kernel
  have f9 := hts (.fieldLink RX5 9 "SecondTill$Text" "letters" "[C") (by decide +kernel)
  unfold S_X5_append at hf
  have hP : va_P D vwCl [(ax, .inr (5, [.ref ax_letters, .ref ax_numbers, .int x_length])), (ax_letters, .inl (cyC, 200, .inl x_letters))] s.heap := hP
  suffices hgo : ∀ (H : Heap) (locs : List Loc), va_P D vwCl [(ax, .inr (5, [.ref ax_letters, .ref ax_numbers, .int x_length])), (ax_letters, .inl (cyC, 200, .inl x_letters))] H → va_S A s.heap H locs → W p l e rX5_append s m (([.ref ax, .int i1] : List Value).toArray) below meth c H locs 0 0 (MQ below (CQi r D [(ax, .inr (5, [.ref ax_letters, .ref ax_numbers, .int o_x_length])), (ax_letters, .inl (cyC, 200, .inl o_x_letters))] A) (([.ref ax, .int i1] : List Value).toArray) s 0 0 A) (F0 m 0 ls []) from hgo _ _ hP hS
  clear hP hS
  intro H locs hP hS
  refine lv_aload_n hx hb dX5_append_0 rfl (lv_at hl 0 rfl) ?_
  refine va_get (C := RX5) (T := TX5) (N := 3) hx hb hts inX5 hown hK.1 hP 0 rfl rfl 2 (by decide) f19 (fun _ h9 => h9) rfl dX5_append_1 ?_
  refine lv_sipush (v := 200) hx hb dX5_append_4 (by decide) ?_
  refine lv_icmp_lt (tgt := 12) hx hb dX5_append_7 (by decide) (fun c7 => ?_) (fun c7 => ?_)
  · replace hf := ip c7 hf
    refine lv_aload_n hx hb dX5_append_12 rfl (lv_at hl 0 rfl) ?_
    refine va_get (C := RX5) (T := TX5) (N := 3) hx hb hts inX5 hown hK.1 hP 0 rfl rfl 0 (by decide) f9 (fun _ h9 => h9) rfl dX5_append_13 ?_
    refine lv_aload_n hx hb dX5_append_16 rfl (lv_at hl 0 rfl) ?_
    refine va_get (C := RX5) (T := TX5) (N := 3) hx hb hts inX5 hown hK.1 hP 0 rfl rfl 2 (by decide) f19 (fun _ h9 => h9) rfl dX5_append_17 ?_
    refine lv_iload_n hx hb dX5_append_20 rfl (lv_at hl 1 rfl) ?_
    obtain ⟨z21, hf⟩ := oi hf
    refine a_cst (wn := [(ax, .inr (5, [.ref ax_letters, .ref ax_numbers, .int x_length])), (ax_letters, .inl (cyC, 200, .inl (upd x_letters x_length.toNatClampNeg (vp_nar .char i1))))]) hx hb hK hP hD hS 1 rfl z21 x_length.toNatClampNeg rfl rfl dX5_append_21 (fun H locs hP hD hS => ?_)
    refine lv_aload_n hx hb dX5_append_22 rfl (lv_at hl 0 rfl) ?_
    refine lv_dup hx hb dX5_append_23 rfl ?_
    refine va_get (C := RX5) (T := TX5) (N := 3) hx hb hts inX5 hown hK.1 hP 0 rfl rfl 2 (by decide) f19 (fun _ h9 => h9) rfl dX5_append_24 ?_
    refine lv_iconst (v := 1) hx hb dX5_append_27 (by decide) ?_
    refine lv_iadd hx hb dX5_append_28 ?_
    refine a_put (C := RX5) (T := TX5) (N := 3) (wn := [(ax, .inr (5, [.ref ax_letters, .ref ax_numbers, .int (x_length + (1 : Int32))])), (ax_letters, .inl (cyC, 200, .inl (upd x_letters x_length.toNatClampNeg (vp_nar .char i1))))]) hx hb hts inX5 tyX5 tyX5_ok nmX5 hown hK hP hD hS 0 rfl rfl 2 (by decide) f19 (fun _ h9 => h9) rfl rfl (Nat.le_of_ble_eq_true rfl) rfl dX5_append_29 (fun H locs hP hD hS => ?_)
    refine lv_iconst (v := 1) hx hb dX5_append_32 (by decide) ?_
    simp only [Option.some.injEq, Prod.mk.injEq] at hf
    obtain ⟨rfl, rfl, rfl⟩ := hf
    exact W.zret hx hb hr rfl (fun t ht hW => ⟨⟨_, (), rfl, rfl, by rw [ht]; exact hP, hD⟩, hS.F ht⟩) hS.2.2 dX5_append_33
  · replace hf := iq c7 hf
    refine lv_iconst (v := 0) hx hb dX5_append_10 (by decide) ?_
    simp only [Option.some.injEq, Prod.mk.injEq] at hf
    obtain ⟨rfl, rfl, rfl⟩ := hf
    exact W.zret hx hb hr rfl (fun t ht hW => ⟨⟨_, (), rfl, rfl, by rw [ht]; exact hP, hD⟩, hS.F ht⟩) hS.2.2 dX5_append_11
abbrev rX5_letterAt : Room := { frames := 0, cells := 0, slots := 0, locals := 0 }
set_option maxHeartbeats 4000000 in
set_option maxRecDepth 100000 in
theorem c_X5_letterAt (l : Launch) (D : va_G) (cyI cyC cyS : ClassId) (sz : Nat) (ax : Nat) (ax_letters : Nat) (ax_numbers : Nat) (x_length : Int32) (x_letters : Nat → Int32) (i1 : Int32) {r : Int32} (hf : S_X5_letterAt i1 x_length x_letters = some r) : Met l yX5_letterAt wsX5_letterAt rX5_letterAt (Cpre [.ref ax, .int i1] D cyI cyC cyS sz [(ax, .inr (5, [.ref ax_letters, .ref ax_numbers, .int x_length])), (ax_letters, .inl (cyC, 200, .inl x_letters))]) (CQi r D [(ax, .inr (5, [.ref ax_letters, .ref ax_numbers, .int x_length])), (ax_letters, .inl (cyC, 200, .inl x_letters))] (va_A [(ax, .inr (5, [.ref ax_letters, .ref ax_numbers, .int x_length])), (ax_letters, .inl (cyC, 200, .inl x_letters))] sz)) 0 0 (va_A [(ax, .inr (5, [.ref ax_letters, .ref ax_numbers, .int x_length])), (ax_letters, .inl (cyC, 200, .inl x_letters))] sz) := by
  refine Met.ofW (cc := cX5_letterAt) (maxL := 2) (ret := (some .char)) (by decide) rfl ?_
  intro p e s m args below meth c s₁ B hml hv
  obtain ⟨rfl, hsz, hP, hK, hD0⟩ := hv
  have hx := B.exec
  have hb := B.bytes
  have hr := B.returns
  have hts := atoms_spec (ws := wsX5_letterAt) B.pre
  have hown : s.vm.findClass RX5 = some m.cls := findClass_of_methodNamed B.named
  have hlocks := B.notSynchronized
  subst hsz
  have hD := hD0.self (sz := s.heap.size)
  generalize hAe : va_A [(ax, .inr (5, [.ref ax_letters, .ref ax_numbers, .int x_length])), (ax_letters, .inl (cyC, 200, .inl x_letters))] s.heap.size = A at hD ⊢
  have hA : ∀ q : Nat, s.heap.size ≤ q → A q := fun q h => by rw [← hAe]; exact Or.inr h
  have hS : va_S A s.heap s.heap [] := va_S.rf
  have hl := lv_entry ([.ref ax, .int i1]) (n := 2) (Nat.le_of_ble_eq_true rfl)
  rw [lg_entry_eq]
  generalize (lg_sl ([.ref ax, .int i1]) ++ List.replicate (2 - (lg_sl ([.ref ax, .int i1])).length) Slot.unset).toArray = ls at hl ⊢
  have hl : lv_has ls 2 [(0, .ref ax), (1, .int i1)] := hl
  have f19 := hts (.fieldLink RX5 19 "SecondTill$Text" "length" "I") (by decide +kernel)
  have inX5 : ∀ w ∈ u_ws RX5 TX5 3, w ∈ wsX5_letterAt := by decide +kernel
  have f9 := hts (.fieldLink RX5 9 "SecondTill$Text" "letters" "[C") (by decide +kernel)
  unfold S_X5_letterAt at hf
  have hP : va_P D vwCl [(ax, .inr (5, [.ref ax_letters, .ref ax_numbers, .int x_length])), (ax_letters, .inl (cyC, 200, .inl x_letters))] s.heap := hP
  suffices hgo : ∀ (H : Heap) (locs : List Loc), va_P D vwCl [(ax, .inr (5, [.ref ax_letters, .ref ax_numbers, .int x_length])), (ax_letters, .inl (cyC, 200, .inl x_letters))] H → va_S A s.heap H locs → W p l e rX5_letterAt s m (([.ref ax, .int i1] : List Value).toArray) below meth c H locs 0 0 (MQ below (CQi r D [(ax, .inr (5, [.ref ax_letters, .ref ax_numbers, .int x_length])), (ax_letters, .inl (cyC, 200, .inl x_letters))] A) (([.ref ax, .int i1] : List Value).toArray) s 0 0 A) (F0 m 0 ls []) from hgo _ _ hP hS
  clear hP hS
  intro H locs hP hS
  refine lv_iload_n hx hb dX5_letterAt_0 rfl (lv_at hl 1 rfl) ?_
  refine lv_if_lt (tgt := 21) hx hb dX5_letterAt_1 (by decide) (fun c1 => ?_) (fun c1 => ?_)
  · replace hf := ip c1 hf
    refine lv_iconst (v := 0) hx hb dX5_letterAt_21 (by decide) ?_
    obtain rfl := Option.some.inj hf
    exact W.zret hx hb hr rfl (fun t ht hW => ⟨⟨_, (), rfl, rfl, by rw [ht]; exact hP, hD⟩, hS.F ht⟩) hS.2.2 dX5_letterAt_22
  · replace hf := iq c1 hf
    refine lv_iload_n hx hb dX5_letterAt_4 rfl (lv_at hl 1 rfl) ?_
    refine lv_aload_n hx hb dX5_letterAt_5 rfl (lv_at hl 0 rfl) ?_
    refine va_get (C := RX5) (T := TX5) (N := 3) hx hb hts inX5 hown hK.1 hP 0 rfl rfl 2 (by decide) f19 (fun _ h9 => h9) rfl dX5_letterAt_6 ?_
    refine lv_icmp_ge (tgt := 21) hx hb dX5_letterAt_9 (by decide) (fun c9 => ?_) (fun c9 => ?_)
    · replace hf := ip c9 hf
      refine lv_iconst (v := 0) hx hb dX5_letterAt_21 (by decide) ?_
      obtain rfl := Option.some.inj hf
      exact W.zret hx hb hr rfl (fun t ht hW => ⟨⟨_, (), rfl, rfl, by rw [ht]; exact hP, hD⟩, hS.F ht⟩) hS.2.2 dX5_letterAt_22
    · replace hf := iq c9 hf
      refine lv_aload_n hx hb dX5_letterAt_12 rfl (lv_at hl 0 rfl) ?_
      refine va_get (C := RX5) (T := TX5) (N := 3) hx hb hts inX5 hown hK.1 hP 0 rfl rfl 0 (by decide) f9 (fun _ h9 => h9) rfl dX5_letterAt_13 ?_
      refine lv_iload_n hx hb dX5_letterAt_16 rfl (lv_at hl 1 rfl) ?_
      obtain ⟨z17, hf⟩ := oi hf
      refine a_cld hx hb hK hP 1 rfl z17 i1.toNatClampNeg rfl dX5_letterAt_17 ?_
      refine lv_goto (tgt := 22) hx hb dX5_letterAt_18 (by decide) ?_
      obtain ⟨n22, hf⟩ := oj hf
      obtain rfl := Option.some.inj hf
      exact W.zret hx hb hr (nar_char n22) (fun t ht hW => ⟨⟨_, (), rfl, rfl, by rw [ht]; exact hP, hD⟩, hS.F ht⟩) hS.2.2 dX5_letterAt_22
abbrev rX5_isFigure : Room := { frames := 0, cells := 0, slots := 0, locals := 0 }
set_option maxHeartbeats 4000000 in
set_option maxRecDepth 100000 in
theorem c_X5_isFigure (l : Launch) (D : va_G) (cyI cyC cyS : ClassId) (sz : Nat) (i0 : Int32) {r : Int32} (hf : S_X5_isFigure i0 = some r) : Met l yX5_isFigure wsX5_isFigure rX5_isFigure (Cpre [.int i0] D cyI cyC cyS sz []) (CQi r D [] (va_A [] sz)) 0 0 (va_A [] sz) := by
  refine Met.ofW (cc := cX5_isFigure) (maxL := 1) (ret := (some .boolean)) (by decide) rfl ?_
  intro p e s m args below meth c s₁ B hml hv
  obtain ⟨rfl, hsz, hP, hK, hD0⟩ := hv
  have hx := B.exec
  have hb := B.bytes
  have hr := B.returns
  have hts := atoms_spec (ws := wsX5_isFigure) B.pre
  have hown : s.vm.findClass RX5 = some m.cls := findClass_of_methodNamed B.named
  have hlocks := B.notSynchronized
  subst hsz
  have hD := hD0.self (sz := s.heap.size)
  generalize hAe : va_A [] s.heap.size = A at hD ⊢
  have hA : ∀ q : Nat, s.heap.size ≤ q → A q := fun q h => by rw [← hAe]; exact Or.inr h
  have hS : va_S A s.heap s.heap [] := va_S.rf
  have hl := lv_entry ([.int i0]) (n := 1) (Nat.le_of_ble_eq_true rfl)
  rw [lg_entry_eq]
  generalize (lg_sl ([.int i0]) ++ List.replicate (1 - (lg_sl ([.int i0])).length) Slot.unset).toArray = ls at hl ⊢
  have hl : lv_has ls 1 [(0, .int i0)] := hl
  unfold S_X5_isFigure at hf
  have hP : va_P D vwCl [] s.heap := hP
  suffices hgo : ∀ (H : Heap) (locs : List Loc), va_P D vwCl [] H → va_S A s.heap H locs → W p l e rX5_isFigure s m (([.int i0] : List Value).toArray) below meth c H locs 0 0 (MQ below (CQi r D [] A) (([.int i0] : List Value).toArray) s 0 0 A) (F0 m 0 ls []) from hgo _ _ hP hS
  clear hP hS
  intro H locs hP hS
  refine lv_iload_n hx hb dX5_isFigure_0 rfl (lv_at hl 0 rfl) ?_
  refine lv_bipush (v := 48) hx hb dX5_isFigure_1 (by decide) ?_
  refine lv_icmp_lt (tgt := 16) hx hb dX5_isFigure_3 (by decide) (fun c3 => ?_) (fun c3 => ?_)
  · replace hf := ip c3 hf
    refine lv_iconst (v := 0) hx hb dX5_isFigure_16 (by decide) ?_
    obtain rfl := Option.some.inj hf
    exact W.zret hx hb hr rfl (fun t ht hW => ⟨⟨_, (), rfl, rfl, by rw [ht]; exact hP, hD⟩, hS.F ht⟩) hS.2.2 dX5_isFigure_17
  · replace hf := iq c3 hf
    refine lv_iload_n hx hb dX5_isFigure_6 rfl (lv_at hl 0 rfl) ?_
    refine lv_bipush (v := 57) hx hb dX5_isFigure_7 (by decide) ?_
    refine lv_icmp_gt (tgt := 16) hx hb dX5_isFigure_9 (by decide) (fun c9 => ?_) (fun c9 => ?_)
    · replace hf := ip c9 hf
      refine lv_iconst (v := 0) hx hb dX5_isFigure_16 (by decide) ?_
      obtain rfl := Option.some.inj hf
      exact W.zret hx hb hr rfl (fun t ht hW => ⟨⟨_, (), rfl, rfl, by rw [ht]; exact hP, hD⟩, hS.F ht⟩) hS.2.2 dX5_isFigure_17
    · replace hf := iq c9 hf
      refine lv_iconst (v := 1) hx hb dX5_isFigure_12 (by decide) ?_
      refine lv_goto (tgt := 17) hx hb dX5_isFigure_13 (by decide) ?_
      obtain rfl := Option.some.inj hf
      exact W.zret hx hb hr rfl (fun t ht hW => ⟨⟨_, (), rfl, rfl, by rw [ht]; exact hP, hD⟩, hS.F ht⟩) hS.2.2 dX5_isFigure_17
abbrev rX5_numbersBehind : Room := { frames := 0, cells := 0, slots := 0, locals := 0 }
set_option maxHeartbeats 4000000 in
set_option maxRecDepth 100000 in
theorem c_X5_numbersBehind (l : Launch) (D : va_G) (cyI cyC cyS : ClassId) (sz : Nat) (i0 : Int32) {r : Int32} (hf : S_X5_numbersBehind i0 = some r) : Met l yX5_numbersBehind wsX5_numbersBehind rX5_numbersBehind (Cpre [.int i0] D cyI cyC cyS sz []) (CQi r D [] (va_A [] sz)) 0 0 (va_A [] sz) := by
  refine Met.ofW (cc := cX5_numbersBehind) (maxL := 1) (ret := (some .int)) (by decide) rfl ?_
  intro p e s m args below meth c s₁ B hml hv
  obtain ⟨rfl, hsz, hP, hK, hD0⟩ := hv
  have hx := B.exec
  have hb := B.bytes
  have hr := B.returns
  have hts := atoms_spec (ws := wsX5_numbersBehind) B.pre
  have hown : s.vm.findClass RX5 = some m.cls := findClass_of_methodNamed B.named
  have hlocks := B.notSynchronized
  subst hsz
  have hD := hD0.self (sz := s.heap.size)
  generalize hAe : va_A [] s.heap.size = A at hD ⊢
  have hA : ∀ q : Nat, s.heap.size ≤ q → A q := fun q h => by rw [← hAe]; exact Or.inr h
  have hS : va_S A s.heap s.heap [] := va_S.rf
  have hl := lv_entry ([.int i0]) (n := 1) (Nat.le_of_ble_eq_true rfl)
  rw [lg_entry_eq]
  generalize (lg_sl ([.int i0]) ++ List.replicate (1 - (lg_sl ([.int i0])).length) Slot.unset).toArray = ls at hl ⊢
  have hl : lv_has ls 1 [(0, .int i0)] := hl
  unfold S_X5_numbersBehind at hf
  have hP : va_P D vwCl [] s.heap := hP
  suffices hgo : ∀ (H : Heap) (locs : List Loc), va_P D vwCl [] H → va_S A s.heap H locs → W p l e rX5_numbersBehind s m (([.int i0] : List Value).toArray) below meth c H locs 0 0 (MQ below (CQi r D [] A) (([.int i0] : List Value).toArray) s 0 0 A) (F0 m 0 ls []) from hgo _ _ hP hS
  clear hP hS
  intro H locs hP hS
  refine lv_iload_n hx hb dX5_numbersBehind_0 rfl (lv_at hl 0 rfl) ?_
  refine lv_bipush (v := 112) hx hb dX5_numbersBehind_1 (by decide) ?_
  refine lv_icmp_ne (tgt := 8) hx hb dX5_numbersBehind_3 (by decide) (fun c3 => ?_) (fun c3 => ?_)
  · replace hf := iq c3 hf
    refine lv_iload_n hx hb dX5_numbersBehind_8 rfl (lv_at hl 0 rfl) ?_
    refine lv_bipush (v := 115) hx hb dX5_numbersBehind_9 (by decide) ?_
    refine lv_icmp_ne (tgt := 16) hx hb dX5_numbersBehind_11 (by decide) (fun c11 => ?_) (fun c11 => ?_)
    · replace hf := iq c11 hf
      refine lv_iload_n hx hb dX5_numbersBehind_16 rfl (lv_at hl 0 rfl) ?_
      refine lv_bipush (v := 100) hx hb dX5_numbersBehind_17 (by decide) ?_
      refine lv_icmp_ne (tgt := 26) hx hb dX5_numbersBehind_19 (by decide) (fun c19 => ?_) (fun c19 => ?_)
      · replace hf := iq c19 hf
        refine lv_iconst (v := 0) hx hb dX5_numbersBehind_26 (by decide) ?_
        obtain rfl := Option.some.inj hf
        exact W.iret hx hb hr (fun t ht hW => ⟨⟨_, (), rfl, rfl, by rw [ht]; exact hP, hD⟩, hS.F ht⟩) hS.2.2 dX5_numbersBehind_27
      · replace hf := ip c19 hf
        refine lv_iconst (v := 1) hx hb dX5_numbersBehind_22 (by decide) ?_
        refine lv_goto (tgt := 27) hx hb dX5_numbersBehind_23 (by decide) ?_
        obtain rfl := Option.some.inj hf
        exact W.iret hx hb hr (fun t ht hW => ⟨⟨_, (), rfl, rfl, by rw [ht]; exact hP, hD⟩, hS.F ht⟩) hS.2.2 dX5_numbersBehind_27
    · replace hf := ip c11 hf
      refine lv_iconst (v := 2) hx hb dX5_numbersBehind_14 (by decide) ?_
      obtain rfl := Option.some.inj hf
      exact W.iret hx hb hr (fun t ht hW => ⟨⟨_, (), rfl, rfl, by rw [ht]; exact hP, hD⟩, hS.F ht⟩) hS.2.2 dX5_numbersBehind_15
  · replace hf := ip c3 hf
    refine lv_iconst (v := 3) hx hb dX5_numbersBehind_6 (by decide) ?_
    obtain rfl := Option.some.inj hf
    exact W.iret hx hb hr (fun t ht hW => ⟨⟨_, (), rfl, rfl, by rw [ht]; exact hP, hD⟩, hS.F ht⟩) hS.2.2 dX5_numbersBehind_7
abbrev rX5_endOfNumber : Room := { frames := 1, cells := 0, slots := 0, locals := 21 }
set_option maxHeartbeats 4000000 in
set_option maxRecDepth 100000 in
theorem c_X5_endOfNumber (l : Launch) (D : va_G) (cyI cyC cyS : ClassId) (sz : Nat) (ax : Nat) (ax_letters : Nat) (ax_numbers : Nat) (x_length : Int32) (x_letters : Nat → Int32) (i1 : Int32) {r : Int32} (hf : S_X5_endOfNumber i1 x_length x_letters = some r) : Met l yX5_endOfNumber wsX5_endOfNumber rX5_endOfNumber (Cpre [.ref ax, .int i1] D cyI cyC cyS sz [(ax, .inr (5, [.ref ax_letters, .ref ax_numbers, .int x_length])), (ax_letters, .inl (cyC, 200, .inl x_letters))]) (CQi r D [(ax, .inr (5, [.ref ax_letters, .ref ax_numbers, .int x_length])), (ax_letters, .inl (cyC, 200, .inl x_letters))] (va_A [(ax, .inr (5, [.ref ax_letters, .ref ax_numbers, .int x_length])), (ax_letters, .inl (cyC, 200, .inl x_letters))] sz)) 0 0 (va_A [(ax, .inr (5, [.ref ax_letters, .ref ax_numbers, .int x_length])), (ax_letters, .inl (cyC, 200, .inl x_letters))] sz) := by
  refine Met.ofW (cc := cX5_endOfNumber) (maxL := 3) (ret := (some .int)) (by decide) rfl ?_
  intro p e s m args below meth c s₁ B hml hv
  obtain ⟨rfl, hsz, hP, hK, hD0⟩ := hv
  have hx := B.exec
  have hb := B.bytes
  have hr := B.returns
  have hts := atoms_spec (ws := wsX5_endOfNumber) B.pre
  have hown : s.vm.findClass RX5 = some m.cls := findClass_of_methodNamed B.named
  have hlocks := B.notSynchronized
  subst hsz
  have hD := hD0.self (sz := s.heap.size)
  generalize hAe : va_A [(ax, .inr (5, [.ref ax_letters, .ref ax_numbers, .int x_length])), (ax_letters, .inl (cyC, 200, .inl x_letters))] s.heap.size = A at hD ⊢
  have hA : ∀ q : Nat, s.heap.size ≤ q → A q := fun q h => by rw [← hAe]; exact Or.inr h
  have hS : va_S A s.heap s.heap [] := va_S.rf
  have hl := lv_entry ([.ref ax, .int i1]) (n := 3) (Nat.le_of_ble_eq_true rfl)
  rw [lg_entry_eq]
  generalize (lg_sl ([.ref ax, .int i1]) ++ List.replicate (3 - (lg_sl ([.ref ax, .int i1])).length) Slot.unset).toArray = ls at hl ⊢
  have hl : lv_has ls 3 [(0, .ref ax), (1, .int i1)] := hl
  unfold S_X5_endOfNumber at hf
  have hP : va_P D vwCl [(ax, .inr (5, [.ref ax_letters, .ref ax_numbers, .int x_length])), (ax_letters, .inl (cyC, 200, .inl x_letters))] s.heap := hP
  suffices hgo : ∀ (H : Heap) (locs : List Loc), va_P D vwCl [(ax, .inr (5, [.ref ax_letters, .ref ax_numbers, .int x_length])), (ax_letters, .inl (cyC, 200, .inl x_letters))] H → va_S A s.heap H locs → W p l e rX5_endOfNumber s m (([.ref ax, .int i1] : List Value).toArray) below meth c H locs 0 0 (MQ below (CQi r D [(ax, .inr (5, [.ref ax_letters, .ref ax_numbers, .int x_length])), (ax_letters, .inl (cyC, 200, .inl x_letters))] A) (([.ref ax, .int i1] : List Value).toArray) s 0 0 A) (F0 m 0 ls []) from hgo _ _ hP hS
  clear hP hS
  intro H locs hP hS
  refine lv_iload_n hx hb dX5_endOfNumber_0 rfl (lv_at hl 1 rfl) ?_
  refine lv_istore_n (lv' := [(2, .int i1), (0, .ref ax), (1, .int i1)]) hx hb dX5_endOfNumber_1 rfl hl (by decide) rfl (fun ls hl => ?_)
  have hL2 : ∀ (n2 : Nat) (i2 : Int32) (H : Heap) (locs : List Loc) (ls : Array Slot), va_P D vwCl [(ax, .inr (5, [.ref ax_letters, .ref ax_numbers, .int x_length])), (ax_letters, .inl (cyC, 200, .inl x_letters))] H → va_D A [(ax, .inr (5, [.ref ax_letters, .ref ax_numbers, .int x_length])), (ax_letters, .inl (cyC, 200, .inl x_letters))] → va_S A s.heap H locs → lv_has ls 3 [(0, .ref ax), (1, .int i1), (2, .int i2)] → S_X5_endOfNumber_L2 i1 x_length x_letters n2 i2 = some r → W p l e rX5_endOfNumber s m (([.ref ax, .int i1] : List Value).toArray) below meth c H locs 0 0 (MQ below (CQi r D [(ax, .inr (5, [.ref ax_letters, .ref ax_numbers, .int x_length])), (ax_letters, .inl (cyC, 200, .inl x_letters))] A) (([.ref ax, .int i1] : List Value).toArray) s 0 0 A) (F0 m 2 ls []) := by
    intro n2
    induction n2 with
    | zero => intro i2 H locs ls hP hD hS hl hf; exact absurd hf (by simp [S_X5_endOfNumber_L2])
    | succ n2 ih2 =>
      intro i2 H locs ls hP hD hS hl hf
      rw [S_X5_endOfNumber_L2] at hf
      refine lv_iload_n hx hb dX5_endOfNumber_2 rfl (lv_at hl 2 rfl) ?_
      refine lv_iload_n hx hb dX5_endOfNumber_3 rfl (lv_at hl 1 rfl) ?_
      refine lv_iconst (v := 2) hx hb dX5_endOfNumber_4 (by decide) ?_
      refine lv_iadd hx hb dX5_endOfNumber_5 ?_
      refine lv_icmp_ge (tgt := 26) hx hb dX5_endOfNumber_6 (by decide) (fun c6 => ?_) (fun c6 => ?_)
      · replace hf := ip c6 hf
        refine lv_iload_n hx hb dX5_endOfNumber_26 rfl (lv_at hl 2 rfl) ?_
        obtain rfl := Option.some.inj hf
        exact W.iret hx hb hr (fun t ht hW => ⟨⟨_, (), rfl, rfl, by rw [ht]; exact hP, hD⟩, hS.F ht⟩) hS.2.2 dX5_endOfNumber_27
      · replace hf := iq c6 hf
        refine lv_aload_n hx hb dX5_endOfNumber_9 rfl (lv_at hl 0 rfl) ?_
        refine lv_iload_n hx hb dX5_endOfNumber_10 rfl (lv_at hl 2 rfl) ?_
        obtain ⟨r11, q11, hf⟩ := ob hf
        refine k_i (wc := [(ax, .inr (5, [.ref ax_letters, .ref ax_numbers, .int x_length])), (ax_letters, .inl (cyC, 200, .inl x_letters))]) (wr := []) (w1 := [(ax, .inr (5, [.ref ax_letters, .ref ax_numbers, .int x_length])), (ax_letters, .inl (cyC, 200, .inl x_letters))]) (wn := [(ax, .inr (5, [.ref ax_letters, .ref ax_numbers, .int x_length])), (ax_letters, .inl (cyC, 200, .inl x_letters))]) (va_runV (As := [.int i2]) (rest := []) ⟨hx, hb, hml, hown, hts⟩ (c_X5_letterAt l D cyI cyC cyS H.size ax ax_letters ax_numbers x_length x_letters i2 q11) (cwV 1 hts gX5_endOfNumber_X5_letterAt rfl rfl rfl (by decide +kernel) ⟨Nat.le_of_ble_eq_true rfl, Nat.le_of_ble_eq_true rfl⟩) (preV (ci := 5) hK (hP.subm (ws' := [(ax, .inr (5, [.ref ax_letters, .ref ax_numbers, .int x_length])), (ax_letters, .inl (cyC, 200, .inl x_letters))]) [0, 1] rfl) (hD.sub (ws' := [(ax, .inr (5, [.ref ax_letters, .ref ax_numbers, .int x_length])), (ax_letters, .inl (cyC, 200, .inl x_letters))]) [0, 1] (by decide) rfl) rfl rfl) rfl rfl hl.1 rfl (lv_room (Nat.le_of_ble_eq_true rfl)) dX5_endOfNumber_11 ⟨Nat.le_of_ble_eq_true rfl, Nat.le_of_ble_eq_true rfl⟩) hP hD hS hA [0, 1] [] [0, 1] rfl rfl rfl (by decide) (by decide) (by decide) (fun H locs hP hD hS => ?_)
        obtain ⟨r14, q14, hf⟩ := ob hf
        refine k_i (wc := []) (wr := [(ax, .inr (5, [.ref ax_letters, .ref ax_numbers, .int x_length])), (ax_letters, .inl (cyC, 200, .inl x_letters))]) (w1 := []) (wn := [(ax, .inr (5, [.ref ax_letters, .ref ax_numbers, .int x_length])), (ax_letters, .inl (cyC, 200, .inl x_letters))]) (va_runS (As := [.int r11]) (rest := []) ⟨hx, hb, hml, hown, hts⟩ (c_X5_isFigure l D cyI cyC cyS H.size r11 q14) (va_cwS 1 hts gX5_endOfNumber_X5_isFigure rfl rfl rfl (by decide +kernel) ⟨Nat.le_of_ble_eq_true rfl, Nat.le_of_ble_eq_true rfl⟩) (preS hK (hP.subm (ws' := []) [] rfl) (hD.sub (ws' := []) [] (by decide) rfl)) rfl rfl hl.1 rfl (lv_room (Nat.le_of_ble_eq_true rfl)) dX5_endOfNumber_14 ⟨Nat.le_of_ble_eq_true rfl, Nat.le_of_ble_eq_true rfl⟩) hP hD hS hA [] [0, 1] [0, 1] rfl rfl rfl (by decide) (by decide) (by decide) (fun H locs hP hD hS => ?_)
        refine lv_if_eq (tgt := 26) hx hb dX5_endOfNumber_17 (by decide) (fun c17 => ?_) (fun c17 => ?_)
        · replace hf := ip c17 hf
          refine lv_iload_n hx hb dX5_endOfNumber_26 rfl (lv_at hl 2 rfl) ?_
          obtain rfl := Option.some.inj hf
          exact W.iret hx hb hr (fun t ht hW => ⟨⟨_, (), rfl, rfl, by rw [ht]; exact hP, hD⟩, hS.F ht⟩) hS.2.2 dX5_endOfNumber_27
        · replace hf := iq c17 hf
          refine lv_iinc (v := i2 + (1 : Int32)) (lv' := [(2, .int (i2 + (1 : Int32))), (0, .ref ax), (1, .int i1)]) hx hb dX5_endOfNumber_20 hl (k := 2) rfl rfl (by decide) rfl (fun ls hl => ?_)
          refine lv_goto (tgt := 2) hx hb dX5_endOfNumber_23 (by decide) ?_
          exact ih2 (i2 + (1 : Int32)) _ _ _ hP hD hS (lv_sub hl [1, 2, 0] rfl) hf
  exact hL2 300 i1 _ _ _ hP hD hS (lv_sub hl [1, 2, 0] rfl) hf
abbrev rX5_numberBetween : Room := { frames := 1, cells := 0, slots := 0, locals := 21 }
set_option maxHeartbeats 4000000 in
set_option maxRecDepth 100000 in
theorem c_X5_numberBetween (l : Launch) (D : va_G) (cyI cyC cyS : ClassId) (sz : Nat) (ax : Nat) (ax_letters : Nat) (ax_numbers : Nat) (x_length : Int32) (x_letters : Nat → Int32) (i1 : Int32) (i2 : Int32) {r : Int32} (hf : S_X5_numberBetween i1 i2 x_length x_letters = some r) : Met l yX5_numberBetween wsX5_numberBetween rX5_numberBetween (Cpre [.ref ax, .int i1, .int i2] D cyI cyC cyS sz [(ax, .inr (5, [.ref ax_letters, .ref ax_numbers, .int x_length])), (ax_letters, .inl (cyC, 200, .inl x_letters))]) (CQi r D [(ax, .inr (5, [.ref ax_letters, .ref ax_numbers, .int x_length])), (ax_letters, .inl (cyC, 200, .inl x_letters))] (va_A [(ax, .inr (5, [.ref ax_letters, .ref ax_numbers, .int x_length])), (ax_letters, .inl (cyC, 200, .inl x_letters))] sz)) 0 0 (va_A [(ax, .inr (5, [.ref ax_letters, .ref ax_numbers, .int x_length])), (ax_letters, .inl (cyC, 200, .inl x_letters))] sz) := by
  refine Met.ofW (cc := cX5_numberBetween) (maxL := 5) (ret := (some .int)) (by decide) rfl ?_
  intro p e s m args below meth c s₁ B hml hv
  obtain ⟨rfl, hsz, hP, hK, hD0⟩ := hv
  have hx := B.exec
  have hb := B.bytes
  have hr := B.returns
  have hts := atoms_spec (ws := wsX5_numberBetween) B.pre
  have hown : s.vm.findClass RX5 = some m.cls := findClass_of_methodNamed B.named
  have hlocks := B.notSynchronized
  subst hsz
  have hD := hD0.self (sz := s.heap.size)
  generalize hAe : va_A [(ax, .inr (5, [.ref ax_letters, .ref ax_numbers, .int x_length])), (ax_letters, .inl (cyC, 200, .inl x_letters))] s.heap.size = A at hD ⊢
  have hA : ∀ q : Nat, s.heap.size ≤ q → A q := fun q h => by rw [← hAe]; exact Or.inr h
  have hS : va_S A s.heap s.heap [] := va_S.rf
  have hl := lv_entry ([.ref ax, .int i1, .int i2]) (n := 5) (Nat.le_of_ble_eq_true rfl)
  rw [lg_entry_eq]
  generalize (lg_sl ([.ref ax, .int i1, .int i2]) ++ List.replicate (5 - (lg_sl ([.ref ax, .int i1, .int i2])).length) Slot.unset).toArray = ls at hl ⊢
  have hl : lv_has ls 5 [(0, .ref ax), (1, .int i1), (2, .int i2)] := hl
  unfold S_X5_numberBetween at hf
  have hP : va_P D vwCl [(ax, .inr (5, [.ref ax_letters, .ref ax_numbers, .int x_length])), (ax_letters, .inl (cyC, 200, .inl x_letters))] s.heap := hP
  suffices hgo : ∀ (H : Heap) (locs : List Loc), va_P D vwCl [(ax, .inr (5, [.ref ax_letters, .ref ax_numbers, .int x_length])), (ax_letters, .inl (cyC, 200, .inl x_letters))] H → va_S A s.heap H locs → W p l e rX5_numberBetween s m (([.ref ax, .int i1, .int i2] : List Value).toArray) below meth c H locs 0 0 (MQ below (CQi r D [(ax, .inr (5, [.ref ax_letters, .ref ax_numbers, .int x_length])), (ax_letters, .inl (cyC, 200, .inl x_letters))] A) (([.ref ax, .int i1, .int i2] : List Value).toArray) s 0 0 A) (F0 m 0 ls []) from hgo _ _ hP hS
  clear hP hS
  intro H locs hP hS
  refine lv_iconst (v := 0) hx hb dX5_numberBetween_0 (by decide) ?_
  refine lv_istore_n (lv' := [(3, .int (0 : Int32)), (0, .ref ax), (1, .int i1), (2, .int i2)]) hx hb dX5_numberBetween_1 rfl hl (by decide) rfl (fun ls hl => ?_)
  refine lv_iload_n hx hb dX5_numberBetween_2 rfl (lv_at hl 2 rfl) ?_
  refine lv_istore (lv' := [(4, .int i1), (3, .int (0 : Int32)), (0, .ref ax), (1, .int i1), (2, .int i2)]) hx hb dX5_numberBetween_3 hl (by decide) rfl (fun ls hl => ?_)
  have hL5 : ∀ (n5 : Nat) (i3 : Int32) (i4 : Int32) (H : Heap) (locs : List Loc) (ls : Array Slot), va_P D vwCl [(ax, .inr (5, [.ref ax_letters, .ref ax_numbers, .int x_length])), (ax_letters, .inl (cyC, 200, .inl x_letters))] H → va_D A [(ax, .inr (5, [.ref ax_letters, .ref ax_numbers, .int x_length])), (ax_letters, .inl (cyC, 200, .inl x_letters))] → va_S A s.heap H locs → lv_has ls 5 [(0, .ref ax), (2, .int i2), (3, .int i3), (4, .int i4)] → S_X5_numberBetween_L5 i2 x_length x_letters n5 i3 i4 = some r → W p l e rX5_numberBetween s m (([.ref ax, .int i1, .int i2] : List Value).toArray) below meth c H locs 0 0 (MQ below (CQi r D [(ax, .inr (5, [.ref ax_letters, .ref ax_numbers, .int x_length])), (ax_letters, .inl (cyC, 200, .inl x_letters))] A) (([.ref ax, .int i1, .int i2] : List Value).toArray) s 0 0 A) (F0 m 5 ls []) := by
    intro n5
    induction n5 with
    | zero => intro i3 i4 H locs ls hP hD hS hl hf; exact absurd hf (by simp [S_X5_numberBetween_L5])
    | succ n5 ih5 =>
      intro i3 i4 H locs ls hP hD hS hl hf
      rw [S_X5_numberBetween_L5] at hf
      refine lv_iload hx hb dX5_numberBetween_5 (lv_at hl 3 rfl) ?_
      refine lv_iload_n hx hb dX5_numberBetween_7 rfl (lv_at hl 1 rfl) ?_
      refine lv_icmp_ge (tgt := 32) hx hb dX5_numberBetween_8 (by decide) (fun c8 => ?_) (fun c8 => ?_)
      · replace hf := ip c8 hf
        refine lv_iload_n hx hb dX5_numberBetween_32 rfl (lv_at hl 2 rfl) ?_
        obtain rfl := Option.some.inj hf
        exact W.iret hx hb hr (fun t ht hW => ⟨⟨_, (), rfl, rfl, by rw [ht]; exact hP, hD⟩, hS.F ht⟩) hS.2.2 dX5_numberBetween_33
      · replace hf := iq c8 hf
        refine lv_iload_n hx hb dX5_numberBetween_11 rfl (lv_at hl 2 rfl) ?_
        refine lv_bipush (v := 10) hx hb dX5_numberBetween_12 (by decide) ?_
        refine lv_imul hx hb dX5_numberBetween_14 ?_
        refine lv_aload_n hx hb dX5_numberBetween_15 rfl (lv_at hl 0 rfl) ?_
        refine lv_iload hx hb dX5_numberBetween_16 (lv_at hl 3 rfl) ?_
        obtain ⟨r18, q18, hf⟩ := ob hf
        refine k_i (wc := [(ax, .inr (5, [.ref ax_letters, .ref ax_numbers, .int x_length])), (ax_letters, .inl (cyC, 200, .inl x_letters))]) (wr := []) (w1 := [(ax, .inr (5, [.ref ax_letters, .ref ax_numbers, .int x_length])), (ax_letters, .inl (cyC, 200, .inl x_letters))]) (wn := [(ax, .inr (5, [.ref ax_letters, .ref ax_numbers, .int x_length])), (ax_letters, .inl (cyC, 200, .inl x_letters))]) (va_runV (As := [.int i4]) (rest := [.int (i3 * (10 : Int32))]) ⟨hx, hb, hml, hown, hts⟩ (c_X5_letterAt l D cyI cyC cyS H.size ax ax_letters ax_numbers x_length x_letters i4 q18) (cwV 1 hts gX5_numberBetween_X5_letterAt rfl rfl rfl (by decide +kernel) ⟨Nat.le_of_ble_eq_true rfl, Nat.le_of_ble_eq_true rfl⟩) (preV (ci := 5) hK (hP.subm (ws' := [(ax, .inr (5, [.ref ax_letters, .ref ax_numbers, .int x_length])), (ax_letters, .inl (cyC, 200, .inl x_letters))]) [0, 1] rfl) (hD.sub (ws' := [(ax, .inr (5, [.ref ax_letters, .ref ax_numbers, .int x_length])), (ax_letters, .inl (cyC, 200, .inl x_letters))]) [0, 1] (by decide) rfl) rfl rfl) rfl rfl hl.1 rfl (lv_room (Nat.le_of_ble_eq_true rfl)) dX5_numberBetween_18 ⟨Nat.le_of_ble_eq_true rfl, Nat.le_of_ble_eq_true rfl⟩) hP hD hS hA [0, 1] [] [0, 1] rfl rfl rfl (by decide) (by decide) (by decide) (fun H locs hP hD hS => ?_)
        refine lv_bipush (v := 48) hx hb dX5_numberBetween_21 (by decide) ?_
        refine lv_isub hx hb dX5_numberBetween_23 ?_
        refine lv_iadd hx hb dX5_numberBetween_24 ?_
        refine lv_topi (fun v25 ev25 => ?_)
        replace hf := nm_h hf v25 ev25
        refine lv_istore_n (lv' := [(3, .int v25), (0, .ref ax), (2, .int i2), (4, .int i4)]) hx hb dX5_numberBetween_25 rfl hl (by decide) rfl (fun ls hl => ?_)
        refine lv_iinc (v := i4 + (1 : Int32)) (lv' := [(4, .int (i4 + (1 : Int32))), (3, .int v25), (0, .ref ax), (2, .int i2)]) hx hb dX5_numberBetween_26 hl (k := 3) rfl rfl (by decide) rfl (fun ls hl => ?_)
        refine lv_goto (tgt := 5) hx hb dX5_numberBetween_29 (by decide) ?_
        exact ih5 v25 (i4 + (1 : Int32)) _ _ _ hP hD hS (lv_sub hl [2, 3, 1, 0] rfl) hf
  exact hL5 300 (0 : Int32) i1 _ _ _ hP hD hS (lv_sub hl [2, 4, 1, 0] rfl) hf
abbrev rX5_endOfItem : Room := { frames := 2, cells := 0, slots := 0, locals := 45 }
set_option maxHeartbeats 4000000 in
set_option maxRecDepth 100000 in
theorem c_X5_endOfItem (l : Launch) (D : va_G) (cyI cyC cyS : ClassId) (sz : Nat) (ax : Nat) (ax_letters : Nat) (ax_numbers : Nat) (x_length : Int32) (x_letters : Nat → Int32) (x_numbers : Nat → Int32) (i1 : Int32) {r : Int32} {o_x_numbers : Nat → Int32} (hf : S_X5_endOfItem i1 x_length x_letters x_numbers = some (r, o_x_numbers)) : Met l yX5_endOfItem wsX5_endOfItem rX5_endOfItem (Cpre [.ref ax, .int i1] D cyI cyC cyS sz [(ax, .inr (5, [.ref ax_letters, .ref ax_numbers, .int x_length])), (ax_letters, .inl (cyC, 200, .inl x_letters)), (ax_numbers, .inl (cyI, 3, .inl x_numbers))]) (CQi r D [(ax, .inr (5, [.ref ax_letters, .ref ax_numbers, .int x_length])), (ax_letters, .inl (cyC, 200, .inl x_letters)), (ax_numbers, .inl (cyI, 3, .inl o_x_numbers))] (va_A [(ax, .inr (5, [.ref ax_letters, .ref ax_numbers, .int x_length])), (ax_letters, .inl (cyC, 200, .inl x_letters)), (ax_numbers, .inl (cyI, 3, .inl x_numbers))] sz)) 0 0 (va_A [(ax, .inr (5, [.ref ax_letters, .ref ax_numbers, .int x_length])), (ax_letters, .inl (cyC, 200, .inl x_letters)), (ax_numbers, .inl (cyI, 3, .inl x_numbers))] sz) := by
  refine Met.ofW (cc := cX5_endOfItem) (maxL := 7) (ret := (some .int)) (by decide) rfl ?_
  intro p e s m args below meth c s₁ B hml hv
  obtain ⟨rfl, hsz, hP, hK, hD0⟩ := hv
  have hx := B.exec
  have hb := B.bytes
  have hr := B.returns
  have hts := atoms_spec (ws := wsX5_endOfItem) B.pre
  have hown : s.vm.findClass RX5 = some m.cls := findClass_of_methodNamed B.named
  have hlocks := B.notSynchronized
  subst hsz
  have hD := hD0.self (sz := s.heap.size)
  generalize hAe : va_A [(ax, .inr (5, [.ref ax_letters, .ref ax_numbers, .int x_length])), (ax_letters, .inl (cyC, 200, .inl x_letters)), (ax_numbers, .inl (cyI, 3, .inl x_numbers))] s.heap.size = A at hD ⊢
  have hA : ∀ q : Nat, s.heap.size ≤ q → A q := fun q h => by rw [← hAe]; exact Or.inr h
  have hS : va_S A s.heap s.heap [] := va_S.rf
  have hl := lv_entry ([.ref ax, .int i1]) (n := 7) (Nat.le_of_ble_eq_true rfl)
  rw [lg_entry_eq]
  generalize (lg_sl ([.ref ax, .int i1]) ++ List.replicate (7 - (lg_sl ([.ref ax, .int i1])).length) Slot.unset).toArray = ls at hl ⊢
  have hl : lv_has ls 7 [(0, .ref ax), (1, .int i1)] := hl
  have f15 := hts (.fieldLink RX5 15 "SecondTill$Text" "numbers" "[I") (by decide +kernel)
  have inX5 : ∀ w ∈ u_ws RX5 TX5 3, w ∈ wsX5_endOfItem := by decide +kernel
  unfold S_X5_endOfItem at hf
  have hP : va_P D vwCl [(ax, .inr (5, [.ref ax_letters, .ref ax_numbers, .int x_length])), (ax_letters, .inl (cyC, 200, .inl x_letters)), (ax_numbers, .inl (cyI, 3, .inl x_numbers))] s.heap := hP
  suffices hgo : ∀ (H : Heap) (locs : List Loc), va_P D vwCl [(ax, .inr (5, [.ref ax_letters, .ref ax_numbers, .int x_length])), (ax_letters, .inl (cyC, 200, .inl x_letters)), (ax_numbers, .inl (cyI, 3, .inl x_numbers))] H → va_S A s.heap H locs → W p l e rX5_endOfItem s m (([.ref ax, .int i1] : List Value).toArray) below meth c H locs 0 0 (MQ below (CQi r D [(ax, .inr (5, [.ref ax_letters, .ref ax_numbers, .int x_length])), (ax_letters, .inl (cyC, 200, .inl x_letters)), (ax_numbers, .inl (cyI, 3, .inl o_x_numbers))] A) (([.ref ax, .int i1] : List Value).toArray) s 0 0 A) (F0 m 0 ls []) from hgo _ _ hP hS
  clear hP hS
  intro H locs hP hS
  refine lv_aload_n hx hb dX5_endOfItem_0 rfl (lv_at hl 0 rfl) ?_
  refine lv_iload_n hx hb dX5_endOfItem_1 rfl (lv_at hl 1 rfl) ?_
  obtain ⟨r2, q2, hf⟩ := ob hf
  refine k_i (wc := [(ax, .inr (5, [.ref ax_letters, .ref ax_numbers, .int x_length])), (ax_letters, .inl (cyC, 200, .inl x_letters))]) (wr := [(ax_numbers, .inl (cyI, 3, .inl x_numbers))]) (w1 := [(ax, .inr (5, [.ref ax_letters, .ref ax_numbers, .int x_length])), (ax_letters, .inl (cyC, 200, .inl x_letters))]) (wn := [(ax, .inr (5, [.ref ax_letters, .ref ax_numbers, .int x_length])), (ax_letters, .inl (cyC, 200, .inl x_letters)), (ax_numbers, .inl (cyI, 3, .inl x_numbers))]) (va_runV (As := [.int i1]) (rest := []) ⟨hx, hb, hml, hown, hts⟩ (c_X5_letterAt l D cyI cyC cyS H.size ax ax_letters ax_numbers x_length x_letters i1 q2) (cwV 1 hts gX5_endOfItem_X5_letterAt rfl rfl rfl (by decide +kernel) ⟨Nat.le_of_ble_eq_true rfl, Nat.le_of_ble_eq_true rfl⟩) (preV (ci := 5) hK (hP.subm (ws' := [(ax, .inr (5, [.ref ax_letters, .ref ax_numbers, .int x_length])), (ax_letters, .inl (cyC, 200, .inl x_letters))]) [0, 1] rfl) (hD.sub (ws' := [(ax, .inr (5, [.ref ax_letters, .ref ax_numbers, .int x_length])), (ax_letters, .inl (cyC, 200, .inl x_letters))]) [0, 1] (by decide) rfl) rfl rfl) rfl rfl hl.1 rfl (lv_room (Nat.le_of_ble_eq_true rfl)) dX5_endOfItem_2 ⟨Nat.le_of_ble_eq_true rfl, Nat.le_of_ble_eq_true rfl⟩) hP hD hS hA [0, 1] [2] [1, 2, 0] rfl rfl rfl (by decide) (by decide) (by decide) (fun H locs hP hD hS => ?_)
  obtain ⟨r5, q5, hf⟩ := ob hf
  refine k_i (wc := []) (wr := [(ax, .inr (5, [.ref ax_letters, .ref ax_numbers, .int x_length])), (ax_letters, .inl (cyC, 200, .inl x_letters)), (ax_numbers, .inl (cyI, 3, .inl x_numbers))]) (w1 := []) (wn := [(ax, .inr (5, [.ref ax_letters, .ref ax_numbers, .int x_length])), (ax_letters, .inl (cyC, 200, .inl x_letters)), (ax_numbers, .inl (cyI, 3, .inl x_numbers))]) (va_runS (As := [.int r2]) (rest := []) ⟨hx, hb, hml, hown, hts⟩ (c_X5_numbersBehind l D cyI cyC cyS H.size r2 q5) (va_cwS 1 hts gX5_endOfItem_X5_numbersBehind rfl rfl rfl (by decide +kernel) ⟨Nat.le_of_ble_eq_true rfl, Nat.le_of_ble_eq_true rfl⟩) (preS hK (hP.subm (ws' := []) [] rfl) (hD.sub (ws' := []) [] (by decide) rfl)) rfl rfl hl.1 rfl (lv_room (Nat.le_of_ble_eq_true rfl)) dX5_endOfItem_5 ⟨Nat.le_of_ble_eq_true rfl, Nat.le_of_ble_eq_true rfl⟩) hP hD hS hA [] [0, 1, 2] [0, 1, 2] rfl rfl rfl (by decide) (by decide) (by decide) (fun H locs hP hD hS => ?_)
  refine lv_istore_n (lv' := [(2, .int r5), (0, .ref ax), (1, .int i1)]) hx hb dX5_endOfItem_8 rfl hl (by decide) rfl (fun ls hl => ?_)
  refine lv_iload_n hx hb dX5_endOfItem_9 rfl (lv_at hl 0 rfl) ?_
  refine lv_if_ne (tgt := 15) hx hb dX5_endOfItem_10 (by decide) (fun c10 => ?_) (fun c10 => ?_)
  · replace hf := iq c10 hf
    refine lv_iload_n hx hb dX5_endOfItem_15 rfl (lv_at hl 2 rfl) ?_
    refine lv_iconst (v := 1) hx hb dX5_endOfItem_16 (by decide) ?_
    refine lv_iadd hx hb dX5_endOfItem_17 ?_
    refine lv_istore_n (lv' := [(3, .int (i1 + (1 : Int32))), (2, .int r5), (0, .ref ax), (1, .int i1)]) hx hb dX5_endOfItem_18 rfl hl (by decide) rfl (fun ls hl => ?_)
    refine lv_iconst (v := 0) hx hb dX5_endOfItem_19 (by decide) ?_
    refine lv_istore (lv' := [(4, .int (0 : Int32)), (3, .int (i1 + (1 : Int32))), (2, .int r5), (0, .ref ax), (1, .int i1)]) hx hb dX5_endOfItem_20 hl (by decide) rfl (fun ls hl => ?_)
    have hL22 : ∀ (n22 : Nat) (i2 : Int32) (i3 : Int32) (i4 : Int32) (x_numbers : Nat → Int32) (H : Heap) (locs : List Loc) (ls : Array Slot), va_P D vwCl [(ax, .inr (5, [.ref ax_letters, .ref ax_numbers, .int x_length])), (ax_letters, .inl (cyC, 200, .inl x_letters)), (ax_numbers, .inl (cyI, 3, .inl x_numbers))] H → va_D A [(ax, .inr (5, [.ref ax_letters, .ref ax_numbers, .int x_length])), (ax_letters, .inl (cyC, 200, .inl x_letters)), (ax_numbers, .inl (cyI, 3, .inl x_numbers))] → va_S A s.heap H locs → lv_has ls 7 [(0, .ref ax), (1, .int i1), (2, .int i2), (3, .int i3), (4, .int i4)] → S_X5_endOfItem_L22 i1 i2 x_length x_letters n22 i3 i4 x_numbers = some (r, o_x_numbers) → W p l e rX5_endOfItem s m (([.ref ax, .int i1] : List Value).toArray) below meth c H locs 0 0 (MQ below (CQi r D [(ax, .inr (5, [.ref ax_letters, .ref ax_numbers, .int x_length])), (ax_letters, .inl (cyC, 200, .inl x_letters)), (ax_numbers, .inl (cyI, 3, .inl o_x_numbers))] A) (([.ref ax, .int i1] : List Value).toArray) s 0 0 A) (F0 m 22 ls []) := by
      intro n22
      induction n22 with
      | zero => intro i2 i3 i4 x_numbers H locs ls hP hD hS hl hf; exact absurd hf (by simp [S_X5_endOfItem_L22])
      | succ n22 ih22 =>
        intro i2 i3 i4 x_numbers H locs ls hP hD hS hl hf
        rw [S_X5_endOfItem_L22] at hf
        refine lv_iload hx hb dX5_endOfItem_22 (lv_at hl 4 rfl) ?_
        refine lv_iload_n hx hb dX5_endOfItem_24 rfl (lv_at hl 2 rfl) ?_
        refine lv_icmp_ge (tgt := 96) hx hb dX5_endOfItem_25 (by decide) (fun c25 => ?_) (fun c25 => ?_)
        · replace hf := ip c25 hf
          refine lv_iload_n hx hb dX5_endOfItem_96 rfl (lv_at hl 3 rfl) ?_
          simp only [Option.some.injEq, Prod.mk.injEq] at hf
          obtain ⟨rfl, rfl⟩ := hf
          exact W.iret hx hb hr (fun t ht hW => ⟨⟨_, (), rfl, rfl, by rw [ht]; exact hP, hD⟩, hS.F ht⟩) hS.2.2 dX5_endOfItem_97
        · replace hf := iq c25 hf
          refine lv_aload_n hx hb dX5_endOfItem_28 rfl (lv_at hl 0 rfl) ?_
          refine lv_iload_n hx hb dX5_endOfItem_29 rfl (lv_at hl 3 rfl) ?_
          obtain ⟨r30, q30, hf⟩ := ob hf
          refine k_i (wc := [(ax, .inr (5, [.ref ax_letters, .ref ax_numbers, .int x_length])), (ax_letters, .inl (cyC, 200, .inl x_letters))]) (wr := [(ax_numbers, .inl (cyI, 3, .inl x_numbers))]) (w1 := [(ax, .inr (5, [.ref ax_letters, .ref ax_numbers, .int x_length])), (ax_letters, .inl (cyC, 200, .inl x_letters))]) (wn := [(ax, .inr (5, [.ref ax_letters, .ref ax_numbers, .int x_length])), (ax_letters, .inl (cyC, 200, .inl x_letters)), (ax_numbers, .inl (cyI, 3, .inl x_numbers))]) (va_runV (As := [.int i3]) (rest := []) ⟨hx, hb, hml, hown, hts⟩ (c_X5_endOfNumber l D cyI cyC cyS H.size ax ax_letters ax_numbers x_length x_letters i3 q30) (cwV 1 hts gX5_endOfItem_X5_endOfNumber rfl rfl rfl (by decide +kernel) ⟨Nat.le_of_ble_eq_true rfl, Nat.le_of_ble_eq_true rfl⟩) (preV (ci := 5) hK (hP.subm (ws' := [(ax, .inr (5, [.ref ax_letters, .ref ax_numbers, .int x_length])), (ax_letters, .inl (cyC, 200, .inl x_letters))]) [0, 1] rfl) (hD.sub (ws' := [(ax, .inr (5, [.ref ax_letters, .ref ax_numbers, .int x_length])), (ax_letters, .inl (cyC, 200, .inl x_letters))]) [0, 1] (by decide) rfl) rfl rfl) rfl rfl hl.1 rfl (lv_room (Nat.le_of_ble_eq_true rfl)) dX5_endOfItem_30 ⟨Nat.le_of_ble_eq_true rfl, Nat.le_of_ble_eq_true rfl⟩) hP hD hS hA [0, 1] [2] [1, 2, 0] rfl rfl rfl (by decide) (by decide) (by decide) (fun H locs hP hD hS => ?_)
          refine lv_istore (lv' := [(5, .int r30), (0, .ref ax), (1, .int i1), (2, .int i2), (3, .int i3), (4, .int i4)]) hx hb dX5_endOfItem_33 hl (by decide) rfl (fun ls hl => ?_)
          refine lv_iload hx hb dX5_endOfItem_35 (lv_at hl 5 rfl) ?_
          refine lv_iconst (v := 1) hx hb dX5_endOfItem_37 (by decide) ?_
          refine lv_iadd hx hb dX5_endOfItem_38 ?_
          refine lv_iload_n hx hb dX5_endOfItem_39 rfl (lv_at hl 3 rfl) ?_
          have hJ50 : ∀ (s0_50 : Int32) (H : Heap) (locs : List Loc) (ls : Array Slot), va_P D vwCl [(ax, .inr (5, [.ref ax_letters, .ref ax_numbers, .int x_length])), (ax_letters, .inl (cyC, 200, .inl x_letters)), (ax_numbers, .inl (cyI, 3, .inl x_numbers))] H → va_D A [(ax, .inr (5, [.ref ax_letters, .ref ax_numbers, .int x_length])), (ax_letters, .inl (cyC, 200, .inl x_letters)), (ax_numbers, .inl (cyI, 3, .inl x_numbers))] → va_S A s.heap H locs → lv_has ls 7 [(0, .ref ax), (1, .int i1), (2, .int i2), (3, .int i3), (4, .int i4), (5, .int r30)] → (if r30 = i3 then
some (i1, x_numbers) else
(Option.bind (S_X5_letterAt r30 x_length x_letters) (fun r61 =>
(if r61 = s0_50 then
(Option.bind (S_X5_numberBetween i3 r30 x_length x_letters) (fun r81 =>
(if i4 < 0 ∨ 3 ≤ i4.toNatClampNeg then none else
((S_X5_endOfItem_L22 i1 i2 x_length x_letters n22) (r30 + (1 : Int32)) (i4 + (1 : Int32)) (upd x_numbers i4.toNatClampNeg r81))))) else
some (i1, x_numbers))))) = some (r, o_x_numbers) → W p l e rX5_endOfItem s m (([.ref ax, .int i1] : List Value).toArray) below meth c H locs 0 0 (MQ below (CQi r D [(ax, .inr (5, [.ref ax_letters, .ref ax_numbers, .int x_length])), (ax_letters, .inl (cyC, 200, .inl x_letters)), (ax_numbers, .inl (cyI, 3, .inl o_x_numbers))] A) (([.ref ax, .int i1] : List Value).toArray) s 0 0 A) (F0 m 50 ls [.int s0_50]) := by
            intro s0_50 H locs ls hP hD hS hl hf
            refine lv_istore (lv' := [(6, .int s0_50), (0, .ref ax), (1, .int i1), (2, .int i2), (3, .int i3), (4, .int i4), (5, .int r30)]) hx hb dX5_endOfItem_50 hl (by decide) rfl (fun ls hl => ?_)
            refine lv_iload hx hb dX5_endOfItem_52 (lv_at hl 6 rfl) ?_
            refine lv_iload_n hx hb dX5_endOfItem_54 rfl (lv_at hl 4 rfl) ?_
            refine lv_icmp_eq (tgt := 69) hx hb dX5_endOfItem_55 (by decide) (fun c55 => ?_) (fun c55 => ?_)
            · replace hf := ip c55 hf
              refine lv_iload_n hx hb dX5_endOfItem_69 rfl (lv_at hl 2 rfl) ?_
              simp only [Option.some.injEq, Prod.mk.injEq] at hf
              obtain ⟨rfl, rfl⟩ := hf
              exact W.iret hx hb hr (fun t ht hW => ⟨⟨_, (), rfl, rfl, by rw [ht]; exact hP, hD⟩, hS.F ht⟩) hS.2.2 dX5_endOfItem_70
            · replace hf := iq c55 hf
              refine lv_aload_n hx hb dX5_endOfItem_58 rfl (lv_at hl 1 rfl) ?_
              refine lv_iload hx hb dX5_endOfItem_59 (lv_at hl 6 rfl) ?_
              obtain ⟨r61, q61, hf⟩ := ob hf
              refine k_i (wc := [(ax, .inr (5, [.ref ax_letters, .ref ax_numbers, .int x_length])), (ax_letters, .inl (cyC, 200, .inl x_letters))]) (wr := [(ax_numbers, .inl (cyI, 3, .inl x_numbers))]) (w1 := [(ax, .inr (5, [.ref ax_letters, .ref ax_numbers, .int x_length])), (ax_letters, .inl (cyC, 200, .inl x_letters))]) (wn := [(ax, .inr (5, [.ref ax_letters, .ref ax_numbers, .int x_length])), (ax_letters, .inl (cyC, 200, .inl x_letters)), (ax_numbers, .inl (cyI, 3, .inl x_numbers))]) (va_runV (As := [.int r30]) (rest := []) ⟨hx, hb, hml, hown, hts⟩ (c_X5_letterAt l D cyI cyC cyS H.size ax ax_letters ax_numbers x_length x_letters r30 q61) (cwV 1 hts gX5_endOfItem_X5_letterAt rfl rfl rfl (by decide +kernel) ⟨Nat.le_of_ble_eq_true rfl, Nat.le_of_ble_eq_true rfl⟩) (preV (ci := 5) hK (hP.subm (ws' := [(ax, .inr (5, [.ref ax_letters, .ref ax_numbers, .int x_length])), (ax_letters, .inl (cyC, 200, .inl x_letters))]) [0, 1] rfl) (hD.sub (ws' := [(ax, .inr (5, [.ref ax_letters, .ref ax_numbers, .int x_length])), (ax_letters, .inl (cyC, 200, .inl x_letters))]) [0, 1] (by decide) rfl) rfl rfl) rfl rfl hl.1 rfl (lv_room (Nat.le_of_ble_eq_true rfl)) dX5_endOfItem_61 ⟨Nat.le_of_ble_eq_true rfl, Nat.le_of_ble_eq_true rfl⟩) hP hD hS hA [0, 1] [2] [1, 2, 0] rfl rfl rfl (by decide) (by decide) (by decide) (fun H locs hP hD hS => ?_)
              refine lv_iload hx hb dX5_endOfItem_64 (lv_at hl 0 rfl) ?_
              refine lv_icmp_eq (tgt := 71) hx hb dX5_endOfItem_66 (by decide) (fun c66 => ?_) (fun c66 => ?_)
              · replace hf := ip c66 hf
                refine lv_aload_n hx hb dX5_endOfItem_71 rfl (lv_at hl 1 rfl) ?_
                refine va_get (C := RX5) (T := TX5) (N := 3) hx hb hts inX5 hown hK.1 hP 0 rfl rfl 1 (by decide) f15 (fun _ h9 => h9) rfl dX5_endOfItem_72 ?_
                refine lv_iload hx hb dX5_endOfItem_75 (lv_at hl 5 rfl) ?_
                refine lv_aload_n hx hb dX5_endOfItem_77 rfl (lv_at hl 1 rfl) ?_
                refine lv_iload_n hx hb dX5_endOfItem_78 rfl (lv_at hl 4 rfl) ?_
                refine lv_iload hx hb dX5_endOfItem_79 (lv_at hl 6 rfl) ?_
                obtain ⟨r81, q81, hf⟩ := ob hf
                refine k_i (wc := [(ax, .inr (5, [.ref ax_letters, .ref ax_numbers, .int x_length])), (ax_letters, .inl (cyC, 200, .inl x_letters))]) (wr := [(ax_numbers, .inl (cyI, 3, .inl x_numbers))]) (w1 := [(ax, .inr (5, [.ref ax_letters, .ref ax_numbers, .int x_length])), (ax_letters, .inl (cyC, 200, .inl x_letters))]) (wn := [(ax, .inr (5, [.ref ax_letters, .ref ax_numbers, .int x_length])), (ax_letters, .inl (cyC, 200, .inl x_letters)), (ax_numbers, .inl (cyI, 3, .inl x_numbers))]) (va_runV (As := [.int i3, .int r30]) (rest := [.int i4, .ref ax_numbers]) ⟨hx, hb, hml, hown, hts⟩ (c_X5_numberBetween l D cyI cyC cyS H.size ax ax_letters ax_numbers x_length x_letters i3 r30 q81) (cwV 2 hts gX5_endOfItem_X5_numberBetween rfl rfl rfl (by decide +kernel) ⟨Nat.le_of_ble_eq_true rfl, Nat.le_of_ble_eq_true rfl⟩) (preV (ci := 5) hK (hP.subm (ws' := [(ax, .inr (5, [.ref ax_letters, .ref ax_numbers, .int x_length])), (ax_letters, .inl (cyC, 200, .inl x_letters))]) [0, 1] rfl) (hD.sub (ws' := [(ax, .inr (5, [.ref ax_letters, .ref ax_numbers, .int x_length])), (ax_letters, .inl (cyC, 200, .inl x_letters))]) [0, 1] (by decide) rfl) rfl rfl) rfl rfl hl.1 rfl (lv_room (Nat.le_of_ble_eq_true rfl)) dX5_endOfItem_81 ⟨Nat.le_of_ble_eq_true rfl, Nat.le_of_ble_eq_true rfl⟩) hP hD hS hA [0, 1] [2] [1, 2, 0] rfl rfl rfl (by decide) (by decide) (by decide) (fun H locs hP hD hS => ?_)
                obtain ⟨z84, hf⟩ := oi hf
                refine a_ist (wn := [(ax, .inr (5, [.ref ax_letters, .ref ax_numbers, .int x_length])), (ax_letters, .inl (cyC, 200, .inl x_letters)), (ax_numbers, .inl (cyI, 3, .inl (upd x_numbers i4.toNatClampNeg r81)))]) hx hb hK hP hD hS 2 rfl z84 i4.toNatClampNeg rfl rfl dX5_endOfItem_84 (fun H locs hP hD hS => ?_)
                refine lv_iload hx hb dX5_endOfItem_85 (lv_at hl 6 rfl) ?_
                refine lv_iconst (v := 1) hx hb dX5_endOfItem_87 (by decide) ?_
                refine lv_iadd hx hb dX5_endOfItem_88 ?_
                refine lv_istore_n (lv' := [(3, .int (r30 + (1 : Int32))), (6, .int s0_50), (0, .ref ax), (1, .int i1), (2, .int i2), (4, .int i4), (5, .int r30)]) hx hb dX5_endOfItem_89 rfl hl (by decide) rfl (fun ls hl => ?_)
                refine lv_iinc (v := i4 + (1 : Int32)) (lv' := [(4, .int (i4 + (1 : Int32))), (3, .int (r30 + (1 : Int32))), (6, .int s0_50), (0, .ref ax), (1, .int i1), (2, .int i2), (5, .int r30)]) hx hb dX5_endOfItem_90 hl (k := 5) rfl rfl (by decide) rfl (fun ls hl => ?_)
                refine lv_goto (tgt := 22) hx hb dX5_endOfItem_93 (by decide) ?_
                exact ih22 i2 (r30 + (1 : Int32)) (i4 + (1 : Int32)) (upd x_numbers i4.toNatClampNeg r81) _ _ _ hP hD hS (lv_sub hl [3, 4, 5, 1, 0] rfl) hf
              · replace hf := iq c66 hf
                refine lv_iload_n hx hb dX5_endOfItem_69 rfl (lv_at hl 2 rfl) ?_
                simp only [Option.some.injEq, Prod.mk.injEq] at hf
                obtain ⟨rfl, rfl⟩ := hf
                exact W.iret hx hb hr (fun t ht hW => ⟨⟨_, (), rfl, rfl, by rw [ht]; exact hP, hD⟩, hS.F ht⟩) hS.2.2 dX5_endOfItem_70
          replace hf := jn_h hf
          refine lv_icmp_ge (tgt := 48) hx hb dX5_endOfItem_40 (by decide) (fun c40 => ?_) (fun c40 => ?_)
          · replace hf := ip c40 hf
            refine lv_bipush (v := 59) hx hb dX5_endOfItem_48 (by decide) ?_
            exact hJ50 (59 : Int32) _ _ _ hP hD hS (lv_sub hl [1, 2, 3, 4, 5, 0] rfl) hf
          · replace hf := iq c40 hf
            refine lv_bipush (v := 44) hx hb dX5_endOfItem_43 (by decide) ?_
            refine lv_goto (tgt := 50) hx hb dX5_endOfItem_45 (by decide) ?_
            exact hJ50 (44 : Int32) _ _ _ hP hD hS (lv_sub hl [1, 2, 3, 4, 5, 0] rfl) hf
    exact hL22 300 r5 (i1 + (1 : Int32)) (0 : Int32) x_numbers _ _ _ hP hD hS (lv_sub hl [3, 4, 2, 1, 0] rfl) hf
  · replace hf := ip c10 hf
    refine lv_iload_n hx hb dX5_endOfItem_13 rfl (lv_at hl 2 rfl) ?_
    simp only [Option.some.injEq, Prod.mk.injEq] at hf
    obtain ⟨rfl, rfl⟩ := hf
    exact W.iret hx hb hr (fun t ht hW => ⟨⟨_, (), rfl, rfl, by rw [ht]; exact hP, hD⟩, hS.F ht⟩) hS.2.2 dX5_endOfItem_14
abbrev rX5_tell : Room := { frames := 3, cells := 0, slots := 0, locals := 67 }
set_option maxHeartbeats 4000000 in
set_option maxRecDepth 100000 in
theorem c_X5_tell (l : Launch) (D : va_G) (cyI cyC cyS : ClassId) (sz : Nat) (ax : Nat) (ay : Nat) (ax_letters : Nat) (ax_numbers : Nat) (ay_kind : Nat) (ay_things : Nat) (ay_feet : Nat) (x_length : Int32) (x_numbers : Nat → Int32) (y_people : Int32) (y_firstPace : Int32) (y_secondPace : Int32) (y_steps : Int32) (y_kind : Nat → Int32) (y_things : Nat → Int32) (y_feet : Nat → Int32) (i1 : Int32) {r : Int32} {o_y_people : Int32} {o_y_firstPace : Int32} {o_y_secondPace : Int32} {o_y_steps : Int32} {o_y_kind : Nat → Int32} {o_y_things : Nat → Int32} {o_y_feet : Nat → Int32} (hf : S_X5_tell i1 x_numbers y_people y_firstPace y_secondPace y_steps y_kind y_things y_feet = some (r, o_y_people, o_y_firstPace, o_y_secondPace, o_y_steps, o_y_kind, o_y_things, o_y_feet)) : Met l yX5_tell wsX5_tell rX5_tell (Cpre [.ref ax, .int i1, .ref ay] D cyI cyC cyS sz [(ax, .inr (5, [.ref ax_letters, .ref ax_numbers, .int x_length])), (ax_numbers, .inl (cyI, 3, .inl x_numbers)), (ay, .inr (3, [.ref ay_kind, .ref ay_things, .ref ay_feet, .int y_people, .int y_firstPace, .int y_secondPace, .int y_steps])), (ay_kind, .inl (cyI, 8, .inl y_kind)), (ay_things, .inl (cyI, 8, .inl y_things)), (ay_feet, .inl (cyI, 8, .inl y_feet))]) (CQi r D [(ax, .inr (5, [.ref ax_letters, .ref ax_numbers, .int x_length])), (ax_numbers, .inl (cyI, 3, .inl x_numbers)), (ay, .inr (3, [.ref ay_kind, .ref ay_things, .ref ay_feet, .int o_y_people, .int o_y_firstPace, .int o_y_secondPace, .int o_y_steps])), (ay_kind, .inl (cyI, 8, .inl o_y_kind)), (ay_things, .inl (cyI, 8, .inl o_y_things)), (ay_feet, .inl (cyI, 8, .inl o_y_feet))] (va_A [(ax, .inr (5, [.ref ax_letters, .ref ax_numbers, .int x_length])), (ax_numbers, .inl (cyI, 3, .inl x_numbers)), (ay, .inr (3, [.ref ay_kind, .ref ay_things, .ref ay_feet, .int y_people, .int y_firstPace, .int y_secondPace, .int y_steps])), (ay_kind, .inl (cyI, 8, .inl y_kind)), (ay_things, .inl (cyI, 8, .inl y_things)), (ay_feet, .inl (cyI, 8, .inl y_feet))] sz)) 0 0 (va_A [(ax, .inr (5, [.ref ax_letters, .ref ax_numbers, .int x_length])), (ax_numbers, .inl (cyI, 3, .inl x_numbers)), (ay, .inr (3, [.ref ay_kind, .ref ay_things, .ref ay_feet, .int y_people, .int y_firstPace, .int y_secondPace, .int y_steps])), (ay_kind, .inl (cyI, 8, .inl y_kind)), (ay_things, .inl (cyI, 8, .inl y_things)), (ay_feet, .inl (cyI, 8, .inl y_feet))] sz) := by
  refine Met.ofW (cc := cX5_tell) (maxL := 3) (ret := (some .boolean)) (by decide) rfl ?_
  intro p e s m args below meth c s₁ B hml hv
  obtain ⟨rfl, hsz, hP, hK, hD0⟩ := hv
  have hx := B.exec
  have hb := B.bytes
  have hr := B.returns
  have hts := atoms_spec (ws := wsX5_tell) B.pre
  have hown : s.vm.findClass RX5 = some m.cls := findClass_of_methodNamed B.named
  have hlocks := B.notSynchronized
  subst hsz
  have hD := hD0.self (sz := s.heap.size)
  generalize hAe : va_A [(ax, .inr (5, [.ref ax_letters, .ref ax_numbers, .int x_length])), (ax_numbers, .inl (cyI, 3, .inl x_numbers)), (ay, .inr (3, [.ref ay_kind, .ref ay_things, .ref ay_feet, .int y_people, .int y_firstPace, .int y_secondPace, .int y_steps])), (ay_kind, .inl (cyI, 8, .inl y_kind)), (ay_things, .inl (cyI, 8, .inl y_things)), (ay_feet, .inl (cyI, 8, .inl y_feet))] s.heap.size = A at hD ⊢
  have hA : ∀ q : Nat, s.heap.size ≤ q → A q := fun q h => by rw [← hAe]; exact Or.inr h
  have hS : va_S A s.heap s.heap [] := va_S.rf
  have hl := lv_entry ([.ref ax, .int i1, .ref ay]) (n := 3) (Nat.le_of_ble_eq_true rfl)
  rw [lg_entry_eq]
  generalize (lg_sl ([.ref ax, .int i1, .ref ay]) ++ List.replicate (3 - (lg_sl ([.ref ax, .int i1, .ref ay])).length) Slot.unset).toArray = ls at hl ⊢
  have hl : lv_has ls 3 [(0, .ref ax), (1, .int i1), (2, .ref ay)] := hl
  have f15 := hts (.fieldLink RX5 15 "SecondTill$Text" "numbers" "[I") (by decide +kernel)
  have inX5 : ∀ w ∈ u_ws RX5 TX5 3, w ∈ wsX5_tell := by decide +kernel
  unfold S_X5_tell at hf
  have hP : va_P D vwCl [(ax, .inr (5, [.ref ax_letters, .ref ax_numbers, .int x_length])), (ax_numbers, .inl (cyI, 3, .inl x_numbers)), (ay, .inr (3, [.ref ay_kind, .ref ay_things, .ref ay_feet, .int y_people, .int y_firstPace, .int y_secondPace, .int y_steps])), (ay_kind, .inl (cyI, 8, .inl y_kind)), (ay_things, .inl (cyI, 8, .inl y_things)), (ay_feet, .inl (cyI, 8, .inl y_feet))] s.heap := hP
  suffices hgo : ∀ (H : Heap) (locs : List Loc), va_P D vwCl [(ax, .inr (5, [.ref ax_letters, .ref ax_numbers, .int x_length])), (ax_numbers, .inl (cyI, 3, .inl x_numbers)), (ay, .inr (3, [.ref ay_kind, .ref ay_things, .ref ay_feet, .int y_people, .int y_firstPace, .int y_secondPace, .int y_steps])), (ay_kind, .inl (cyI, 8, .inl y_kind)), (ay_things, .inl (cyI, 8, .inl y_things)), (ay_feet, .inl (cyI, 8, .inl y_feet))] H → va_S A s.heap H locs → W p l e rX5_tell s m (([.ref ax, .int i1, .ref ay] : List Value).toArray) below meth c H locs 0 0 (MQ below (CQi r D [(ax, .inr (5, [.ref ax_letters, .ref ax_numbers, .int x_length])), (ax_numbers, .inl (cyI, 3, .inl x_numbers)), (ay, .inr (3, [.ref ay_kind, .ref ay_things, .ref ay_feet, .int o_y_people, .int o_y_firstPace, .int o_y_secondPace, .int o_y_steps])), (ay_kind, .inl (cyI, 8, .inl o_y_kind)), (ay_things, .inl (cyI, 8, .inl o_y_things)), (ay_feet, .inl (cyI, 8, .inl o_y_feet))] A) (([.ref ax, .int i1, .ref ay] : List Value).toArray) s 0 0 A) (F0 m 0 ls []) from hgo _ _ hP hS
  clear hP hS
  intro H locs hP hS
  refine lv_iload_n hx hb dX5_tell_0 rfl (lv_at hl 1 rfl) ?_
  refine lv_bipush (v := 112) hx hb dX5_tell_1 (by decide) ?_
  refine lv_icmp_ne (tgt := 29) hx hb dX5_tell_3 (by decide) (fun c3 => ?_) (fun c3 => ?_)
  · replace hf := iq c3 hf
    refine lv_iload_n hx hb dX5_tell_29 rfl (lv_at hl 1 rfl) ?_
    refine lv_bipush (v := 115) hx hb dX5_tell_30 (by decide) ?_
    refine lv_icmp_ne (tgt := 52) hx hb dX5_tell_32 (by decide) (fun c32 => ?_) (fun c32 => ?_)
    · replace hf := iq c32 hf
      refine lv_iload_n hx hb dX5_tell_52 rfl (lv_at hl 1 rfl) ?_
      refine lv_bipush (v := 100) hx hb dX5_tell_53 (by decide) ?_
      refine lv_icmp_ne (tgt := 75) hx hb dX5_tell_55 (by decide) (fun c55 => ?_) (fun c55 => ?_)
      · replace hf := iq c55 hf
        refine lv_iconst (v := 0) hx hb dX5_tell_75 (by decide) ?_
        simp only [Option.some.injEq, Prod.mk.injEq] at hf
        obtain ⟨rfl, rfl, rfl, rfl, rfl, rfl, rfl, rfl⟩ := hf
        exact W.zret hx hb hr rfl (fun t ht hW => ⟨⟨_, (), rfl, rfl, by rw [ht]; exact hP, hD⟩, hS.F ht⟩) hS.2.2 dX5_tell_76
      · replace hf := ip c55 hf
        refine lv_aload_n hx hb dX5_tell_58 rfl (lv_at hl 2 rfl) ?_
        refine lv_aload_n hx hb dX5_tell_59 rfl (lv_at hl 0 rfl) ?_
        refine va_get (C := RX5) (T := TX5) (N := 3) hx hb hts inX5 hown hK.1 hP 0 rfl rfl 1 (by decide) f15 (fun _ h9 => h9) rfl dX5_tell_60 ?_
        refine lv_iconst (v := 0) hx hb dX5_tell_63 (by decide) ?_
        refine a_ild hx hb hK hP 1 rfl (vin (by decide)) 0 (by decide) dX5_tell_64 ?_
        obtain ⟨⟨r65, y_steps_o65⟩, q65, hf⟩ := ob hf
        replace hf : _ = _ := hf
        refine k_i (wc := [(ay, .inr (3, [.ref ay_kind, .ref ay_things, .ref ay_feet, .int y_people, .int y_firstPace, .int y_secondPace, .int y_steps]))]) (wr := [(ax, .inr (5, [.ref ax_letters, .ref ax_numbers, .int x_length])), (ax_numbers, .inl (cyI, 3, .inl x_numbers)), (ay_kind, .inl (cyI, 8, .inl y_kind)), (ay_things, .inl (cyI, 8, .inl y_things)), (ay_feet, .inl (cyI, 8, .inl y_feet))]) (w1 := [(ay, .inr (3, [.ref ay_kind, .ref ay_things, .ref ay_feet, .int y_people, .int y_firstPace, .int y_secondPace, .int y_steps_o65]))]) (wn := [(ax, .inr (5, [.ref ax_letters, .ref ax_numbers, .int x_length])), (ax_numbers, .inl (cyI, 3, .inl x_numbers)), (ay, .inr (3, [.ref ay_kind, .ref ay_things, .ref ay_feet, .int y_people, .int y_firstPace, .int y_secondPace, .int y_steps_o65])), (ay_kind, .inl (cyI, 8, .inl y_kind)), (ay_things, .inl (cyI, 8, .inl y_things)), (ay_feet, .inl (cyI, 8, .inl y_feet))]) (va_runV (As := [.int (x_numbers 0)]) (rest := []) ⟨hx, hb, hml, hown, hts⟩ (c_X3_setSteps l D cyI cyC cyS H.size ay ay_kind ay_things ay_feet y_people y_firstPace y_secondPace y_steps (x_numbers 0) q65) (cwV 1 hts gX5_tell_X3_setSteps rfl rfl rfl (by decide +kernel) ⟨Nat.le_of_ble_eq_true rfl, Nat.le_of_ble_eq_true rfl⟩) (preV (ci := 3) hK (hP.subm (ws' := [(ay, .inr (3, [.ref ay_kind, .ref ay_things, .ref ay_feet, .int y_people, .int y_firstPace, .int y_secondPace, .int y_steps]))]) [2] rfl) (hD.sub (ws' := [(ay, .inr (3, [.ref ay_kind, .ref ay_things, .ref ay_feet, .int y_people, .int y_firstPace, .int y_secondPace, .int y_steps]))]) [2] (by decide) rfl) rfl rfl) rfl rfl hl.1 rfl (lv_room (Nat.le_of_ble_eq_true rfl)) dX5_tell_65 ⟨Nat.le_of_ble_eq_true rfl, Nat.le_of_ble_eq_true rfl⟩) hP hD hS hA [2] [0, 1, 3, 4, 5] [0, 1, 5, 2, 3, 4] rfl rfl rfl (by decide) (by decide) (by decide) (fun H locs hP hD hS => ?_)
        refine lv_if_eq (tgt := 75) hx hb dX5_tell_68 (by decide) (fun c68 => ?_) (fun c68 => ?_)
        · replace hf := ip c68 hf
          refine lv_iconst (v := 0) hx hb dX5_tell_75 (by decide) ?_
          simp only [Option.some.injEq, Prod.mk.injEq] at hf
          obtain ⟨rfl, rfl, rfl, rfl, rfl, rfl, rfl, rfl⟩ := hf
          exact W.zret hx hb hr rfl (fun t ht hW => ⟨⟨_, (), rfl, rfl, by rw [ht]; exact hP, hD⟩, hS.F ht⟩) hS.2.2 dX5_tell_76
        · replace hf := iq c68 hf
          refine lv_iconst (v := 1) hx hb dX5_tell_71 (by decide) ?_
          refine lv_goto (tgt := 76) hx hb dX5_tell_72 (by decide) ?_
          simp only [Option.some.injEq, Prod.mk.injEq] at hf
          obtain ⟨rfl, rfl, rfl, rfl, rfl, rfl, rfl, rfl⟩ := hf
          exact W.zret hx hb hr rfl (fun t ht hW => ⟨⟨_, (), rfl, rfl, by rw [ht]; exact hP, hD⟩, hS.F ht⟩) hS.2.2 dX5_tell_76
    · replace hf := ip c32 hf
      refine lv_aload_n hx hb dX5_tell_35 rfl (lv_at hl 2 rfl) ?_
      refine lv_aload_n hx hb dX5_tell_36 rfl (lv_at hl 0 rfl) ?_
      refine va_get (C := RX5) (T := TX5) (N := 3) hx hb hts inX5 hown hK.1 hP 0 rfl rfl 1 (by decide) f15 (fun _ h9 => h9) rfl dX5_tell_37 ?_
      refine lv_iconst (v := 0) hx hb dX5_tell_40 (by decide) ?_
      refine a_ild hx hb hK hP 1 rfl (vin (by decide)) 0 (by decide) dX5_tell_41 ?_
      refine lv_aload_n hx hb dX5_tell_42 rfl (lv_at hl 0 rfl) ?_
      refine va_get (C := RX5) (T := TX5) (N := 3) hx hb hts inX5 hown hK.1 hP 0 rfl rfl 1 (by decide) f15 (fun _ h9 => h9) rfl dX5_tell_43 ?_
      refine lv_iconst (v := 1) hx hb dX5_tell_46 (by decide) ?_
      refine a_ild hx hb hK hP 1 rfl (vin (by decide)) 1 (by decide) dX5_tell_47 ?_
      obtain ⟨⟨r48, y_firstPace_o48, y_secondPace_o48⟩, q48, hf⟩ := ob hf
      replace hf : _ = _ := hf
      refine k_i (wc := [(ay, .inr (3, [.ref ay_kind, .ref ay_things, .ref ay_feet, .int y_people, .int y_firstPace, .int y_secondPace, .int y_steps]))]) (wr := [(ax, .inr (5, [.ref ax_letters, .ref ax_numbers, .int x_length])), (ax_numbers, .inl (cyI, 3, .inl x_numbers)), (ay_kind, .inl (cyI, 8, .inl y_kind)), (ay_things, .inl (cyI, 8, .inl y_things)), (ay_feet, .inl (cyI, 8, .inl y_feet))]) (w1 := [(ay, .inr (3, [.ref ay_kind, .ref ay_things, .ref ay_feet, .int y_people, .int y_firstPace_o48, .int y_secondPace_o48, .int y_steps]))]) (wn := [(ax, .inr (5, [.ref ax_letters, .ref ax_numbers, .int x_length])), (ax_numbers, .inl (cyI, 3, .inl x_numbers)), (ay, .inr (3, [.ref ay_kind, .ref ay_things, .ref ay_feet, .int y_people, .int y_firstPace_o48, .int y_secondPace_o48, .int y_steps])), (ay_kind, .inl (cyI, 8, .inl y_kind)), (ay_things, .inl (cyI, 8, .inl y_things)), (ay_feet, .inl (cyI, 8, .inl y_feet))]) (va_runV (As := [.int (x_numbers 0), .int (x_numbers 1)]) (rest := []) ⟨hx, hb, hml, hown, hts⟩ (c_X3_setPaces l D cyI cyC cyS H.size ay ay_kind ay_things ay_feet y_people y_firstPace y_secondPace y_steps (x_numbers 0) (x_numbers 1) q48) (cwV 2 hts gX5_tell_X3_setPaces rfl rfl rfl (by decide +kernel) ⟨Nat.le_of_ble_eq_true rfl, Nat.le_of_ble_eq_true rfl⟩) (preV (ci := 3) hK (hP.subm (ws' := [(ay, .inr (3, [.ref ay_kind, .ref ay_things, .ref ay_feet, .int y_people, .int y_firstPace, .int y_secondPace, .int y_steps]))]) [2] rfl) (hD.sub (ws' := [(ay, .inr (3, [.ref ay_kind, .ref ay_things, .ref ay_feet, .int y_people, .int y_firstPace, .int y_secondPace, .int y_steps]))]) [2] (by decide) rfl) rfl rfl) rfl rfl hl.1 rfl (lv_room (Nat.le_of_ble_eq_true rfl)) dX5_tell_48 ⟨Nat.le_of_ble_eq_true rfl, Nat.le_of_ble_eq_true rfl⟩) hP hD hS hA [2] [0, 1, 3, 4, 5] [0, 1, 5, 2, 3, 4] rfl rfl rfl (by decide) (by decide) (by decide) (fun H locs hP hD hS => ?_)
      obtain ⟨n51, hf⟩ := oj hf
      simp only [Option.some.injEq, Prod.mk.injEq] at hf
      obtain ⟨rfl, rfl, rfl, rfl, rfl, rfl, rfl, rfl⟩ := hf
      exact W.zret hx hb hr (nar_boolean n51) (fun t ht hW => ⟨⟨_, (), rfl, rfl, by rw [ht]; exact hP, hD⟩, hS.F ht⟩) hS.2.2 dX5_tell_51
  · replace hf := ip c3 hf
    refine lv_aload_n hx hb dX5_tell_6 rfl (lv_at hl 2 rfl) ?_
    refine lv_aload_n hx hb dX5_tell_7 rfl (lv_at hl 0 rfl) ?_
    refine va_get (C := RX5) (T := TX5) (N := 3) hx hb hts inX5 hown hK.1 hP 0 rfl rfl 1 (by decide) f15 (fun _ h9 => h9) rfl dX5_tell_8 ?_
    refine lv_iconst (v := 0) hx hb dX5_tell_11 (by decide) ?_
    refine a_ild hx hb hK hP 1 rfl (vin (by decide)) 0 (by decide) dX5_tell_12 ?_
    refine lv_aload_n hx hb dX5_tell_13 rfl (lv_at hl 0 rfl) ?_
    refine va_get (C := RX5) (T := TX5) (N := 3) hx hb hts inX5 hown hK.1 hP 0 rfl rfl 1 (by decide) f15 (fun _ h9 => h9) rfl dX5_tell_14 ?_
    refine lv_iconst (v := 1) hx hb dX5_tell_17 (by decide) ?_
    refine a_ild hx hb hK hP 1 rfl (vin (by decide)) 1 (by decide) dX5_tell_18 ?_
    refine lv_aload_n hx hb dX5_tell_19 rfl (lv_at hl 0 rfl) ?_
    refine va_get (C := RX5) (T := TX5) (N := 3) hx hb hts inX5 hown hK.1 hP 0 rfl rfl 1 (by decide) f15 (fun _ h9 => h9) rfl dX5_tell_20 ?_
    refine lv_iconst (v := 2) hx hb dX5_tell_23 (by decide) ?_
    refine a_ild hx hb hK hP 1 rfl (vin (by decide)) 2 (by decide) dX5_tell_24 ?_
    obtain ⟨⟨r25, y_people_o25, y_kind_o25, y_things_o25, y_feet_o25⟩, q25, hf⟩ := ob hf
    replace hf : _ = _ := hf
    refine k_i (wc := [(ay, .inr (3, [.ref ay_kind, .ref ay_things, .ref ay_feet, .int y_people, .int y_firstPace, .int y_secondPace, .int y_steps])), (ay_kind, .inl (cyI, 8, .inl y_kind)), (ay_things, .inl (cyI, 8, .inl y_things)), (ay_feet, .inl (cyI, 8, .inl y_feet))]) (wr := [(ax, .inr (5, [.ref ax_letters, .ref ax_numbers, .int x_length])), (ax_numbers, .inl (cyI, 3, .inl x_numbers))]) (w1 := [(ay, .inr (3, [.ref ay_kind, .ref ay_things, .ref ay_feet, .int y_people_o25, .int y_firstPace, .int y_secondPace, .int y_steps])), (ay_kind, .inl (cyI, 8, .inl y_kind_o25)), (ay_things, .inl (cyI, 8, .inl y_things_o25)), (ay_feet, .inl (cyI, 8, .inl y_feet_o25))]) (wn := [(ax, .inr (5, [.ref ax_letters, .ref ax_numbers, .int x_length])), (ax_numbers, .inl (cyI, 3, .inl x_numbers)), (ay, .inr (3, [.ref ay_kind, .ref ay_things, .ref ay_feet, .int y_people_o25, .int y_firstPace, .int y_secondPace, .int y_steps])), (ay_kind, .inl (cyI, 8, .inl y_kind_o25)), (ay_things, .inl (cyI, 8, .inl y_things_o25)), (ay_feet, .inl (cyI, 8, .inl y_feet_o25))]) (va_runV (As := [.int (x_numbers 0), .int (x_numbers 1), .int (x_numbers 2)]) (rest := []) ⟨hx, hb, hml, hown, hts⟩ (c_X3_append l D cyI cyC cyS H.size ay ay_kind ay_things ay_feet y_people y_firstPace y_secondPace y_steps y_kind y_things y_feet (x_numbers 0) (x_numbers 1) (x_numbers 2) q25) (cwV 3 hts gX5_tell_X3_append rfl rfl rfl (by decide +kernel) ⟨Nat.le_of_ble_eq_true rfl, Nat.le_of_ble_eq_true rfl⟩) (preV (ci := 3) hK (hP.subm (ws' := [(ay, .inr (3, [.ref ay_kind, .ref ay_things, .ref ay_feet, .int y_people, .int y_firstPace, .int y_secondPace, .int y_steps])), (ay_kind, .inl (cyI, 8, .inl y_kind)), (ay_things, .inl (cyI, 8, .inl y_things)), (ay_feet, .inl (cyI, 8, .inl y_feet))]) [2, 3, 4, 5] rfl) (hD.sub (ws' := [(ay, .inr (3, [.ref ay_kind, .ref ay_things, .ref ay_feet, .int y_people, .int y_firstPace, .int y_secondPace, .int y_steps])), (ay_kind, .inl (cyI, 8, .inl y_kind)), (ay_things, .inl (cyI, 8, .inl y_things)), (ay_feet, .inl (cyI, 8, .inl y_feet))]) [2, 3, 4, 5] (by decide) rfl) rfl rfl) rfl rfl hl.1 rfl (lv_room (Nat.le_of_ble_eq_true rfl)) dX5_tell_25 ⟨Nat.le_of_ble_eq_true rfl, Nat.le_of_ble_eq_true rfl⟩) hP hD hS hA [2, 3, 4, 5] [0, 1] [0, 1, 2, 3, 4, 5] rfl rfl rfl (by decide) (by decide) (by decide) (fun H locs hP hD hS => ?_)
    obtain ⟨n28, hf⟩ := oj hf
    simp only [Option.some.injEq, Prod.mk.injEq] at hf
    obtain ⟨rfl, rfl, rfl, rfl, rfl, rfl, rfl, rfl⟩ := hf
    exact W.zret hx hb hr (nar_boolean n28) (fun t ht hW => ⟨⟨_, (), rfl, rfl, by rw [ht]; exact hP, hD⟩, hS.F ht⟩) hS.2.2 dX5_tell_28
abbrev rX5_readInto : Room := { frames := 4, cells := 0, slots := 0, locals := 89 }
set_option maxHeartbeats 4000000 in
set_option maxRecDepth 100000 in
theorem c_X5_readInto (l : Launch) (D : va_G) (cyI cyC cyS : ClassId) (sz : Nat) (ax : Nat) (ay : Nat) (ax_letters : Nat) (ax_numbers : Nat) (ay_kind : Nat) (ay_things : Nat) (ay_feet : Nat) (x_length : Int32) (y_people : Int32) (y_firstPace : Int32) (y_secondPace : Int32) (y_steps : Int32) (x_letters : Nat → Int32) (x_numbers : Nat → Int32) (y_kind : Nat → Int32) (y_things : Nat → Int32) (y_feet : Nat → Int32) {r : Int32} {o_y_people : Int32} {o_y_firstPace : Int32} {o_y_secondPace : Int32} {o_y_steps : Int32} {o_x_numbers : Nat → Int32} {o_y_kind : Nat → Int32} {o_y_things : Nat → Int32} {o_y_feet : Nat → Int32} (hf : S_X5_readInto x_length x_letters x_numbers y_kind y_things y_feet = some (r, o_y_people, o_y_firstPace, o_y_secondPace, o_y_steps, o_x_numbers, o_y_kind, o_y_things, o_y_feet)) : Met l yX5_readInto wsX5_readInto rX5_readInto (Cpre [.ref ax, .ref ay] D cyI cyC cyS sz [(ax, .inr (5, [.ref ax_letters, .ref ax_numbers, .int x_length])), (ay, .inr (3, [.ref ay_kind, .ref ay_things, .ref ay_feet, .int y_people, .int y_firstPace, .int y_secondPace, .int y_steps])), (ax_letters, .inl (cyC, 200, .inl x_letters)), (ax_numbers, .inl (cyI, 3, .inl x_numbers)), (ay_kind, .inl (cyI, 8, .inl y_kind)), (ay_things, .inl (cyI, 8, .inl y_things)), (ay_feet, .inl (cyI, 8, .inl y_feet))]) (CQi r D [(ax, .inr (5, [.ref ax_letters, .ref ax_numbers, .int x_length])), (ay, .inr (3, [.ref ay_kind, .ref ay_things, .ref ay_feet, .int o_y_people, .int o_y_firstPace, .int o_y_secondPace, .int o_y_steps])), (ax_letters, .inl (cyC, 200, .inl x_letters)), (ax_numbers, .inl (cyI, 3, .inl o_x_numbers)), (ay_kind, .inl (cyI, 8, .inl o_y_kind)), (ay_things, .inl (cyI, 8, .inl o_y_things)), (ay_feet, .inl (cyI, 8, .inl o_y_feet))] (va_A [(ax, .inr (5, [.ref ax_letters, .ref ax_numbers, .int x_length])), (ay, .inr (3, [.ref ay_kind, .ref ay_things, .ref ay_feet, .int y_people, .int y_firstPace, .int y_secondPace, .int y_steps])), (ax_letters, .inl (cyC, 200, .inl x_letters)), (ax_numbers, .inl (cyI, 3, .inl x_numbers)), (ay_kind, .inl (cyI, 8, .inl y_kind)), (ay_things, .inl (cyI, 8, .inl y_things)), (ay_feet, .inl (cyI, 8, .inl y_feet))] sz)) 0 0 (va_A [(ax, .inr (5, [.ref ax_letters, .ref ax_numbers, .int x_length])), (ay, .inr (3, [.ref ay_kind, .ref ay_things, .ref ay_feet, .int y_people, .int y_firstPace, .int y_secondPace, .int y_steps])), (ax_letters, .inl (cyC, 200, .inl x_letters)), (ax_numbers, .inl (cyI, 3, .inl x_numbers)), (ay_kind, .inl (cyI, 8, .inl y_kind)), (ay_things, .inl (cyI, 8, .inl y_things)), (ay_feet, .inl (cyI, 8, .inl y_feet))] sz) := by
  refine Met.ofW (cc := cX5_readInto) (maxL := 5) (ret := (some .int)) (by decide) rfl ?_
  intro p e s m args below meth c s₁ B hml hv
  obtain ⟨rfl, hsz, hP, hK, hD0⟩ := hv
  have hx := B.exec
  have hb := B.bytes
  have hr := B.returns
  have hts := atoms_spec (ws := wsX5_readInto) B.pre
  have hown : s.vm.findClass RX5 = some m.cls := findClass_of_methodNamed B.named
  have hlocks := B.notSynchronized
  subst hsz
  have hD := hD0.self (sz := s.heap.size)
  generalize hAe : va_A [(ax, .inr (5, [.ref ax_letters, .ref ax_numbers, .int x_length])), (ay, .inr (3, [.ref ay_kind, .ref ay_things, .ref ay_feet, .int y_people, .int y_firstPace, .int y_secondPace, .int y_steps])), (ax_letters, .inl (cyC, 200, .inl x_letters)), (ax_numbers, .inl (cyI, 3, .inl x_numbers)), (ay_kind, .inl (cyI, 8, .inl y_kind)), (ay_things, .inl (cyI, 8, .inl y_things)), (ay_feet, .inl (cyI, 8, .inl y_feet))] s.heap.size = A at hD ⊢
  have hA : ∀ q : Nat, s.heap.size ≤ q → A q := fun q h => by rw [← hAe]; exact Or.inr h
  have hS : va_S A s.heap s.heap [] := va_S.rf
  have hl := lv_entry ([.ref ax, .ref ay]) (n := 5) (Nat.le_of_ble_eq_true rfl)
  rw [lg_entry_eq]
  generalize (lg_sl ([.ref ax, .ref ay]) ++ List.replicate (5 - (lg_sl ([.ref ax, .ref ay])).length) Slot.unset).toArray = ls at hl ⊢
  have hl : lv_has ls 5 [(0, .ref ax), (1, .ref ay)] := hl
  have f19 := hts (.fieldLink RX5 19 "SecondTill$Text" "length" "I") (by decide +kernel)
  have inX5 : ∀ w ∈ u_ws RX5 TX5 3, w ∈ wsX5_readInto := by decide +kernel
  unfold S_X5_readInto at hf
  have hP : va_P D vwCl [(ax, .inr (5, [.ref ax_letters, .ref ax_numbers, .int x_length])), (ay, .inr (3, [.ref ay_kind, .ref ay_things, .ref ay_feet, .int y_people, .int y_firstPace, .int y_secondPace, .int y_steps])), (ax_letters, .inl (cyC, 200, .inl x_letters)), (ax_numbers, .inl (cyI, 3, .inl x_numbers)), (ay_kind, .inl (cyI, 8, .inl y_kind)), (ay_things, .inl (cyI, 8, .inl y_things)), (ay_feet, .inl (cyI, 8, .inl y_feet))] s.heap := hP
  suffices hgo : ∀ (H : Heap) (locs : List Loc), va_P D vwCl [(ax, .inr (5, [.ref ax_letters, .ref ax_numbers, .int x_length])), (ay, .inr (3, [.ref ay_kind, .ref ay_things, .ref ay_feet, .int y_people, .int y_firstPace, .int y_secondPace, .int y_steps])), (ax_letters, .inl (cyC, 200, .inl x_letters)), (ax_numbers, .inl (cyI, 3, .inl x_numbers)), (ay_kind, .inl (cyI, 8, .inl y_kind)), (ay_things, .inl (cyI, 8, .inl y_things)), (ay_feet, .inl (cyI, 8, .inl y_feet))] H → va_S A s.heap H locs → W p l e rX5_readInto s m (([.ref ax, .ref ay] : List Value).toArray) below meth c H locs 0 0 (MQ below (CQi r D [(ax, .inr (5, [.ref ax_letters, .ref ax_numbers, .int x_length])), (ay, .inr (3, [.ref ay_kind, .ref ay_things, .ref ay_feet, .int o_y_people, .int o_y_firstPace, .int o_y_secondPace, .int o_y_steps])), (ax_letters, .inl (cyC, 200, .inl x_letters)), (ax_numbers, .inl (cyI, 3, .inl o_x_numbers)), (ay_kind, .inl (cyI, 8, .inl o_y_kind)), (ay_things, .inl (cyI, 8, .inl o_y_things)), (ay_feet, .inl (cyI, 8, .inl o_y_feet))] A) (([.ref ax, .ref ay] : List Value).toArray) s 0 0 A) (F0 m 0 ls []) from hgo _ _ hP hS
  clear hP hS
  intro H locs hP hS
  refine lv_aload_n hx hb dX5_readInto_0 rfl (lv_at hl 1 rfl) ?_
  obtain ⟨⟨y_people_o1, y_firstPace_o1, y_secondPace_o1, y_steps_o1⟩, q1, hf⟩ := ob hf
  replace hf : _ = _ := hf
  refine k_v (wc := [(ay, .inr (3, [.ref ay_kind, .ref ay_things, .ref ay_feet, .int y_people, .int y_firstPace, .int y_secondPace, .int y_steps]))]) (wr := [(ax, .inr (5, [.ref ax_letters, .ref ax_numbers, .int x_length])), (ax_letters, .inl (cyC, 200, .inl x_letters)), (ax_numbers, .inl (cyI, 3, .inl x_numbers)), (ay_kind, .inl (cyI, 8, .inl y_kind)), (ay_things, .inl (cyI, 8, .inl y_things)), (ay_feet, .inl (cyI, 8, .inl y_feet))]) (w1 := [(ay, .inr (3, [.ref ay_kind, .ref ay_things, .ref ay_feet, .int y_people_o1, .int y_firstPace_o1, .int y_secondPace_o1, .int y_steps_o1]))]) (wn := [(ax, .inr (5, [.ref ax_letters, .ref ax_numbers, .int x_length])), (ay, .inr (3, [.ref ay_kind, .ref ay_things, .ref ay_feet, .int y_people_o1, .int y_firstPace_o1, .int y_secondPace_o1, .int y_steps_o1])), (ax_letters, .inl (cyC, 200, .inl x_letters)), (ax_numbers, .inl (cyI, 3, .inl x_numbers)), (ay_kind, .inl (cyI, 8, .inl y_kind)), (ay_things, .inl (cyI, 8, .inl y_things)), (ay_feet, .inl (cyI, 8, .inl y_feet))]) (va_runV (As := []) (rest := []) ⟨hx, hb, hml, hown, hts⟩ (c_X3_becomeUntold l D cyI cyC cyS H.size ay ay_kind ay_things ay_feet y_people y_firstPace y_secondPace y_steps q1) (cwV 0 hts gX5_readInto_X3_becomeUntold rfl rfl rfl (by decide +kernel) ⟨Nat.le_of_ble_eq_true rfl, Nat.le_of_ble_eq_true rfl⟩) (preV (ci := 3) hK (hP.subm (ws' := [(ay, .inr (3, [.ref ay_kind, .ref ay_things, .ref ay_feet, .int y_people, .int y_firstPace, .int y_secondPace, .int y_steps]))]) [1] rfl) (hD.sub (ws' := [(ay, .inr (3, [.ref ay_kind, .ref ay_things, .ref ay_feet, .int y_people, .int y_firstPace, .int y_secondPace, .int y_steps]))]) [1] (by decide) rfl) rfl rfl) rfl rfl hl.1 rfl (lv_room (Nat.le_of_ble_eq_true rfl)) dX5_readInto_1 ⟨Nat.le_of_ble_eq_true rfl, Nat.le_of_ble_eq_true rfl⟩) hP hD hS hA [1] [0, 2, 3, 4, 5, 6] [0, 6, 1, 2, 3, 4, 5] rfl rfl rfl (by decide) (by decide) (by decide) (fun H locs hP hD hS => ?_)
  refine lv_iconst (v := 0) hx hb dX5_readInto_4 (by decide) ?_
  refine lv_istore_n (lv' := [(2, .int (0 : Int32)), (0, .ref ax), (1, .ref ay)]) hx hb dX5_readInto_5 rfl hl (by decide) rfl (fun ls hl => ?_)
  refine lv_iconst (v := 0) hx hb dX5_readInto_6 (by decide) ?_
  refine lv_istore_n (lv' := [(3, .int (0 : Int32)), (2, .int (0 : Int32)), (0, .ref ax), (1, .ref ay)]) hx hb dX5_readInto_7 rfl hl (by decide) rfl (fun ls hl => ?_)
  have hL8 : ∀ (n8 : Nat) (i2 : Int32) (i3 : Int32) (y_people : Int32) (y_firstPace : Int32) (y_secondPace : Int32) (y_steps : Int32) (x_numbers : Nat → Int32) (y_kind : Nat → Int32) (y_things : Nat → Int32) (y_feet : Nat → Int32) (H : Heap) (locs : List Loc) (ls : Array Slot), va_P D vwCl [(ax, .inr (5, [.ref ax_letters, .ref ax_numbers, .int x_length])), (ay, .inr (3, [.ref ay_kind, .ref ay_things, .ref ay_feet, .int y_people, .int y_firstPace, .int y_secondPace, .int y_steps])), (ax_letters, .inl (cyC, 200, .inl x_letters)), (ax_numbers, .inl (cyI, 3, .inl x_numbers)), (ay_kind, .inl (cyI, 8, .inl y_kind)), (ay_things, .inl (cyI, 8, .inl y_things)), (ay_feet, .inl (cyI, 8, .inl y_feet))] H → va_D A [(ax, .inr (5, [.ref ax_letters, .ref ax_numbers, .int x_length])), (ay, .inr (3, [.ref ay_kind, .ref ay_things, .ref ay_feet, .int y_people, .int y_firstPace, .int y_secondPace, .int y_steps])), (ax_letters, .inl (cyC, 200, .inl x_letters)), (ax_numbers, .inl (cyI, 3, .inl x_numbers)), (ay_kind, .inl (cyI, 8, .inl y_kind)), (ay_things, .inl (cyI, 8, .inl y_things)), (ay_feet, .inl (cyI, 8, .inl y_feet))] → va_S A s.heap H locs → lv_has ls 5 [(0, .ref ax), (1, .ref ay), (2, .int i2), (3, .int i3)] → S_X5_readInto_L8 x_length x_letters n8 i2 i3 y_people y_firstPace y_secondPace y_steps x_numbers y_kind y_things y_feet = some (r, o_y_people, o_y_firstPace, o_y_secondPace, o_y_steps, o_x_numbers, o_y_kind, o_y_things, o_y_feet) → W p l e rX5_readInto s m (([.ref ax, .ref ay] : List Value).toArray) below meth c H locs 0 0 (MQ below (CQi r D [(ax, .inr (5, [.ref ax_letters, .ref ax_numbers, .int x_length])), (ay, .inr (3, [.ref ay_kind, .ref ay_things, .ref ay_feet, .int o_y_people, .int o_y_firstPace, .int o_y_secondPace, .int o_y_steps])), (ax_letters, .inl (cyC, 200, .inl x_letters)), (ax_numbers, .inl (cyI, 3, .inl o_x_numbers)), (ay_kind, .inl (cyI, 8, .inl o_y_kind)), (ay_things, .inl (cyI, 8, .inl o_y_things)), (ay_feet, .inl (cyI, 8, .inl o_y_feet))] A) (([.ref ax, .ref ay] : List Value).toArray) s 0 0 A) (F0 m 8 ls []) := by
    intro n8
    induction n8 with
    | zero => intro i2 i3 y_people y_firstPace y_secondPace y_steps x_numbers y_kind y_things y_feet H locs ls hP hD hS hl hf; exact absurd hf (by simp [S_X5_readInto_L8])
    | succ n8 ih8 =>
      intro i2 i3 y_people y_firstPace y_secondPace y_steps x_numbers y_kind y_things y_feet H locs ls hP hD hS hl hf
      rw [S_X5_readInto_L8] at hf
      refine lv_iload_n hx hb dX5_readInto_8 rfl (lv_at hl 3 rfl) ?_
      refine lv_sipush (v := 200) hx hb dX5_readInto_9 (by decide) ?_
      refine lv_icmp_ge (tgt := 60) hx hb dX5_readInto_12 (by decide) (fun c12 => ?_) (fun c12 => ?_)
      · replace hf := ip c12 hf
        refine lv_bipush (v := -4) hx hb dX5_readInto_60 (by decide) ?_
        simp only [Option.some.injEq, Prod.mk.injEq] at hf
        obtain ⟨rfl, rfl, rfl, rfl, rfl, rfl, rfl, rfl, rfl⟩ := hf
        exact W.iret hx hb hr (fun t ht hW => ⟨⟨_, (), rfl, rfl, by rw [ht]; exact hP, hD⟩, hS.F ht⟩) hS.2.2 dX5_readInto_62
      · replace hf := iq c12 hf
        refine lv_iload_n hx hb dX5_readInto_15 rfl (lv_at hl 2 rfl) ?_
        refine lv_aload_n hx hb dX5_readInto_16 rfl (lv_at hl 0 rfl) ?_
        refine va_get (C := RX5) (T := TX5) (N := 3) hx hb hts inX5 hown hK.1 hP 0 rfl rfl 2 (by decide) f19 (fun _ h9 => h9) rfl dX5_readInto_17 ?_
        refine lv_icmp_ge (tgt := 60) hx hb dX5_readInto_20 (by decide) (fun c20 => ?_) (fun c20 => ?_)
        · replace hf := ip c20 hf
          refine lv_bipush (v := -4) hx hb dX5_readInto_60 (by decide) ?_
          simp only [Option.some.injEq, Prod.mk.injEq] at hf
          obtain ⟨rfl, rfl, rfl, rfl, rfl, rfl, rfl, rfl, rfl⟩ := hf
          exact W.iret hx hb hr (fun t ht hW => ⟨⟨_, (), rfl, rfl, by rw [ht]; exact hP, hD⟩, hS.F ht⟩) hS.2.2 dX5_readInto_62
        · replace hf := iq c20 hf
          refine lv_aload_n hx hb dX5_readInto_23 rfl (lv_at hl 0 rfl) ?_
          refine lv_iload_n hx hb dX5_readInto_24 rfl (lv_at hl 2 rfl) ?_
          obtain ⟨⟨r25, x_numbers_o25⟩, q25, hf⟩ := ob hf
          replace hf : _ = _ := hf
          refine k_i (wc := [(ax, .inr (5, [.ref ax_letters, .ref ax_numbers, .int x_length])), (ax_letters, .inl (cyC, 200, .inl x_letters)), (ax_numbers, .inl (cyI, 3, .inl x_numbers))]) (wr := [(ay, .inr (3, [.ref ay_kind, .ref ay_things, .ref ay_feet, .int y_people, .int y_firstPace, .int y_secondPace, .int y_steps])), (ay_kind, .inl (cyI, 8, .inl y_kind)), (ay_things, .inl (cyI, 8, .inl y_things)), (ay_feet, .inl (cyI, 8, .inl y_feet))]) (w1 := [(ax, .inr (5, [.ref ax_letters, .ref ax_numbers, .int x_length])), (ax_letters, .inl (cyC, 200, .inl x_letters)), (ax_numbers, .inl (cyI, 3, .inl x_numbers_o25))]) (wn := [(ax, .inr (5, [.ref ax_letters, .ref ax_numbers, .int x_length])), (ay, .inr (3, [.ref ay_kind, .ref ay_things, .ref ay_feet, .int y_people, .int y_firstPace, .int y_secondPace, .int y_steps])), (ax_letters, .inl (cyC, 200, .inl x_letters)), (ax_numbers, .inl (cyI, 3, .inl x_numbers_o25)), (ay_kind, .inl (cyI, 8, .inl y_kind)), (ay_things, .inl (cyI, 8, .inl y_things)), (ay_feet, .inl (cyI, 8, .inl y_feet))]) (va_runV (As := [.int i2]) (rest := []) ⟨hx, hb, hml, hown, hts⟩ (c_X5_endOfItem l D cyI cyC cyS H.size ax ax_letters ax_numbers x_length x_letters x_numbers i2 q25) (cwV 1 hts gX5_readInto_X5_endOfItem rfl rfl rfl (by decide +kernel) ⟨Nat.le_of_ble_eq_true rfl, Nat.le_of_ble_eq_true rfl⟩) (preV (ci := 5) hK (hP.subm (ws' := [(ax, .inr (5, [.ref ax_letters, .ref ax_numbers, .int x_length])), (ax_letters, .inl (cyC, 200, .inl x_letters)), (ax_numbers, .inl (cyI, 3, .inl x_numbers))]) [0, 2, 3] rfl) (hD.sub (ws' := [(ax, .inr (5, [.ref ax_letters, .ref ax_numbers, .int x_length])), (ax_letters, .inl (cyC, 200, .inl x_letters)), (ax_numbers, .inl (cyI, 3, .inl x_numbers))]) [0, 2, 3] (by decide) rfl) rfl rfl) rfl rfl hl.1 rfl (lv_room (Nat.le_of_ble_eq_true rfl)) dX5_readInto_25 ⟨Nat.le_of_ble_eq_true rfl, Nat.le_of_ble_eq_true rfl⟩) hP hD hS hA [0, 2, 3] [1, 4, 5, 6] [4, 0, 5, 6, 1, 2, 3] rfl rfl rfl (by decide) (by decide) (by decide) (fun H locs hP hD hS => ?_)
          refine lv_istore (lv' := [(4, .int r25), (0, .ref ax), (1, .ref ay), (2, .int i2), (3, .int i3)]) hx hb dX5_readInto_28 hl (by decide) rfl (fun ls hl => ?_)
          refine lv_iload hx hb dX5_readInto_30 (lv_at hl 0 rfl) ?_
          refine lv_iload_n hx hb dX5_readInto_32 rfl (lv_at hl 3 rfl) ?_
          refine lv_icmp_eq (tgt := 49) hx hb dX5_readInto_33 (by decide) (fun c33 => ?_) (fun c33 => ?_)
          · replace hf := ip c33 hf
            refine lv_iload_n hx hb dX5_readInto_49 rfl (lv_at hl 3 rfl) ?_
            simp only [Option.some.injEq, Prod.mk.injEq] at hf
            obtain ⟨rfl, rfl, rfl, rfl, rfl, rfl, rfl, rfl, rfl⟩ := hf
            exact W.iret hx hb hr (fun t ht hW => ⟨⟨_, (), rfl, rfl, by rw [ht]; exact hP, hD⟩, hS.F ht⟩) hS.2.2 dX5_readInto_50
          · replace hf := iq c33 hf
            refine lv_aload_n hx hb dX5_readInto_36 rfl (lv_at hl 1 rfl) ?_
            refine lv_aload_n hx hb dX5_readInto_37 rfl (lv_at hl 1 rfl) ?_
            refine lv_iload_n hx hb dX5_readInto_38 rfl (lv_at hl 3 rfl) ?_
            obtain ⟨r39, q39, hf⟩ := ob hf
            refine k_i (wc := [(ax, .inr (5, [.ref ax_letters, .ref ax_numbers, .int x_length])), (ax_letters, .inl (cyC, 200, .inl x_letters))]) (wr := [(ay, .inr (3, [.ref ay_kind, .ref ay_things, .ref ay_feet, .int y_people, .int y_firstPace, .int y_secondPace, .int y_steps])), (ax_numbers, .inl (cyI, 3, .inl x_numbers_o25)), (ay_kind, .inl (cyI, 8, .inl y_kind)), (ay_things, .inl (cyI, 8, .inl y_things)), (ay_feet, .inl (cyI, 8, .inl y_feet))]) (w1 := [(ax, .inr (5, [.ref ax_letters, .ref ax_numbers, .int x_length])), (ax_letters, .inl (cyC, 200, .inl x_letters))]) (wn := [(ax, .inr (5, [.ref ax_letters, .ref ax_numbers, .int x_length])), (ay, .inr (3, [.ref ay_kind, .ref ay_things, .ref ay_feet, .int y_people, .int y_firstPace, .int y_secondPace, .int y_steps])), (ax_letters, .inl (cyC, 200, .inl x_letters)), (ax_numbers, .inl (cyI, 3, .inl x_numbers_o25)), (ay_kind, .inl (cyI, 8, .inl y_kind)), (ay_things, .inl (cyI, 8, .inl y_things)), (ay_feet, .inl (cyI, 8, .inl y_feet))]) (va_runV (As := [.int i2]) (rest := [.ref ax]) ⟨hx, hb, hml, hown, hts⟩ (c_X5_letterAt l D cyI cyC cyS H.size ax ax_letters ax_numbers x_length x_letters i2 q39) (cwV 1 hts gX5_readInto_X5_letterAt rfl rfl rfl (by decide +kernel) ⟨Nat.le_of_ble_eq_true rfl, Nat.le_of_ble_eq_true rfl⟩) (preV (ci := 5) hK (hP.subm (ws' := [(ax, .inr (5, [.ref ax_letters, .ref ax_numbers, .int x_length])), (ax_letters, .inl (cyC, 200, .inl x_letters))]) [0, 2] rfl) (hD.sub (ws' := [(ax, .inr (5, [.ref ax_letters, .ref ax_numbers, .int x_length])), (ax_letters, .inl (cyC, 200, .inl x_letters))]) [0, 2] (by decide) rfl) rfl rfl) rfl rfl hl.1 rfl (lv_room (Nat.le_of_ble_eq_true rfl)) dX5_readInto_39 ⟨Nat.le_of_ble_eq_true rfl, Nat.le_of_ble_eq_true rfl⟩) hP hD hS hA [0, 2] [1, 3, 4, 5, 6] [5, 0, 6, 1, 2, 3, 4] rfl rfl rfl (by decide) (by decide) (by decide) (fun H locs hP hD hS => ?_)
            refine lv_aload_n hx hb dX5_readInto_42 rfl (lv_at hl 2 rfl) ?_
            obtain ⟨⟨r43, y_people_o43, y_firstPace_o43, y_secondPace_o43, y_steps_o43, y_kind_o43, y_things_o43, y_feet_o43⟩, q43, hf⟩ := ob hf
            replace hf : _ = _ := hf
            refine k_i (wc := [(ax, .inr (5, [.ref ax_letters, .ref ax_numbers, .int x_length])), (ax_numbers, .inl (cyI, 3, .inl x_numbers_o25)), (ay, .inr (3, [.ref ay_kind, .ref ay_things, .ref ay_feet, .int y_people, .int y_firstPace, .int y_secondPace, .int y_steps])), (ay_kind, .inl (cyI, 8, .inl y_kind)), (ay_things, .inl (cyI, 8, .inl y_things)), (ay_feet, .inl (cyI, 8, .inl y_feet))]) (wr := [(ax_letters, .inl (cyC, 200, .inl x_letters))]) (w1 := [(ax, .inr (5, [.ref ax_letters, .ref ax_numbers, .int x_length])), (ax_numbers, .inl (cyI, 3, .inl x_numbers_o25)), (ay, .inr (3, [.ref ay_kind, .ref ay_things, .ref ay_feet, .int y_people_o43, .int y_firstPace_o43, .int y_secondPace_o43, .int y_steps_o43])), (ay_kind, .inl (cyI, 8, .inl y_kind_o43)), (ay_things, .inl (cyI, 8, .inl y_things_o43)), (ay_feet, .inl (cyI, 8, .inl y_feet_o43))]) (wn := [(ax, .inr (5, [.ref ax_letters, .ref ax_numbers, .int x_length])), (ay, .inr (3, [.ref ay_kind, .ref ay_things, .ref ay_feet, .int y_people_o43, .int y_firstPace_o43, .int y_secondPace_o43, .int y_steps_o43])), (ax_letters, .inl (cyC, 200, .inl x_letters)), (ax_numbers, .inl (cyI, 3, .inl x_numbers_o25)), (ay_kind, .inl (cyI, 8, .inl y_kind_o43)), (ay_things, .inl (cyI, 8, .inl y_things_o43)), (ay_feet, .inl (cyI, 8, .inl y_feet_o43))]) (va_runV (As := [.int r39, .ref ay]) (rest := []) ⟨hx, hb, hml, hown, hts⟩ (c_X5_tell l D cyI cyC cyS H.size ax ay ax_letters ax_numbers ay_kind ay_things ay_feet x_length x_numbers_o25 y_people y_firstPace y_secondPace y_steps y_kind y_things y_feet r39 q43) (cwV 2 hts gX5_readInto_X5_tell rfl rfl rfl (by decide +kernel) ⟨Nat.le_of_ble_eq_true rfl, Nat.le_of_ble_eq_true rfl⟩) (preV (ci := 5) hK (hP.subm (ws' := [(ax, .inr (5, [.ref ax_letters, .ref ax_numbers, .int x_length])), (ax_numbers, .inl (cyI, 3, .inl x_numbers_o25)), (ay, .inr (3, [.ref ay_kind, .ref ay_things, .ref ay_feet, .int y_people, .int y_firstPace, .int y_secondPace, .int y_steps])), (ay_kind, .inl (cyI, 8, .inl y_kind)), (ay_things, .inl (cyI, 8, .inl y_things)), (ay_feet, .inl (cyI, 8, .inl y_feet))]) [0, 3, 1, 4, 5, 6] rfl) (hD.sub (ws' := [(ax, .inr (5, [.ref ax_letters, .ref ax_numbers, .int x_length])), (ax_numbers, .inl (cyI, 3, .inl x_numbers_o25)), (ay, .inr (3, [.ref ay_kind, .ref ay_things, .ref ay_feet, .int y_people, .int y_firstPace, .int y_secondPace, .int y_steps])), (ay_kind, .inl (cyI, 8, .inl y_kind)), (ay_things, .inl (cyI, 8, .inl y_things)), (ay_feet, .inl (cyI, 8, .inl y_feet))]) [0, 3, 1, 4, 5, 6] (by decide) rfl) rfl rfl) rfl rfl hl.1 rfl (lv_room (Nat.le_of_ble_eq_true rfl)) dX5_readInto_43 ⟨Nat.le_of_ble_eq_true rfl, Nat.le_of_ble_eq_true rfl⟩) hP hD hS hA [0, 3, 1, 4, 5, 6] [2] [1, 3, 0, 2, 4, 5, 6] rfl rfl rfl (by decide) (by decide) (by decide) (fun H locs hP hD hS => ?_)
            refine lv_if_ne (tgt := 51) hx hb dX5_readInto_46 (by decide) (fun c46 => ?_) (fun c46 => ?_)
            · replace hf := iq c46 hf
              refine lv_iload hx hb dX5_readInto_51 (lv_at hl 0 rfl) ?_
              refine lv_istore_n (lv' := [(2, .int r25), (4, .int r25), (0, .ref ax), (1, .ref ay), (3, .int i3)]) hx hb dX5_readInto_53 rfl hl (by decide) rfl (fun ls hl => ?_)
              refine lv_iinc (v := i3 + (1 : Int32)) (lv' := [(3, .int (i3 + (1 : Int32))), (2, .int r25), (4, .int r25), (0, .ref ax), (1, .ref ay)]) hx hb dX5_readInto_54 hl (k := 4) rfl rfl (by decide) rfl (fun ls hl => ?_)
              refine lv_goto (tgt := 8) hx hb dX5_readInto_57 (by decide) ?_
              exact ih8 r25 (i3 + (1 : Int32)) y_people_o43 y_firstPace_o43 y_secondPace_o43 y_steps_o43 x_numbers_o25 y_kind_o43 y_things_o43 y_feet_o43 _ _ _ hP hD hS (lv_sub hl [3, 4, 1, 0] rfl) hf
            · replace hf := ip c46 hf
              refine lv_iload_n hx hb dX5_readInto_49 rfl (lv_at hl 3 rfl) ?_
              simp only [Option.some.injEq, Prod.mk.injEq] at hf
              obtain ⟨rfl, rfl, rfl, rfl, rfl, rfl, rfl, rfl, rfl⟩ := hf
              exact W.iret hx hb hr (fun t ht hW => ⟨⟨_, (), rfl, rfl, by rw [ht]; exact hP, hD⟩, hS.F ht⟩) hS.2.2 dX5_readInto_50
  exact hL8 300 (0 : Int32) (0 : Int32) y_people_o1 y_firstPace_o1 y_secondPace_o1 y_steps_o1 x_numbers y_kind y_things y_feet _ _ _ hP hD hS (lv_sub hl [2, 3, 1, 0] rfl) hf
