abbrev rX6_within : Room := { frames := 0, cells := 0, slots := 0, locals := 0 }
set_option maxHeartbeats 4000000 in
set_option maxRecDepth 100000 in
theorem c_X6_within (l : Launch) (D : va_G) (cyI cyC cyS : ClassId) (sz : Nat) (i0 : Int32) (i1 : Int32) (i2 : Int32) {r : Int32} (hf : S_X6_within i0 i1 i2 = some r) : Met l yX6_within wsX6_within rX6_within (Cpre [.int i0, .int i1, .int i2] D cyI cyC cyS sz []) (CQi r D [] (va_A [] sz)) 0 0 (va_A [] sz) := by
  refine Met.ofW (cc := cX6_within) (maxL := 3) (ret := (some .boolean)) (by decide) rfl ?_
  intro p e s m args below meth c s₁ B hml hv
  obtain ⟨rfl, hsz, hP, hK, hD0⟩ := hv
  have hx := B.exec
  have hb := B.bytes
  have hr := B.returns
  have hts := atoms_spec (ws := wsX6_within) B.pre
  have hown : s.vm.findClass RX6 = some m.cls := findClass_of_methodNamed B.named
  have hlocks := B.notSynchronized
  subst hsz
  have hD := hD0.self (sz := s.heap.size)
  generalize hAe : va_A [] s.heap.size = A at hD ⊢
  have hA : ∀ q : Nat, s.heap.size ≤ q → A q := fun q h => by rw [← hAe]; exact Or.inr h
  have hS : va_S A s.heap s.heap [] := va_S.rf
  have hl := lv_entry ([.int i0, .int i1, .int i2]) (n := 3) (Nat.le_of_ble_eq_true rfl)
  rw [lg_entry_eq]
  generalize (lg_sl ([.int i0, .int i1, .int i2]) ++ List.replicate (3 - (lg_sl ([.int i0, .int i1, .int i2])).length) Slot.unset).toArray = ls at hl ⊢
  have hl : lv_has ls 3 [(0, .int i0), (1, .int i1), (2, .int i2)] := hl
  unfold S_X6_within at hf
  have hP : va_P D vwCl [] s.heap := hP
  suffices hgo : ∀ (H : Heap) (locs : List Loc), va_P D vwCl [] H → va_S A s.heap H locs → W p l e rX6_within s m (([.int i0, .int i1, .int i2] : List Value).toArray) below meth c H locs 0 0 (MQ below (CQi r D [] A) (([.int i0, .int i1, .int i2] : List Value).toArray) s 0 0 A) (F0 m 0 ls []) from hgo _ _ hP hS
  clear hP hS
  intro H locs hP hS
  refine lv_iload_n hx hb dX6_within_0 rfl (lv_at hl 0 rfl) ?_
  refine lv_iload_n hx hb dX6_within_1 rfl (lv_at hl 1 rfl) ?_
  refine lv_icmp_lt (tgt := 14) hx hb dX6_within_2 (by decide) (fun c2 => ?_) (fun c2 => ?_)
  · replace hf := ip c2 hf
    refine lv_iconst (v := 0) hx hb dX6_within_14 (by decide) ?_
    obtain rfl := Option.some.inj hf
    exact W.zret hx hb hr rfl (fun t ht hW => ⟨⟨_, (), rfl, rfl, by rw [ht]; exact hP, hD⟩, hS.F ht⟩) hS.2.2 dX6_within_15
  · replace hf := iq c2 hf
    refine lv_iload_n hx hb dX6_within_5 rfl (lv_at hl 0 rfl) ?_
    refine lv_iload_n hx hb dX6_within_6 rfl (lv_at hl 2 rfl) ?_
    refine lv_icmp_gt (tgt := 14) hx hb dX6_within_7 (by decide) (fun c7 => ?_) (fun c7 => ?_)
    · replace hf := ip c7 hf
      refine lv_iconst (v := 0) hx hb dX6_within_14 (by decide) ?_
      obtain rfl := Option.some.inj hf
      exact W.zret hx hb hr rfl (fun t ht hW => ⟨⟨_, (), rfl, rfl, by rw [ht]; exact hP, hD⟩, hS.F ht⟩) hS.2.2 dX6_within_15
    · replace hf := iq c7 hf
      refine lv_iconst (v := 1) hx hb dX6_within_10 (by decide) ?_
      refine lv_goto (tgt := 15) hx hb dX6_within_11 (by decide) ?_
      obtain rfl := Option.some.inj hf
      exact W.zret hx hb hr rfl (fun t ht hW => ⟨⟨_, (), rfl, rfl, by rw [ht]; exact hP, hD⟩, hS.F ht⟩) hS.2.2 dX6_within_15
abbrev rX6_isPerson : Room := { frames := 1, cells := 0, slots := 0, locals := 22 }
set_option maxHeartbeats 4000000 in
set_option maxRecDepth 100000 in
theorem c_X6_isPerson (l : Launch) (D : va_G) (cyI cyC cyS : ClassId) (sz : Nat) (i0 : Int32) (i1 : Int32) (i2 : Int32) {r : Int32} (hf : S_X6_isPerson i0 i1 i2 = some r) : Met l yX6_isPerson wsX6_isPerson rX6_isPerson (Cpre [.int i0, .int i1, .int i2] D cyI cyC cyS sz []) (CQi r D [] (va_A [] sz)) 0 0 (va_A [] sz) := by
  refine Met.ofW (cc := cX6_isPerson) (maxL := 3) (ret := (some .boolean)) (by decide) rfl ?_
  intro p e s m args below meth c s₁ B hml hv
  obtain ⟨rfl, hsz, hP, hK, hD0⟩ := hv
  have hx := B.exec
  have hb := B.bytes
  have hr := B.returns
  have hts := atoms_spec (ws := wsX6_isPerson) B.pre
  have hown : s.vm.findClass RX6 = some m.cls := findClass_of_methodNamed B.named
  have hlocks := B.notSynchronized
  subst hsz
  have hD := hD0.self (sz := s.heap.size)
  generalize hAe : va_A [] s.heap.size = A at hD ⊢
  have hA : ∀ q : Nat, s.heap.size ≤ q → A q := fun q h => by rw [← hAe]; exact Or.inr h
  have hS : va_S A s.heap s.heap [] := va_S.rf
  have hl := lv_entry ([.int i0, .int i1, .int i2]) (n := 3) (Nat.le_of_ble_eq_true rfl)
  rw [lg_entry_eq]
  generalize (lg_sl ([.int i0, .int i1, .int i2]) ++ List.replicate (3 - (lg_sl ([.int i0, .int i1, .int i2])).length) Slot.unset).toArray = ls at hl ⊢
  have hl : lv_has ls 3 [(0, .int i0), (1, .int i1), (2, .int i2)] := hl
  unfold S_X6_isPerson at hf
  have hP : va_P D vwCl [] s.heap := hP
  suffices hgo : ∀ (H : Heap) (locs : List Loc), va_P D vwCl [] H → va_S A s.heap H locs → W p l e rX6_isPerson s m (([.int i0, .int i1, .int i2] : List Value).toArray) below meth c H locs 0 0 (MQ below (CQi r D [] A) (([.int i0, .int i1, .int i2] : List Value).toArray) s 0 0 A) (F0 m 0 ls []) from hgo _ _ hP hS
  clear hP hS
  intro H locs hP hS
  refine lv_iload_n hx hb dX6_isPerson_0 rfl (lv_at hl 0 rfl) ?_
  refine lv_iconst (v := 0) hx hb dX6_isPerson_1 (by decide) ?_
  refine lv_iconst (v := 3) hx hb dX6_isPerson_2 (by decide) ?_
  obtain ⟨r3, q3, hf⟩ := ob hf
  refine k_i (wc := []) (wr := []) (w1 := []) (wn := []) (va_runS (As := [.int i0, .int (0 : Int32), .int (3 : Int32)]) (rest := []) ⟨hx, hb, hml, hown, hts⟩ (c_X6_within l D cyI cyC cyS H.size i0 (0 : Int32) (3 : Int32) q3) (va_cwS 3 hts gX6_isPerson_X6_within rfl rfl rfl (by decide +kernel) ⟨Nat.le_of_ble_eq_true rfl, Nat.le_of_ble_eq_true rfl⟩) (preS hK (hP.subm (ws' := []) [] rfl) (hD.sub (ws' := []) [] (by decide) rfl)) rfl rfl hl.1 rfl (lv_room (Nat.le_of_ble_eq_true rfl)) dX6_isPerson_3 ⟨Nat.le_of_ble_eq_true rfl, Nat.le_of_ble_eq_true rfl⟩) hP hD hS hA [] [] [] rfl rfl rfl (by decide) (by decide) (by decide) (fun H locs hP hD hS => ?_)
  refine lv_if_eq (tgt := 33) hx hb dX6_isPerson_6 (by decide) (fun c6 => ?_) (fun c6 => ?_)
  · replace hf := ip c6 hf
    refine lv_iconst (v := 0) hx hb dX6_isPerson_33 (by decide) ?_
    obtain rfl := Option.some.inj hf
    exact W.zret hx hb hr rfl (fun t ht hW => ⟨⟨_, (), rfl, rfl, by rw [ht]; exact hP, hD⟩, hS.F ht⟩) hS.2.2 dX6_isPerson_34
  · replace hf := iq c6 hf
    refine lv_iload_n hx hb dX6_isPerson_9 rfl (lv_at hl 1 rfl) ?_
    refine lv_iconst (v := 1) hx hb dX6_isPerson_10 (by decide) ?_
    refine lv_bipush (v := 20) hx hb dX6_isPerson_11 (by decide) ?_
    obtain ⟨r13, q13, hf⟩ := ob hf
    refine k_i (wc := []) (wr := []) (w1 := []) (wn := []) (va_runS (As := [.int i1, .int (1 : Int32), .int (20 : Int32)]) (rest := []) ⟨hx, hb, hml, hown, hts⟩ (c_X6_within l D cyI cyC cyS H.size i1 (1 : Int32) (20 : Int32) q13) (va_cwS 3 hts gX6_isPerson_X6_within rfl rfl rfl (by decide +kernel) ⟨Nat.le_of_ble_eq_true rfl, Nat.le_of_ble_eq_true rfl⟩) (preS hK (hP.subm (ws' := []) [] rfl) (hD.sub (ws' := []) [] (by decide) rfl)) rfl rfl hl.1 rfl (lv_room (Nat.le_of_ble_eq_true rfl)) dX6_isPerson_13 ⟨Nat.le_of_ble_eq_true rfl, Nat.le_of_ble_eq_true rfl⟩) hP hD hS hA [] [] [] rfl rfl rfl (by decide) (by decide) (by decide) (fun H locs hP hD hS => ?_)
    refine lv_if_eq (tgt := 33) hx hb dX6_isPerson_16 (by decide) (fun c16 => ?_) (fun c16 => ?_)
    · replace hf := ip c16 hf
      refine lv_iconst (v := 0) hx hb dX6_isPerson_33 (by decide) ?_
      obtain rfl := Option.some.inj hf
      exact W.zret hx hb hr rfl (fun t ht hW => ⟨⟨_, (), rfl, rfl, by rw [ht]; exact hP, hD⟩, hS.F ht⟩) hS.2.2 dX6_isPerson_34
    · replace hf := iq c16 hf
      refine lv_iload_n hx hb dX6_isPerson_19 rfl (lv_at hl 2 rfl) ?_
      refine lv_iconst (v := 1) hx hb dX6_isPerson_20 (by decide) ?_
      refine lv_bipush (v := 9) hx hb dX6_isPerson_21 (by decide) ?_
      obtain ⟨r23, q23, hf⟩ := ob hf
      refine k_i (wc := []) (wr := []) (w1 := []) (wn := []) (va_runS (As := [.int i2, .int (1 : Int32), .int (9 : Int32)]) (rest := []) ⟨hx, hb, hml, hown, hts⟩ (c_X6_within l D cyI cyC cyS H.size i2 (1 : Int32) (9 : Int32) q23) (va_cwS 3 hts gX6_isPerson_X6_within rfl rfl rfl (by decide +kernel) ⟨Nat.le_of_ble_eq_true rfl, Nat.le_of_ble_eq_true rfl⟩) (preS hK (hP.subm (ws' := []) [] rfl) (hD.sub (ws' := []) [] (by decide) rfl)) rfl rfl hl.1 rfl (lv_room (Nat.le_of_ble_eq_true rfl)) dX6_isPerson_23 ⟨Nat.le_of_ble_eq_true rfl, Nat.le_of_ble_eq_true rfl⟩) hP hD hS hA [] [] [] rfl rfl rfl (by decide) (by decide) (by decide) (fun H locs hP hD hS => ?_)
      refine lv_if_eq (tgt := 33) hx hb dX6_isPerson_26 (by decide) (fun c26 => ?_) (fun c26 => ?_)
      · replace hf := ip c26 hf
        refine lv_iconst (v := 0) hx hb dX6_isPerson_33 (by decide) ?_
        obtain rfl := Option.some.inj hf
        exact W.zret hx hb hr rfl (fun t ht hW => ⟨⟨_, (), rfl, rfl, by rw [ht]; exact hP, hD⟩, hS.F ht⟩) hS.2.2 dX6_isPerson_34
      · replace hf := iq c26 hf
        refine lv_iconst (v := 1) hx hb dX6_isPerson_29 (by decide) ?_
        refine lv_goto (tgt := 34) hx hb dX6_isPerson_30 (by decide) ?_
        obtain rfl := Option.some.inj hf
        exact W.zret hx hb hr rfl (fun t ht hW => ⟨⟨_, (), rfl, rfl, by rw [ht]; exact hP, hD⟩, hS.F ht⟩) hS.2.2 dX6_isPerson_34
abbrev rX3_becomeUntold : Room := { frames := 0, cells := 0, slots := 0, locals := 0 }
set_option maxHeartbeats 4000000 in
set_option maxRecDepth 100000 in
theorem c_X3_becomeUntold (l : Launch) (D : va_G) (cyI cyC cyS : ClassId) (sz : Nat) (ax : Nat) (ax_kind : Nat) (ax_things : Nat) (ax_feet : Nat) (x_people : Int32) (x_firstPace : Int32) (x_secondPace : Int32) (x_steps : Int32) {o_x_people : Int32} {o_x_firstPace : Int32} {o_x_secondPace : Int32} {o_x_steps : Int32} (hf : S_X3_becomeUntold = some (o_x_people, o_x_firstPace, o_x_secondPace, o_x_steps)) : Met l yX3_becomeUntold wsX3_becomeUntold rX3_becomeUntold (Cpre [.ref ax] D cyI cyC cyS sz [(ax, .inr (3, [.ref ax_kind, .ref ax_things, .ref ax_feet, .int x_people, .int x_firstPace, .int x_secondPace, .int x_steps]))]) (CQv D [(ax, .inr (3, [.ref ax_kind, .ref ax_things, .ref ax_feet, .int o_x_people, .int o_x_firstPace, .int o_x_secondPace, .int o_x_steps]))] (va_A [(ax, .inr (3, [.ref ax_kind, .ref ax_things, .ref ax_feet, .int x_people, .int x_firstPace, .int x_secondPace, .int x_steps]))] sz)) 0 0 (va_A [(ax, .inr (3, [.ref ax_kind, .ref ax_things, .ref ax_feet, .int x_people, .int x_firstPace, .int x_secondPace, .int x_steps]))] sz) := by
  refine Met.ofW (cc := cX3_becomeUntold) (maxL := 1) (ret := none) (by decide) rfl ?_
  intro p e s m args below meth c s₁ B hml hv
  obtain ⟨rfl, hsz, hP, hK, hD0⟩ := hv
  have hx := B.exec
  have hb := B.bytes
  have hr := B.returns
  have hts := atoms_spec (ws := wsX3_becomeUntold) B.pre
  have hown : s.vm.findClass RX3 = some m.cls := findClass_of_methodNamed B.named
  have hlocks := B.notSynchronized
  subst hsz
  have hD := hD0.self (sz := s.heap.size)
  generalize hAe : va_A [(ax, .inr (3, [.ref ax_kind, .ref ax_things, .ref ax_feet, .int x_people, .int x_firstPace, .int x_secondPace, .int x_steps]))] s.heap.size = A at hD ⊢
  have hA : ∀ q : Nat, s.heap.size ≤ q → A q := fun q h => by rw [← hAe]; exact Or.inr h
  have hS : va_S A s.heap s.heap [] := va_S.rf
  have hl := lv_entry ([.ref ax]) (n := 1) (Nat.le_of_ble_eq_true rfl)
  rw [lg_entry_eq]
  generalize (lg_sl ([.ref ax]) ++ List.replicate (1 - (lg_sl ([.ref ax])).length) Slot.unset).toArray = ls at hl ⊢
  have hl : lv_has ls 1 [(0, .ref ax)] := hl
  have f31 := hts (.fieldLink RX3 31 "SecondTill$Shop" "people" "I") (by decide +kernel)
  have inX3 : ∀ w ∈ u_ws RX3 TX3 7, w ∈ wsX3_becomeUntold := by decide +kernel
  have f21 := hts (.fieldLink RX3 21 "SecondTill$Shop" "firstPace" "I") (by decide +kernel)
  have f25 := hts (.fieldLink RX3 25 "SecondTill$Shop" "secondPace" "I") (by decide +kernel)
  have f28 := hts (.fieldLink RX3 28 "SecondTill$Shop" "steps" "I") (by decide +kernel)
  unfold S_X3_becomeUntold at hf
  have hP : va_P D vwCl [(ax, .inr (3, [.ref ax_kind, .ref ax_things, .ref ax_feet, .int x_people, .int x_firstPace, .int x_secondPace, .int x_steps]))] s.heap := hP
  suffices hgo : ∀ (H : Heap) (locs : List Loc), va_P D vwCl [(ax, .inr (3, [.ref ax_kind, .ref ax_things, .ref ax_feet, .int x_people, .int x_firstPace, .int x_secondPace, .int x_steps]))] H → va_S A s.heap H locs → W p l e rX3_becomeUntold s m (([.ref ax] : List Value).toArray) below meth c H locs 0 0 (MQ below (CQv D [(ax, .inr (3, [.ref ax_kind, .ref ax_things, .ref ax_feet, .int o_x_people, .int o_x_firstPace, .int o_x_secondPace, .int o_x_steps]))] A) (([.ref ax] : List Value).toArray) s 0 0 A) (F0 m 0 ls []) from hgo _ _ hP hS
  clear hP hS
  intro H locs hP hS
  refine lv_aload_n hx hb dX3_becomeUntold_0 rfl (lv_at hl 0 rfl) ?_
  refine lv_iconst (v := 0) hx hb dX3_becomeUntold_1 (by decide) ?_
  refine a_put (C := RX3) (T := TX3) (N := 7) (wn := [(ax, .inr (3, [.ref ax_kind, .ref ax_things, .ref ax_feet, .int (0 : Int32), .int x_firstPace, .int x_secondPace, .int x_steps]))]) hx hb hts inX3 tyX3 tyX3_ok nmX3 hown hK hP hD hS 0 rfl rfl 3 (by decide) f31 (fun _ h9 => h9) rfl rfl (Nat.le_of_ble_eq_true rfl) rfl dX3_becomeUntold_2 (fun H locs hP hD hS => ?_)
  refine lv_aload_n hx hb dX3_becomeUntold_5 rfl (lv_at hl 0 rfl) ?_
  refine lv_iconst (v := 2) hx hb dX3_becomeUntold_6 (by decide) ?_
  refine a_put (C := RX3) (T := TX3) (N := 7) (wn := [(ax, .inr (3, [.ref ax_kind, .ref ax_things, .ref ax_feet, .int (0 : Int32), .int (2 : Int32), .int x_secondPace, .int x_steps]))]) hx hb hts inX3 tyX3 tyX3_ok nmX3 hown hK hP hD hS 0 rfl rfl 4 (by decide) f21 (fun _ h9 => h9) rfl rfl (Nat.le_of_ble_eq_true rfl) rfl dX3_becomeUntold_7 (fun H locs hP hD hS => ?_)
  refine lv_aload_n hx hb dX3_becomeUntold_10 rfl (lv_at hl 0 rfl) ?_
  refine lv_iconst (v := 2) hx hb dX3_becomeUntold_11 (by decide) ?_
  refine a_put (C := RX3) (T := TX3) (N := 7) (wn := [(ax, .inr (3, [.ref ax_kind, .ref ax_things, .ref ax_feet, .int (0 : Int32), .int (2 : Int32), .int (2 : Int32), .int x_steps]))]) hx hb hts inX3 tyX3 tyX3_ok nmX3 hown hK hP hD hS 0 rfl rfl 5 (by decide) f25 (fun _ h9 => h9) rfl rfl (Nat.le_of_ble_eq_true rfl) rfl dX3_becomeUntold_12 (fun H locs hP hD hS => ?_)
  refine lv_aload_n hx hb dX3_becomeUntold_15 rfl (lv_at hl 0 rfl) ?_
  refine lv_iconst (v := 2) hx hb dX3_becomeUntold_16 (by decide) ?_
  refine a_put (C := RX3) (T := TX3) (N := 7) (wn := [(ax, .inr (3, [.ref ax_kind, .ref ax_things, .ref ax_feet, .int (0 : Int32), .int (2 : Int32), .int (2 : Int32), .int (2 : Int32)]))]) hx hb hts inX3 tyX3 tyX3_ok nmX3 hown hK hP hD hS 0 rfl rfl 6 (by decide) f28 (fun _ h9 => h9) rfl rfl (Nat.le_of_ble_eq_true rfl) rfl dX3_becomeUntold_17 (fun H locs hP hD hS => ?_)
  simp only [Option.some.injEq, Prod.mk.injEq] at hf
  obtain ⟨rfl, rfl, rfl, rfl⟩ := hf
  exact W.vret hx hb hr (fun t ht hW => ⟨⟨(), rfl, trivial, by rw [ht]; exact hP, hD⟩, hS.F ht⟩) hS.2.2 dX3_becomeUntold_20
abbrev rX3_becomeLike : Room := { frames := 0, cells := 0, slots := 0, locals := 0 }
set_option maxHeartbeats 4000000 in
set_option maxRecDepth 100000 in
theorem c_X3_becomeLike (l : Launch) (D : va_G) (cyI cyC cyS : ClassId) (sz : Nat) (ax : Nat) (ay : Nat) (ax_kind : Nat) (ax_things : Nat) (ax_feet : Nat) (ay_kind : Nat) (ay_things : Nat) (ay_feet : Nat) (x_people : Int32) (x_firstPace : Int32) (x_secondPace : Int32) (x_steps : Int32) (y_people : Int32) (y_firstPace : Int32) (y_secondPace : Int32) (y_steps : Int32) (y_kind : Nat → Int32) (x_kind : Nat → Int32) (y_things : Nat → Int32) (x_things : Nat → Int32) (y_feet : Nat → Int32) (x_feet : Nat → Int32) {o_x_people : Int32} {o_x_firstPace : Int32} {o_x_secondPace : Int32} {o_x_steps : Int32} {o_x_kind : Nat → Int32} {o_x_things : Nat → Int32} {o_x_feet : Nat → Int32} (hf : S_X3_becomeLike y_people y_firstPace y_secondPace y_steps y_kind x_kind y_things x_things y_feet x_feet = some (o_x_people, o_x_firstPace, o_x_secondPace, o_x_steps, o_x_kind, o_x_things, o_x_feet)) : Met l yX3_becomeLike wsX3_becomeLike rX3_becomeLike (Cpre [.ref ax, .ref ay] D cyI cyC cyS sz [(ax, .inr (3, [.ref ax_kind, .ref ax_things, .ref ax_feet, .int x_people, .int x_firstPace, .int x_secondPace, .int x_steps])), (ay, .inr (3, [.ref ay_kind, .ref ay_things, .ref ay_feet, .int y_people, .int y_firstPace, .int y_secondPace, .int y_steps])), (ay_kind, .inl (cyI, 8, .inl y_kind)), (ax_kind, .inl (cyI, 8, .inl x_kind)), (ay_things, .inl (cyI, 8, .inl y_things)), (ax_things, .inl (cyI, 8, .inl x_things)), (ay_feet, .inl (cyI, 8, .inl y_feet)), (ax_feet, .inl (cyI, 8, .inl x_feet))]) (CQv D [(ax, .inr (3, [.ref ax_kind, .ref ax_things, .ref ax_feet, .int o_x_people, .int o_x_firstPace, .int o_x_secondPace, .int o_x_steps])), (ay, .inr (3, [.ref ay_kind, .ref ay_things, .ref ay_feet, .int y_people, .int y_firstPace, .int y_secondPace, .int y_steps])), (ay_kind, .inl (cyI, 8, .inl y_kind)), (ax_kind, .inl (cyI, 8, .inl o_x_kind)), (ay_things, .inl (cyI, 8, .inl y_things)), (ax_things, .inl (cyI, 8, .inl o_x_things)), (ay_feet, .inl (cyI, 8, .inl y_feet)), (ax_feet, .inl (cyI, 8, .inl o_x_feet))] (va_A [(ax, .inr (3, [.ref ax_kind, .ref ax_things, .ref ax_feet, .int x_people, .int x_firstPace, .int x_secondPace, .int x_steps])), (ay, .inr (3, [.ref ay_kind, .ref ay_things, .ref ay_feet, .int y_people, .int y_firstPace, .int y_secondPace, .int y_steps])), (ay_kind, .inl (cyI, 8, .inl y_kind)), (ax_kind, .inl (cyI, 8, .inl x_kind)), (ay_things, .inl (cyI, 8, .inl y_things)), (ax_things, .inl (cyI, 8, .inl x_things)), (ay_feet, .inl (cyI, 8, .inl y_feet)), (ax_feet, .inl (cyI, 8, .inl x_feet))] sz)) 0 0 (va_A [(ax, .inr (3, [.ref ax_kind, .ref ax_things, .ref ax_feet, .int x_people, .int x_firstPace, .int x_secondPace, .int x_steps])), (ay, .inr (3, [.ref ay_kind, .ref ay_things, .ref ay_feet, .int y_people, .int y_firstPace, .int y_secondPace, .int y_steps])), (ay_kind, .inl (cyI, 8, .inl y_kind)), (ax_kind, .inl (cyI, 8, .inl x_kind)), (ay_things, .inl (cyI, 8, .inl y_things)), (ax_things, .inl (cyI, 8, .inl x_things)), (ay_feet, .inl (cyI, 8, .inl y_feet)), (ax_feet, .inl (cyI, 8, .inl x_feet))] sz) := by
  refine Met.ofW (cc := cX3_becomeLike) (maxL := 3) (ret := none) (by decide) rfl ?_
  intro p e s m args below meth c s₁ B hml hv
  obtain ⟨rfl, hsz, hP, hK, hD0⟩ := hv
  have hx := B.exec
  have hb := B.bytes
  have hr := B.returns
  have hts := atoms_spec (ws := wsX3_becomeLike) B.pre
  have hown : s.vm.findClass RX3 = some m.cls := findClass_of_methodNamed B.named
  have hlocks := B.notSynchronized
  subst hsz
  have hD := hD0.self (sz := s.heap.size)
  generalize hAe : va_A [(ax, .inr (3, [.ref ax_kind, .ref ax_things, .ref ax_feet, .int x_people, .int x_firstPace, .int x_secondPace, .int x_steps])), (ay, .inr (3, [.ref ay_kind, .ref ay_things, .ref ay_feet, .int y_people, .int y_firstPace, .int y_secondPace, .int y_steps])), (ay_kind, .inl (cyI, 8, .inl y_kind)), (ax_kind, .inl (cyI, 8, .inl x_kind)), (ay_things, .inl (cyI, 8, .inl y_things)), (ax_things, .inl (cyI, 8, .inl x_things)), (ay_feet, .inl (cyI, 8, .inl y_feet)), (ax_feet, .inl (cyI, 8, .inl x_feet))] s.heap.size = A at hD ⊢
  have hA : ∀ q : Nat, s.heap.size ≤ q → A q := fun q h => by rw [← hAe]; exact Or.inr h
  have hS : va_S A s.heap s.heap [] := va_S.rf
  have hl := lv_entry ([.ref ax, .ref ay]) (n := 3) (Nat.le_of_ble_eq_true rfl)
  rw [lg_entry_eq]
  generalize (lg_sl ([.ref ax, .ref ay]) ++ List.replicate (3 - (lg_sl ([.ref ax, .ref ay])).length) Slot.unset).toArray = ls at hl ⊢
  have hl : lv_has ls 3 [(0, .ref ax), (1, .ref ay)] := hl
  have f31 := hts (.fieldLink RX3 31 "SecondTill$Shop" "people" "I") (by decide +kernel)
  have inX3 : ∀ w ∈ u_ws RX3 TX3 7, w ∈ wsX3_becomeLike := by decide +kernel
  have f21 := hts (.fieldLink RX3 21 "SecondTill$Shop" "firstPace" "I") (by decide +kernel)
  have f25 := hts (.fieldLink RX3 25 "SecondTill$Shop" "secondPace" "I") (by decide +kernel)
  have f28 := hts (.fieldLink RX3 28 "SecondTill$Shop" "steps" "I") (by decide +kernel)
  have f9 := hts (.fieldLink RX3 9 "SecondTill$Shop" "kind" "[I") (by decide +kernel)
  have f15 := hts (.fieldLink RX3 15 "SecondTill$Shop" "things" "[I") (by decide +kernel)
  have f18 := hts (.fieldLink RX3 18 "SecondTill$Shop" "feet" "[I") (by decide +kernel)
  unfold S_X3_becomeLike at hf
  have hP : va_P D vwCl [(ax, .inr (3, [.ref ax_kind, .ref ax_things, .ref ax_feet, .int x_people, .int x_firstPace, .int x_secondPace, .int x_steps])), (ay, .inr (3, [.ref ay_kind, .ref ay_things, .ref ay_feet, .int y_people, .int y_firstPace, .int y_secondPace, .int y_steps])), (ay_kind, .inl (cyI, 8, .inl y_kind)), (ax_kind, .inl (cyI, 8, .inl x_kind)), (ay_things, .inl (cyI, 8, .inl y_things)), (ax_things, .inl (cyI, 8, .inl x_things)), (ay_feet, .inl (cyI, 8, .inl y_feet)), (ax_feet, .inl (cyI, 8, .inl x_feet))] s.heap := hP
  suffices hgo : ∀ (H : Heap) (locs : List Loc), va_P D vwCl [(ax, .inr (3, [.ref ax_kind, .ref ax_things, .ref ax_feet, .int x_people, .int x_firstPace, .int x_secondPace, .int x_steps])), (ay, .inr (3, [.ref ay_kind, .ref ay_things, .ref ay_feet, .int y_people, .int y_firstPace, .int y_secondPace, .int y_steps])), (ay_kind, .inl (cyI, 8, .inl y_kind)), (ax_kind, .inl (cyI, 8, .inl x_kind)), (ay_things, .inl (cyI, 8, .inl y_things)), (ax_things, .inl (cyI, 8, .inl x_things)), (ay_feet, .inl (cyI, 8, .inl y_feet)), (ax_feet, .inl (cyI, 8, .inl x_feet))] H → va_S A s.heap H locs → W p l e rX3_becomeLike s m (([.ref ax, .ref ay] : List Value).toArray) below meth c H locs 0 0 (MQ below (CQv D [(ax, .inr (3, [.ref ax_kind, .ref ax_things, .ref ax_feet, .int o_x_people, .int o_x_firstPace, .int o_x_secondPace, .int o_x_steps])), (ay, .inr (3, [.ref ay_kind, .ref ay_things, .ref ay_feet, .int y_people, .int y_firstPace, .int y_secondPace, .int y_steps])), (ay_kind, .inl (cyI, 8, .inl y_kind)), (ax_kind, .inl (cyI, 8, .inl o_x_kind)), (ay_things, .inl (cyI, 8, .inl y_things)), (ax_things, .inl (cyI, 8, .inl o_x_things)), (ay_feet, .inl (cyI, 8, .inl y_feet)), (ax_feet, .inl (cyI, 8, .inl o_x_feet))] A) (([.ref ax, .ref ay] : List Value).toArray) s 0 0 A) (F0 m 0 ls []) from hgo _ _ hP hS
  clear hP hS
  intro H locs hP hS
  refine lv_aload_n hx hb dX3_becomeLike_0 rfl (lv_at hl 0 rfl) ?_
  refine lv_aload_n hx hb dX3_becomeLike_1 rfl (lv_at hl 1 rfl) ?_
  refine va_get (C := RX3) (T := TX3) (N := 7) hx hb hts inX3 hown hK.1 hP 1 rfl rfl 3 (by decide) f31 (fun _ h9 => h9) rfl dX3_becomeLike_2 ?_
  refine a_put (C := RX3) (T := TX3) (N := 7) (wn := [(ax, .inr (3, [.ref ax_kind, .ref ax_things, .ref ax_feet, .int y_people, .int x_firstPace, .int x_secondPace, .int x_steps])), (ay, .inr (3, [.ref ay_kind, .ref ay_things, .ref ay_feet, .int y_people, .int y_firstPace, .int y_secondPace, .int y_steps])), (ay_kind, .inl (cyI, 8, .inl y_kind)), (ax_kind, .inl (cyI, 8, .inl x_kind)), (ay_things, .inl (cyI, 8, .inl y_things)), (ax_things, .inl (cyI, 8, .inl x_things)), (ay_feet, .inl (cyI, 8, .inl y_feet)), (ax_feet, .inl (cyI, 8, .inl x_feet))]) hx hb hts inX3 tyX3 tyX3_ok nmX3 hown hK hP hD hS 0 rfl rfl 3 (by decide) f31 (fun _ h9 => h9) rfl rfl (Nat.le_of_ble_eq_true rfl) rfl dX3_becomeLike_5 (fun H locs hP hD hS => ?_)
  refine lv_aload_n hx hb dX3_becomeLike_8 rfl (lv_at hl 0 rfl) ?_
  refine lv_aload_n hx hb dX3_becomeLike_9 rfl (lv_at hl 1 rfl) ?_
  refine va_get (C := RX3) (T := TX3) (N := 7) hx hb hts inX3 hown hK.1 hP 1 rfl rfl 4 (by decide) f21 (fun _ h9 => h9) rfl dX3_becomeLike_10 ?_
  refine a_put (C := RX3) (T := TX3) (N := 7) (wn := [(ax, .inr (3, [.ref ax_kind, .ref ax_things, .ref ax_feet, .int y_people, .int y_firstPace, .int x_secondPace, .int x_steps])), (ay, .inr (3, [.ref ay_kind, .ref ay_things, .ref ay_feet, .int y_people, .int y_firstPace, .int y_secondPace, .int y_steps])), (ay_kind, .inl (cyI, 8, .inl y_kind)), (ax_kind, .inl (cyI, 8, .inl x_kind)), (ay_things, .inl (cyI, 8, .inl y_things)), (ax_things, .inl (cyI, 8, .inl x_things)), (ay_feet, .inl (cyI, 8, .inl y_feet)), (ax_feet, .inl (cyI, 8, .inl x_feet))]) hx hb hts inX3 tyX3 tyX3_ok nmX3 hown hK hP hD hS 0 rfl rfl 4 (by decide) f21 (fun _ h9 => h9) rfl rfl (Nat.le_of_ble_eq_true rfl) rfl dX3_becomeLike_13 (fun H locs hP hD hS => ?_)
  refine lv_aload_n hx hb dX3_becomeLike_16 rfl (lv_at hl 0 rfl) ?_
  refine lv_aload_n hx hb dX3_becomeLike_17 rfl (lv_at hl 1 rfl) ?_
  refine va_get (C := RX3) (T := TX3) (N := 7) hx hb hts inX3 hown hK.1 hP 1 rfl rfl 5 (by decide) f25 (fun _ h9 => h9) rfl dX3_becomeLike_18 ?_
  refine a_put (C := RX3) (T := TX3) (N := 7) (wn := [(ax, .inr (3, [.ref ax_kind, .ref ax_things, .ref ax_feet, .int y_people, .int y_firstPace, .int y_secondPace, .int x_steps])), (ay, .inr (3, [.ref ay_kind, .ref ay_things, .ref ay_feet, .int y_people, .int y_firstPace, .int y_secondPace, .int y_steps])), (ay_kind, .inl (cyI, 8, .inl y_kind)), (ax_kind, .inl (cyI, 8, .inl x_kind)), (ay_things, .inl (cyI, 8, .inl y_things)), (ax_things, .inl (cyI, 8, .inl x_things)), (ay_feet, .inl (cyI, 8, .inl y_feet)), (ax_feet, .inl (cyI, 8, .inl x_feet))]) hx hb hts inX3 tyX3 tyX3_ok nmX3 hown hK hP hD hS 0 rfl rfl 5 (by decide) f25 (fun _ h9 => h9) rfl rfl (Nat.le_of_ble_eq_true rfl) rfl dX3_becomeLike_21 (fun H locs hP hD hS => ?_)
  refine lv_aload_n hx hb dX3_becomeLike_24 rfl (lv_at hl 0 rfl) ?_
  refine lv_aload_n hx hb dX3_becomeLike_25 rfl (lv_at hl 1 rfl) ?_
  refine va_get (C := RX3) (T := TX3) (N := 7) hx hb hts inX3 hown hK.1 hP 1 rfl rfl 6 (by decide) f28 (fun _ h9 => h9) rfl dX3_becomeLike_26 ?_
  refine a_put (C := RX3) (T := TX3) (N := 7) (wn := [(ax, .inr (3, [.ref ax_kind, .ref ax_things, .ref ax_feet, .int y_people, .int y_firstPace, .int y_secondPace, .int y_steps])), (ay, .inr (3, [.ref ay_kind, .ref ay_things, .ref ay_feet, .int y_people, .int y_firstPace, .int y_secondPace, .int y_steps])), (ay_kind, .inl (cyI, 8, .inl y_kind)), (ax_kind, .inl (cyI, 8, .inl x_kind)), (ay_things, .inl (cyI, 8, .inl y_things)), (ax_things, .inl (cyI, 8, .inl x_things)), (ay_feet, .inl (cyI, 8, .inl y_feet)), (ax_feet, .inl (cyI, 8, .inl x_feet))]) hx hb hts inX3 tyX3 tyX3_ok nmX3 hown hK hP hD hS 0 rfl rfl 6 (by decide) f28 (fun _ h9 => h9) rfl rfl (Nat.le_of_ble_eq_true rfl) rfl dX3_becomeLike_29 (fun H locs hP hD hS => ?_)
  refine lv_iconst (v := 0) hx hb dX3_becomeLike_32 (by decide) ?_
  refine lv_istore_n (lv' := [(2, .int (0 : Int32)), (0, .ref ax), (1, .ref ay)]) hx hb dX3_becomeLike_33 rfl hl (by decide) rfl (fun ls hl => ?_)
  have hL34 : ∀ (n34 : Nat) (x_people : Int32) (x_firstPace : Int32) (x_secondPace : Int32) (x_steps : Int32) (i2 : Int32) (x_kind : Nat → Int32) (x_things : Nat → Int32) (x_feet : Nat → Int32) (H : Heap) (locs : List Loc) (ls : Array Slot), va_P D vwCl [(ax, .inr (3, [.ref ax_kind, .ref ax_things, .ref ax_feet, .int x_people, .int x_firstPace, .int x_secondPace, .int x_steps])), (ay, .inr (3, [.ref ay_kind, .ref ay_things, .ref ay_feet, .int y_people, .int y_firstPace, .int y_secondPace, .int y_steps])), (ay_kind, .inl (cyI, 8, .inl y_kind)), (ax_kind, .inl (cyI, 8, .inl x_kind)), (ay_things, .inl (cyI, 8, .inl y_things)), (ax_things, .inl (cyI, 8, .inl x_things)), (ay_feet, .inl (cyI, 8, .inl y_feet)), (ax_feet, .inl (cyI, 8, .inl x_feet))] H → va_D A [(ax, .inr (3, [.ref ax_kind, .ref ax_things, .ref ax_feet, .int x_people, .int x_firstPace, .int x_secondPace, .int x_steps])), (ay, .inr (3, [.ref ay_kind, .ref ay_things, .ref ay_feet, .int y_people, .int y_firstPace, .int y_secondPace, .int y_steps])), (ay_kind, .inl (cyI, 8, .inl y_kind)), (ax_kind, .inl (cyI, 8, .inl x_kind)), (ay_things, .inl (cyI, 8, .inl y_things)), (ax_things, .inl (cyI, 8, .inl x_things)), (ay_feet, .inl (cyI, 8, .inl y_feet)), (ax_feet, .inl (cyI, 8, .inl x_feet))] → va_S A s.heap H locs → lv_has ls 3 [(0, .ref ax), (1, .ref ay), (2, .int i2)] → S_X3_becomeLike_L34 x_people x_firstPace x_secondPace x_steps y_kind y_things y_feet n34 i2 x_kind x_things x_feet = some (o_x_people, o_x_firstPace, o_x_secondPace, o_x_steps, o_x_kind, o_x_things, o_x_feet) → W p l e rX3_becomeLike s m (([.ref ax, .ref ay] : List Value).toArray) below meth c H locs 0 0 (MQ below (CQv D [(ax, .inr (3, [.ref ax_kind, .ref ax_things, .ref ax_feet, .int o_x_people, .int o_x_firstPace, .int o_x_secondPace, .int o_x_steps])), (ay, .inr (3, [.ref ay_kind, .ref ay_things, .ref ay_feet, .int y_people, .int y_firstPace, .int y_secondPace, .int y_steps])), (ay_kind, .inl (cyI, 8, .inl y_kind)), (ax_kind, .inl (cyI, 8, .inl o_x_kind)), (ay_things, .inl (cyI, 8, .inl y_things)), (ax_things, .inl (cyI, 8, .inl o_x_things)), (ay_feet, .inl (cyI, 8, .inl y_feet)), (ax_feet, .inl (cyI, 8, .inl o_x_feet))] A) (([.ref ax, .ref ay] : List Value).toArray) s 0 0 A) (F0 m 34 ls []) := by
    intro n34
    induction n34 with
    | zero => intro x_people x_firstPace x_secondPace x_steps i2 x_kind x_things x_feet H locs ls hP hD hS hl hf; exact absurd hf (by simp [S_X3_becomeLike_L34])
    | succ n34 ih34 =>
      intro x_people x_firstPace x_secondPace x_steps i2 x_kind x_things x_feet H locs ls hP hD hS hl hf
      rw [S_X3_becomeLike_L34] at hf
      refine lv_iload_n hx hb dX3_becomeLike_34 rfl (lv_at hl 2 rfl) ?_
      refine lv_bipush (v := 8) hx hb dX3_becomeLike_35 (by decide) ?_
      refine lv_icmp_ge (tgt := 82) hx hb dX3_becomeLike_37 (by decide) (fun c37 => ?_) (fun c37 => ?_)
      · replace hf := ip c37 hf
        simp only [Option.some.injEq, Prod.mk.injEq] at hf
        obtain ⟨rfl, rfl, rfl, rfl, rfl, rfl, rfl⟩ := hf
        exact W.vret hx hb hr (fun t ht hW => ⟨⟨(), rfl, trivial, by rw [ht]; exact hP, hD⟩, hS.F ht⟩) hS.2.2 dX3_becomeLike_82
      · replace hf := iq c37 hf
        refine lv_aload_n hx hb dX3_becomeLike_40 rfl (lv_at hl 0 rfl) ?_
        refine va_get (C := RX3) (T := TX3) (N := 7) hx hb hts inX3 hown hK.1 hP 0 rfl rfl 0 (by decide) f9 (fun _ h9 => h9) rfl dX3_becomeLike_41 ?_
        refine lv_iload_n hx hb dX3_becomeLike_44 rfl (lv_at hl 2 rfl) ?_
        refine lv_aload_n hx hb dX3_becomeLike_45 rfl (lv_at hl 1 rfl) ?_
        refine va_get (C := RX3) (T := TX3) (N := 7) hx hb hts inX3 hown hK.1 hP 1 rfl rfl 0 (by decide) f9 (fun _ h9 => h9) rfl dX3_becomeLike_46 ?_
        refine lv_iload_n hx hb dX3_becomeLike_49 rfl (lv_at hl 2 rfl) ?_
        obtain ⟨z50, hf⟩ := oi hf
        refine a_ild hx hb hK hP 2 rfl z50 i2.toNatClampNeg rfl dX3_becomeLike_50 ?_
        obtain ⟨z51, hf⟩ := oi hf
        refine a_ist (wn := [(ax, .inr (3, [.ref ax_kind, .ref ax_things, .ref ax_feet, .int x_people, .int x_firstPace, .int x_secondPace, .int x_steps])), (ay, .inr (3, [.ref ay_kind, .ref ay_things, .ref ay_feet, .int y_people, .int y_firstPace, .int y_secondPace, .int y_steps])), (ay_kind, .inl (cyI, 8, .inl y_kind)), (ax_kind, .inl (cyI, 8, .inl (upd x_kind i2.toNatClampNeg (y_kind i2.toNatClampNeg)))), (ay_things, .inl (cyI, 8, .inl y_things)), (ax_things, .inl (cyI, 8, .inl x_things)), (ay_feet, .inl (cyI, 8, .inl y_feet)), (ax_feet, .inl (cyI, 8, .inl x_feet))]) hx hb hK hP hD hS 3 rfl z51 i2.toNatClampNeg rfl rfl dX3_becomeLike_51 (fun H locs hP hD hS => ?_)
        refine lv_aload_n hx hb dX3_becomeLike_52 rfl (lv_at hl 0 rfl) ?_
        refine va_get (C := RX3) (T := TX3) (N := 7) hx hb hts inX3 hown hK.1 hP 0 rfl rfl 1 (by decide) f15 (fun _ h9 => h9) rfl dX3_becomeLike_53 ?_
        refine lv_iload_n hx hb dX3_becomeLike_56 rfl (lv_at hl 2 rfl) ?_
        refine lv_aload_n hx hb dX3_becomeLike_57 rfl (lv_at hl 1 rfl) ?_
        refine va_get (C := RX3) (T := TX3) (N := 7) hx hb hts inX3 hown hK.1 hP 1 rfl rfl 1 (by decide) f15 (fun _ h9 => h9) rfl dX3_becomeLike_58 ?_
        refine lv_iload_n hx hb dX3_becomeLike_61 rfl (lv_at hl 2 rfl) ?_
        obtain ⟨z62, hf⟩ := oi hf
        refine a_ild hx hb hK hP 4 rfl z62 i2.toNatClampNeg rfl dX3_becomeLike_62 ?_
        obtain ⟨z63, hf⟩ := oi hf
        refine a_ist (wn := [(ax, .inr (3, [.ref ax_kind, .ref ax_things, .ref ax_feet, .int x_people, .int x_firstPace, .int x_secondPace, .int x_steps])), (ay, .inr (3, [.ref ay_kind, .ref ay_things, .ref ay_feet, .int y_people, .int y_firstPace, .int y_secondPace, .int y_steps])), (ay_kind, .inl (cyI, 8, .inl y_kind)), (ax_kind, .inl (cyI, 8, .inl (upd x_kind i2.toNatClampNeg (y_kind i2.toNatClampNeg)))), (ay_things, .inl (cyI, 8, .inl y_things)), (ax_things, .inl (cyI, 8, .inl (upd x_things i2.toNatClampNeg (y_things i2.toNatClampNeg)))), (ay_feet, .inl (cyI, 8, .inl y_feet)), (ax_feet, .inl (cyI, 8, .inl x_feet))]) hx hb hK hP hD hS 5 rfl z63 i2.toNatClampNeg rfl rfl dX3_becomeLike_63 (fun H locs hP hD hS => ?_)
        refine lv_aload_n hx hb dX3_becomeLike_64 rfl (lv_at hl 0 rfl) ?_
        refine va_get (C := RX3) (T := TX3) (N := 7) hx hb hts inX3 hown hK.1 hP 0 rfl rfl 2 (by decide) f18 (fun _ h9 => h9) rfl dX3_becomeLike_65 ?_
        refine lv_iload_n hx hb dX3_becomeLike_68 rfl (lv_at hl 2 rfl) ?_
        refine lv_aload_n hx hb dX3_becomeLike_69 rfl (lv_at hl 1 rfl) ?_
        refine va_get (C := RX3) (T := TX3) (N := 7) hx hb hts inX3 hown hK.1 hP 1 rfl rfl 2 (by decide) f18 (fun _ h9 => h9) rfl dX3_becomeLike_70 ?_
        refine lv_iload_n hx hb dX3_becomeLike_73 rfl (lv_at hl 2 rfl) ?_
        obtain ⟨z74, hf⟩ := oi hf
        refine a_ild hx hb hK hP 6 rfl z74 i2.toNatClampNeg rfl dX3_becomeLike_74 ?_
        obtain ⟨z75, hf⟩ := oi hf
        refine a_ist (wn := [(ax, .inr (3, [.ref ax_kind, .ref ax_things, .ref ax_feet, .int x_people, .int x_firstPace, .int x_secondPace, .int x_steps])), (ay, .inr (3, [.ref ay_kind, .ref ay_things, .ref ay_feet, .int y_people, .int y_firstPace, .int y_secondPace, .int y_steps])), (ay_kind, .inl (cyI, 8, .inl y_kind)), (ax_kind, .inl (cyI, 8, .inl (upd x_kind i2.toNatClampNeg (y_kind i2.toNatClampNeg)))), (ay_things, .inl (cyI, 8, .inl y_things)), (ax_things, .inl (cyI, 8, .inl (upd x_things i2.toNatClampNeg (y_things i2.toNatClampNeg)))), (ay_feet, .inl (cyI, 8, .inl y_feet)), (ax_feet, .inl (cyI, 8, .inl (upd x_feet i2.toNatClampNeg (y_feet i2.toNatClampNeg))))]) hx hb hK hP hD hS 7 rfl z75 i2.toNatClampNeg rfl rfl dX3_becomeLike_75 (fun H locs hP hD hS => ?_)
        refine lv_iinc (v := i2 + (1 : Int32)) (lv' := [(2, .int (i2 + (1 : Int32))), (0, .ref ax), (1, .ref ay)]) hx hb dX3_becomeLike_76 hl (k := 2) rfl rfl (by decide) rfl (fun ls hl => ?_)
        refine lv_goto (tgt := 34) hx hb dX3_becomeLike_79 (by decide) ?_
        exact ih34 x_people x_firstPace x_secondPace x_steps (i2 + (1 : Int32)) (upd x_kind i2.toNatClampNeg (y_kind i2.toNatClampNeg)) (upd x_things i2.toNatClampNeg (y_things i2.toNatClampNeg)) (upd x_feet i2.toNatClampNeg (y_feet i2.toNatClampNeg)) _ _ _ hP hD hS (lv_sub hl [1, 2, 0] rfl) hf
  exact hL34 300 y_people y_firstPace y_secondPace y_steps (0 : Int32) x_kind x_things x_feet _ _ _ hP hD hS (lv_sub hl [1, 2, 0] rfl) hf
abbrev rX3_has : Room := { frames := 0, cells := 0, slots := 0, locals := 0 }
set_option maxHeartbeats 4000000 in
set_option maxRecDepth 100000 in
theorem c_X3_has (l : Launch) (D : va_G) (cyI cyC cyS : ClassId) (sz : Nat) (ax : Nat) (ax_kind : Nat) (ax_things : Nat) (ax_feet : Nat) (x_people : Int32) (x_firstPace : Int32) (x_secondPace : Int32) (x_steps : Int32) (i1 : Int32) {r : Int32} (hf : S_X3_has i1 x_people = some r) : Met l yX3_has wsX3_has rX3_has (Cpre [.ref ax, .int i1] D cyI cyC cyS sz [(ax, .inr (3, [.ref ax_kind, .ref ax_things, .ref ax_feet, .int x_people, .int x_firstPace, .int x_secondPace, .int x_steps]))]) (CQi r D [(ax, .inr (3, [.ref ax_kind, .ref ax_things, .ref ax_feet, .int x_people, .int x_firstPace, .int x_secondPace, .int x_steps]))] (va_A [(ax, .inr (3, [.ref ax_kind, .ref ax_things, .ref ax_feet, .int x_people, .int x_firstPace, .int x_secondPace, .int x_steps]))] sz)) 0 0 (va_A [(ax, .inr (3, [.ref ax_kind, .ref ax_things, .ref ax_feet, .int x_people, .int x_firstPace, .int x_secondPace, .int x_steps]))] sz) := by
  refine Met.ofW (cc := cX3_has) (maxL := 2) (ret := (some .boolean)) (by decide) rfl ?_
  intro p e s m args below meth c s₁ B hml hv
  obtain ⟨rfl, hsz, hP, hK, hD0⟩ := hv
  have hx := B.exec
  have hb := B.bytes
  have hr := B.returns
  have hts := atoms_spec (ws := wsX3_has) B.pre
  have hown : s.vm.findClass RX3 = some m.cls := findClass_of_methodNamed B.named
  have hlocks := B.notSynchronized
  subst hsz
  have hD := hD0.self (sz := s.heap.size)
  generalize hAe : va_A [(ax, .inr (3, [.ref ax_kind, .ref ax_things, .ref ax_feet, .int x_people, .int x_firstPace, .int x_secondPace, .int x_steps]))] s.heap.size = A at hD ⊢
  have hA : ∀ q : Nat, s.heap.size ≤ q → A q := fun q h => by rw [← hAe]; exact Or.inr h
  have hS : va_S A s.heap s.heap [] := va_S.rf
  have hl := lv_entry ([.ref ax, .int i1]) (n := 2) (Nat.le_of_ble_eq_true rfl)
  rw [lg_entry_eq]
  generalize (lg_sl ([.ref ax, .int i1]) ++ List.replicate (2 - (lg_sl ([.ref ax, .int i1])).length) Slot.unset).toArray = ls at hl ⊢
  have hl : lv_has ls 2 [(0, .ref ax), (1, .int i1)] := hl
  have f31 := hts (.fieldLink RX3 31 "SecondTill$Shop" "people" "I") (by decide +kernel)
  have inX3 : ∀ w ∈ u_ws RX3 TX3 7, w ∈ wsX3_has := by decide +kernel
  unfold S_X3_has at hf
  have hP : va_P D vwCl [(ax, .inr (3, [.ref ax_kind, .ref ax_things, .ref ax_feet, .int x_people, .int x_firstPace, .int x_secondPace, .int x_steps]))] s.heap := hP
  suffices hgo : ∀ (H : Heap) (locs : List Loc), va_P D vwCl [(ax, .inr (3, [.ref ax_kind, .ref ax_things, .ref ax_feet, .int x_people, .int x_firstPace, .int x_secondPace, .int x_steps]))] H → va_S A s.heap H locs → W p l e rX3_has s m (([.ref ax, .int i1] : List Value).toArray) below meth c H locs 0 0 (MQ below (CQi r D [(ax, .inr (3, [.ref ax_kind, .ref ax_things, .ref ax_feet, .int x_people, .int x_firstPace, .int x_secondPace, .int x_steps]))] A) (([.ref ax, .int i1] : List Value).toArray) s 0 0 A) (F0 m 0 ls []) from hgo _ _ hP hS
  clear hP hS
  intro H locs hP hS
  refine lv_iload_n hx hb dX3_has_0 rfl (lv_at hl 1 rfl) ?_
  refine lv_if_lt (tgt := 16) hx hb dX3_has_1 (by decide) (fun c1 => ?_) (fun c1 => ?_)
  · replace hf := ip c1 hf
    refine lv_iconst (v := 0) hx hb dX3_has_16 (by decide) ?_
    obtain rfl := Option.some.inj hf
    exact W.zret hx hb hr rfl (fun t ht hW => ⟨⟨_, (), rfl, rfl, by rw [ht]; exact hP, hD⟩, hS.F ht⟩) hS.2.2 dX3_has_17
  · replace hf := iq c1 hf
    refine lv_iload_n hx hb dX3_has_4 rfl (lv_at hl 1 rfl) ?_
    refine lv_aload_n hx hb dX3_has_5 rfl (lv_at hl 0 rfl) ?_
    refine va_get (C := RX3) (T := TX3) (N := 7) hx hb hts inX3 hown hK.1 hP 0 rfl rfl 3 (by decide) f31 (fun _ h9 => h9) rfl dX3_has_6 ?_
    refine lv_icmp_ge (tgt := 16) hx hb dX3_has_9 (by decide) (fun c9 => ?_) (fun c9 => ?_)
    · replace hf := ip c9 hf
      refine lv_iconst (v := 0) hx hb dX3_has_16 (by decide) ?_
      obtain rfl := Option.some.inj hf
      exact W.zret hx hb hr rfl (fun t ht hW => ⟨⟨_, (), rfl, rfl, by rw [ht]; exact hP, hD⟩, hS.F ht⟩) hS.2.2 dX3_has_17
    · replace hf := iq c9 hf
      refine lv_iconst (v := 1) hx hb dX3_has_12 (by decide) ?_
      refine lv_goto (tgt := 17) hx hb dX3_has_13 (by decide) ?_
      obtain rfl := Option.some.inj hf
      exact W.zret hx hb hr rfl (fun t ht hW => ⟨⟨_, (), rfl, rfl, by rw [ht]; exact hP, hD⟩, hS.F ht⟩) hS.2.2 dX3_has_17
abbrev rX3_append : Room := { frames := 2, cells := 0, slots := 0, locals := 44 }
set_option maxHeartbeats 4000000 in
set_option maxRecDepth 100000 in
theorem c_X3_append (l : Launch) (D : va_G) (cyI cyC cyS : ClassId) (sz : Nat) (ax : Nat) (ax_kind : Nat) (ax_things : Nat) (ax_feet : Nat) (x_people : Int32) (x_firstPace : Int32) (x_secondPace : Int32) (x_steps : Int32) (x_kind : Nat → Int32) (x_things : Nat → Int32) (x_feet : Nat → Int32) (i1 : Int32) (i2 : Int32) (i3 : Int32) {r : Int32} {o_x_people : Int32} {o_x_kind : Nat → Int32} {o_x_things : Nat → Int32} {o_x_feet : Nat → Int32} (hf : S_X3_append i1 i2 i3 x_people x_kind x_things x_feet = some (r, o_x_people, o_x_kind, o_x_things, o_x_feet)) : Met l yX3_append wsX3_append rX3_append (Cpre [.ref ax, .int i1, .int i2, .int i3] D cyI cyC cyS sz [(ax, .inr (3, [.ref ax_kind, .ref ax_things, .ref ax_feet, .int x_people, .int x_firstPace, .int x_secondPace, .int x_steps])), (ax_kind, .inl (cyI, 8, .inl x_kind)), (ax_things, .inl (cyI, 8, .inl x_things)), (ax_feet, .inl (cyI, 8, .inl x_feet))]) (CQi r D [(ax, .inr (3, [.ref ax_kind, .ref ax_things, .ref ax_feet, .int o_x_people, .int x_firstPace, .int x_secondPace, .int x_steps])), (ax_kind, .inl (cyI, 8, .inl o_x_kind)), (ax_things, .inl (cyI, 8, .inl o_x_things)), (ax_feet, .inl (cyI, 8, .inl o_x_feet))] (va_A [(ax, .inr (3, [.ref ax_kind, .ref ax_things, .ref ax_feet, .int x_people, .int x_firstPace, .int x_secondPace, .int x_steps])), (ax_kind, .inl (cyI, 8, .inl x_kind)), (ax_things, .inl (cyI, 8, .inl x_things)), (ax_feet, .inl (cyI, 8, .inl x_feet))] sz)) 0 0 (va_A [(ax, .inr (3, [.ref ax_kind, .ref ax_things, .ref ax_feet, .int x_people, .int x_firstPace, .int x_secondPace, .int x_steps])), (ax_kind, .inl (cyI, 8, .inl x_kind)), (ax_things, .inl (cyI, 8, .inl x_things)), (ax_feet, .inl (cyI, 8, .inl x_feet))] sz) := by
  refine Met.ofW (cc := cX3_append) (maxL := 4) (ret := (some .boolean)) (by decide) rfl ?_
  intro p e s m args below meth c s₁ B hml hv
  obtain ⟨rfl, hsz, hP, hK, hD0⟩ := hv
  have hx := B.exec
  have hb := B.bytes
  have hr := B.returns
  have hts := atoms_spec (ws := wsX3_append) B.pre
  have hown : s.vm.findClass RX3 = some m.cls := findClass_of_methodNamed B.named
  have hlocks := B.notSynchronized
  subst hsz
  have hD := hD0.self (sz := s.heap.size)
  generalize hAe : va_A [(ax, .inr (3, [.ref ax_kind, .ref ax_things, .ref ax_feet, .int x_people, .int x_firstPace, .int x_secondPace, .int x_steps])), (ax_kind, .inl (cyI, 8, .inl x_kind)), (ax_things, .inl (cyI, 8, .inl x_things)), (ax_feet, .inl (cyI, 8, .inl x_feet))] s.heap.size = A at hD ⊢
  have hA : ∀ q : Nat, s.heap.size ≤ q → A q := fun q h => by rw [← hAe]; exact Or.inr h
  have hS : va_S A s.heap s.heap [] := va_S.rf
  have hl := lv_entry ([.ref ax, .int i1, .int i2, .int i3]) (n := 4) (Nat.le_of_ble_eq_true rfl)
  rw [lg_entry_eq]
  generalize (lg_sl ([.ref ax, .int i1, .int i2, .int i3]) ++ List.replicate (4 - (lg_sl ([.ref ax, .int i1, .int i2, .int i3])).length) Slot.unset).toArray = ls at hl ⊢
  have hl : lv_has ls 4 [(0, .ref ax), (1, .int i1), (2, .int i2), (3, .int i3)] := hl
  have f31 := hts (.fieldLink RX3 31 "SecondTill$Shop" "people" "I") (by decide +kernel)
  have inX3 : ∀ w ∈ u_ws RX3 TX3 7, w ∈ wsX3_append := by decide +kernel
  have st_X6_isPerson := hts (.static yX6_isPerson) (by decide +kernel)
  have iniRX6 := hts (.initialized RX6) (by decide +kernel)
  have f9 := hts (.fieldLink RX3 9 "SecondTill$Shop" "kind" "[I") (by decide +kernel)
  have f15 := hts (.fieldLink RX3 15 "SecondTill$Shop" "things" "[I") (by decide +kernel)
  have f18 := hts (.fieldLink RX3 18 "SecondTill$Shop" "feet" "[I") (by decide +kernel)
  unfold S_X3_append at hf
  have hP : va_P D vwCl [(ax, .inr (3, [.ref ax_kind, .ref ax_things, .ref ax_feet, .int x_people, .int x_firstPace, .int x_secondPace, .int x_steps])), (ax_kind, .inl (cyI, 8, .inl x_kind)), (ax_things, .inl (cyI, 8, .inl x_things)), (ax_feet, .inl (cyI, 8, .inl x_feet))] s.heap := hP
  suffices hgo : ∀ (H : Heap) (locs : List Loc), va_P D vwCl [(ax, .inr (3, [.ref ax_kind, .ref ax_things, .ref ax_feet, .int x_people, .int x_firstPace, .int x_secondPace, .int x_steps])), (ax_kind, .inl (cyI, 8, .inl x_kind)), (ax_things, .inl (cyI, 8, .inl x_things)), (ax_feet, .inl (cyI, 8, .inl x_feet))] H → va_S A s.heap H locs → W p l e rX3_append s m (([.ref ax, .int i1, .int i2, .int i3] : List Value).toArray) below meth c H locs 0 0 (MQ below (CQi r D [(ax, .inr (3, [.ref ax_kind, .ref ax_things, .ref ax_feet, .int o_x_people, .int x_firstPace, .int x_secondPace, .int x_steps])), (ax_kind, .inl (cyI, 8, .inl o_x_kind)), (ax_things, .inl (cyI, 8, .inl o_x_things)), (ax_feet, .inl (cyI, 8, .inl o_x_feet))] A) (([.ref ax, .int i1, .int i2, .int i3] : List Value).toArray) s 0 0 A) (F0 m 0 ls []) from hgo _ _ hP hS
  clear hP hS
  intro H locs hP hS
  refine lv_aload_n hx hb dX3_append_0 rfl (lv_at hl 0 rfl) ?_
  refine va_get (C := RX3) (T := TX3) (N := 7) hx hb hts inX3 hown hK.1 hP 0 rfl rfl 3 (by decide) f31 (fun _ h9 => h9) rfl dX3_append_1 ?_
  refine lv_bipush (v := 8) hx hb dX3_append_4 (by decide) ?_
  refine lv_icmp_ge (tgt := 18) hx hb dX3_append_6 (by decide) (fun c6 => ?_) (fun c6 => ?_)
  · replace hf := ip c6 hf
    refine lv_iconst (v := 0) hx hb dX3_append_18 (by decide) ?_
    simp only [Option.some.injEq, Prod.mk.injEq] at hf
    obtain ⟨rfl, rfl, rfl, rfl, rfl⟩ := hf
    exact W.zret hx hb hr rfl (fun t ht hW => ⟨⟨_, (), rfl, rfl, by rw [ht]; exact hP, hD⟩, hS.F ht⟩) hS.2.2 dX3_append_19
  · replace hf := iq c6 hf
    refine lv_iload_n hx hb dX3_append_9 rfl (lv_at hl 1 rfl) ?_
    refine lv_iload_n hx hb dX3_append_10 rfl (lv_at hl 2 rfl) ?_
    refine lv_iload_n hx hb dX3_append_11 rfl (lv_at hl 3 rfl) ?_
    obtain ⟨r12, q12, hf⟩ := ob hf
    refine k_i (wc := []) (wr := [(ax, .inr (3, [.ref ax_kind, .ref ax_things, .ref ax_feet, .int x_people, .int x_firstPace, .int x_secondPace, .int x_steps])), (ax_kind, .inl (cyI, 8, .inl x_kind)), (ax_things, .inl (cyI, 8, .inl x_things)), (ax_feet, .inl (cyI, 8, .inl x_feet))]) (w1 := []) (wn := [(ax, .inr (3, [.ref ax_kind, .ref ax_things, .ref ax_feet, .int x_people, .int x_firstPace, .int x_secondPace, .int x_steps])), (ax_kind, .inl (cyI, 8, .inl x_kind)), (ax_things, .inl (cyI, 8, .inl x_things)), (ax_feet, .inl (cyI, 8, .inl x_feet))]) (va_runSN (As := [.int i1, .int i2, .int i3]) (rest := []) ⟨hx, hb, hml, hown, hts⟩ (c_X6_isPerson l D cyI cyC cyS H.size i1 i2 i3 q12) ⟨va_cnB 3 hts gX3_append_X6_isPerson_n34 rfl rfl rfl hK.2.1.2.2.2.2.2.2.2.1 iniRX6 (by decide +kernel) ⟨Nat.le_of_ble_eq_true rfl, Nat.le_of_ble_eq_true rfl⟩, st_X6_isPerson, trivial⟩ (preS hK (hP.subm (ws' := []) [] rfl) (hD.sub (ws' := []) [] (by decide) rfl)) rfl rfl hl.1 rfl (lv_room (Nat.le_of_ble_eq_true rfl)) dX3_append_12 ⟨Nat.le_of_ble_eq_true rfl, Nat.le_of_ble_eq_true rfl⟩) hP hD hS hA [] [0, 1, 2, 3] [0, 1, 2, 3] rfl rfl rfl (by decide) (by decide) (by decide) (fun H locs hP hD hS => ?_)
    refine lv_if_ne (tgt := 20) hx hb dX3_append_15 (by decide) (fun c15 => ?_) (fun c15 => ?_)
    · replace hf := iq c15 hf
      refine lv_aload_n hx hb dX3_append_20 rfl (lv_at hl 0 rfl) ?_
      refine va_get (C := RX3) (T := TX3) (N := 7) hx hb hts inX3 hown hK.1 hP 0 rfl rfl 0 (by decide) f9 (fun _ h9 => h9) rfl dX3_append_21 ?_
      refine lv_aload_n hx hb dX3_append_24 rfl (lv_at hl 0 rfl) ?_
      refine va_get (C := RX3) (T := TX3) (N := 7) hx hb hts inX3 hown hK.1 hP 0 rfl rfl 3 (by decide) f31 (fun _ h9 => h9) rfl dX3_append_25 ?_
      refine lv_iload_n hx hb dX3_append_28 rfl (lv_at hl 1 rfl) ?_
      obtain ⟨z29, hf⟩ := oi hf
      refine a_ist (wn := [(ax, .inr (3, [.ref ax_kind, .ref ax_things, .ref ax_feet, .int x_people, .int x_firstPace, .int x_secondPace, .int x_steps])), (ax_kind, .inl (cyI, 8, .inl (upd x_kind x_people.toNatClampNeg i1))), (ax_things, .inl (cyI, 8, .inl x_things)), (ax_feet, .inl (cyI, 8, .inl x_feet))]) hx hb hK hP hD hS 1 rfl z29 x_people.toNatClampNeg rfl rfl dX3_append_29 (fun H locs hP hD hS => ?_)
      refine lv_aload_n hx hb dX3_append_30 rfl (lv_at hl 0 rfl) ?_
      refine va_get (C := RX3) (T := TX3) (N := 7) hx hb hts inX3 hown hK.1 hP 0 rfl rfl 1 (by decide) f15 (fun _ h9 => h9) rfl dX3_append_31 ?_
      refine lv_aload_n hx hb dX3_append_34 rfl (lv_at hl 0 rfl) ?_
      refine va_get (C := RX3) (T := TX3) (N := 7) hx hb hts inX3 hown hK.1 hP 0 rfl rfl 3 (by decide) f31 (fun _ h9 => h9) rfl dX3_append_35 ?_
      refine lv_iload_n hx hb dX3_append_38 rfl (lv_at hl 2 rfl) ?_
      obtain ⟨z39, hf⟩ := oi hf
      refine a_ist (wn := [(ax, .inr (3, [.ref ax_kind, .ref ax_things, .ref ax_feet, .int x_people, .int x_firstPace, .int x_secondPace, .int x_steps])), (ax_kind, .inl (cyI, 8, .inl (upd x_kind x_people.toNatClampNeg i1))), (ax_things, .inl (cyI, 8, .inl (upd x_things x_people.toNatClampNeg i2))), (ax_feet, .inl (cyI, 8, .inl x_feet))]) hx hb hK hP hD hS 2 rfl z39 x_people.toNatClampNeg rfl rfl dX3_append_39 (fun H locs hP hD hS => ?_)
      refine lv_aload_n hx hb dX3_append_40 rfl (lv_at hl 0 rfl) ?_
      refine va_get (C := RX3) (T := TX3) (N := 7) hx hb hts inX3 hown hK.1 hP 0 rfl rfl 2 (by decide) f18 (fun _ h9 => h9) rfl dX3_append_41 ?_
      refine lv_aload_n hx hb dX3_append_44 rfl (lv_at hl 0 rfl) ?_
      refine va_get (C := RX3) (T := TX3) (N := 7) hx hb hts inX3 hown hK.1 hP 0 rfl rfl 3 (by decide) f31 (fun _ h9 => h9) rfl dX3_append_45 ?_
      refine lv_iload_n hx hb dX3_append_48 rfl (lv_at hl 3 rfl) ?_
      obtain ⟨z49, hf⟩ := oi hf
      refine a_ist (wn := [(ax, .inr (3, [.ref ax_kind, .ref ax_things, .ref ax_feet, .int x_people, .int x_firstPace, .int x_secondPace, .int x_steps])), (ax_kind, .inl (cyI, 8, .inl (upd x_kind x_people.toNatClampNeg i1))), (ax_things, .inl (cyI, 8, .inl (upd x_things x_people.toNatClampNeg i2))), (ax_feet, .inl (cyI, 8, .inl (upd x_feet x_people.toNatClampNeg i3)))]) hx hb hK hP hD hS 3 rfl z49 x_people.toNatClampNeg rfl rfl dX3_append_49 (fun H locs hP hD hS => ?_)
      refine lv_aload_n hx hb dX3_append_50 rfl (lv_at hl 0 rfl) ?_
      refine lv_dup hx hb dX3_append_51 rfl ?_
      refine va_get (C := RX3) (T := TX3) (N := 7) hx hb hts inX3 hown hK.1 hP 0 rfl rfl 3 (by decide) f31 (fun _ h9 => h9) rfl dX3_append_52 ?_
      refine lv_iconst (v := 1) hx hb dX3_append_55 (by decide) ?_
      refine lv_iadd hx hb dX3_append_56 ?_
      refine a_put (C := RX3) (T := TX3) (N := 7) (wn := [(ax, .inr (3, [.ref ax_kind, .ref ax_things, .ref ax_feet, .int (x_people + (1 : Int32)), .int x_firstPace, .int x_secondPace, .int x_steps])), (ax_kind, .inl (cyI, 8, .inl (upd x_kind x_people.toNatClampNeg i1))), (ax_things, .inl (cyI, 8, .inl (upd x_things x_people.toNatClampNeg i2))), (ax_feet, .inl (cyI, 8, .inl (upd x_feet x_people.toNatClampNeg i3)))]) hx hb hts inX3 tyX3 tyX3_ok nmX3 hown hK hP hD hS 0 rfl rfl 3 (by decide) f31 (fun _ h9 => h9) rfl rfl (Nat.le_of_ble_eq_true rfl) rfl dX3_append_57 (fun H locs hP hD hS => ?_)
      refine lv_iconst (v := 1) hx hb dX3_append_60 (by decide) ?_
      simp only [Option.some.injEq, Prod.mk.injEq] at hf
      obtain ⟨rfl, rfl, rfl, rfl, rfl⟩ := hf
      exact W.zret hx hb hr rfl (fun t ht hW => ⟨⟨_, (), rfl, rfl, by rw [ht]; exact hP, hD⟩, hS.F ht⟩) hS.2.2 dX3_append_61
    · replace hf := ip c15 hf
      refine lv_iconst (v := 0) hx hb dX3_append_18 (by decide) ?_
      simp only [Option.some.injEq, Prod.mk.injEq] at hf
      obtain ⟨rfl, rfl, rfl, rfl, rfl⟩ := hf
      exact W.zret hx hb hr rfl (fun t ht hW => ⟨⟨_, (), rfl, rfl, by rw [ht]; exact hP, hD⟩, hS.F ht⟩) hS.2.2 dX3_append_19
abbrev rX3_setPaces : Room := { frames := 1, cells := 0, slots := 0, locals := 22 }
set_option maxHeartbeats 4000000 in
set_option maxRecDepth 100000 in
theorem c_X3_setPaces (l : Launch) (D : va_G) (cyI cyC cyS : ClassId) (sz : Nat) (ax : Nat) (ax_kind : Nat) (ax_things : Nat) (ax_feet : Nat) (x_people : Int32) (x_firstPace : Int32) (x_secondPace : Int32) (x_steps : Int32) (i1 : Int32) (i2 : Int32) {r : Int32} {o_x_firstPace : Int32} {o_x_secondPace : Int32} (hf : S_X3_setPaces i1 i2 x_firstPace x_secondPace = some (r, o_x_firstPace, o_x_secondPace)) : Met l yX3_setPaces wsX3_setPaces rX3_setPaces (Cpre [.ref ax, .int i1, .int i2] D cyI cyC cyS sz [(ax, .inr (3, [.ref ax_kind, .ref ax_things, .ref ax_feet, .int x_people, .int x_firstPace, .int x_secondPace, .int x_steps]))]) (CQi r D [(ax, .inr (3, [.ref ax_kind, .ref ax_things, .ref ax_feet, .int x_people, .int o_x_firstPace, .int o_x_secondPace, .int x_steps]))] (va_A [(ax, .inr (3, [.ref ax_kind, .ref ax_things, .ref ax_feet, .int x_people, .int x_firstPace, .int x_secondPace, .int x_steps]))] sz)) 0 0 (va_A [(ax, .inr (3, [.ref ax_kind, .ref ax_things, .ref ax_feet, .int x_people, .int x_firstPace, .int x_secondPace, .int x_steps]))] sz) := by
  refine Met.ofW (cc := cX3_setPaces) (maxL := 3) (ret := (some .boolean)) (by decide) rfl ?_
  intro p e s m args below meth c s₁ B hml hv
  obtain ⟨rfl, hsz, hP, hK, hD0⟩ := hv
  have hx := B.exec
  have hb := B.bytes
  have hr := B.returns
  have hts := atoms_spec (ws := wsX3_setPaces) B.pre
  have hown : s.vm.findClass RX3 = some m.cls := findClass_of_methodNamed B.named
  have hlocks := B.notSynchronized
  subst hsz
  have hD := hD0.self (sz := s.heap.size)
  generalize hAe : va_A [(ax, .inr (3, [.ref ax_kind, .ref ax_things, .ref ax_feet, .int x_people, .int x_firstPace, .int x_secondPace, .int x_steps]))] s.heap.size = A at hD ⊢
  have hA : ∀ q : Nat, s.heap.size ≤ q → A q := fun q h => by rw [← hAe]; exact Or.inr h
  have hS : va_S A s.heap s.heap [] := va_S.rf
  have hl := lv_entry ([.ref ax, .int i1, .int i2]) (n := 3) (Nat.le_of_ble_eq_true rfl)
  rw [lg_entry_eq]
  generalize (lg_sl ([.ref ax, .int i1, .int i2]) ++ List.replicate (3 - (lg_sl ([.ref ax, .int i1, .int i2])).length) Slot.unset).toArray = ls at hl ⊢
  have hl : lv_has ls 3 [(0, .ref ax), (1, .int i1), (2, .int i2)] := hl
  have st_X6_within := hts (.static yX6_within) (by decide +kernel)
  have iniRX6 := hts (.initialized RX6) (by decide +kernel)
  have f21 := hts (.fieldLink RX3 21 "SecondTill$Shop" "firstPace" "I") (by decide +kernel)
  have inX3 : ∀ w ∈ u_ws RX3 TX3 7, w ∈ wsX3_setPaces := by decide +kernel
  have f25 := hts (.fieldLink RX3 25 "SecondTill$Shop" "secondPace" "I") (by decide +kernel)
  unfold S_X3_setPaces at hf
  have hP : va_P D vwCl [(ax, .inr (3, [.ref ax_kind, .ref ax_things, .ref ax_feet, .int x_people, .int x_firstPace, .int x_secondPace, .int x_steps]))] s.heap := hP
  suffices hgo : ∀ (H : Heap) (locs : List Loc), va_P D vwCl [(ax, .inr (3, [.ref ax_kind, .ref ax_things, .ref ax_feet, .int x_people, .int x_firstPace, .int x_secondPace, .int x_steps]))] H → va_S A s.heap H locs → W p l e rX3_setPaces s m (([.ref ax, .int i1, .int i2] : List Value).toArray) below meth c H locs 0 0 (MQ below (CQi r D [(ax, .inr (3, [.ref ax_kind, .ref ax_things, .ref ax_feet, .int x_people, .int o_x_firstPace, .int o_x_secondPace, .int x_steps]))] A) (([.ref ax, .int i1, .int i2] : List Value).toArray) s 0 0 A) (F0 m 0 ls []) from hgo _ _ hP hS
  clear hP hS
  intro H locs hP hS
  refine lv_iload_n hx hb dX3_setPaces_0 rfl (lv_at hl 1 rfl) ?_
  refine lv_iconst (v := 1) hx hb dX3_setPaces_1 (by decide) ?_
  refine lv_bipush (v := 9) hx hb dX3_setPaces_2 (by decide) ?_
  obtain ⟨r4, q4, hf⟩ := ob hf
  refine k_i (wc := []) (wr := [(ax, .inr (3, [.ref ax_kind, .ref ax_things, .ref ax_feet, .int x_people, .int x_firstPace, .int x_secondPace, .int x_steps]))]) (w1 := []) (wn := [(ax, .inr (3, [.ref ax_kind, .ref ax_things, .ref ax_feet, .int x_people, .int x_firstPace, .int x_secondPace, .int x_steps]))]) (va_runSN (As := [.int i1, .int (1 : Int32), .int (9 : Int32)]) (rest := []) ⟨hx, hb, hml, hown, hts⟩ (c_X6_within l D cyI cyC cyS H.size i1 (1 : Int32) (9 : Int32) q4) ⟨va_cnB 3 hts gX3_setPaces_X6_within_n38 rfl rfl rfl hK.2.1.2.2.2.2.2.2.2.2 iniRX6 (by decide +kernel) ⟨Nat.le_of_ble_eq_true rfl, Nat.le_of_ble_eq_true rfl⟩, st_X6_within, trivial⟩ (preS hK (hP.subm (ws' := []) [] rfl) (hD.sub (ws' := []) [] (by decide) rfl)) rfl rfl hl.1 rfl (lv_room (Nat.le_of_ble_eq_true rfl)) dX3_setPaces_4 ⟨Nat.le_of_ble_eq_true rfl, Nat.le_of_ble_eq_true rfl⟩) hP hD hS hA [] [0] [0] rfl rfl rfl (by decide) (by decide) (by decide) (fun H locs hP hD hS => ?_)
  refine lv_if_eq (tgt := 20) hx hb dX3_setPaces_7 (by decide) (fun c7 => ?_) (fun c7 => ?_)
  · replace hf := ip c7 hf
    refine lv_iconst (v := 0) hx hb dX3_setPaces_20 (by decide) ?_
    simp only [Option.some.injEq, Prod.mk.injEq] at hf
    obtain ⟨rfl, rfl, rfl⟩ := hf
    exact W.zret hx hb hr rfl (fun t ht hW => ⟨⟨_, (), rfl, rfl, by rw [ht]; exact hP, hD⟩, hS.F ht⟩) hS.2.2 dX3_setPaces_21
  · replace hf := iq c7 hf
    refine lv_iload_n hx hb dX3_setPaces_10 rfl (lv_at hl 2 rfl) ?_
    refine lv_iconst (v := 1) hx hb dX3_setPaces_11 (by decide) ?_
    refine lv_bipush (v := 9) hx hb dX3_setPaces_12 (by decide) ?_
    obtain ⟨r14, q14, hf⟩ := ob hf
    refine k_i (wc := []) (wr := [(ax, .inr (3, [.ref ax_kind, .ref ax_things, .ref ax_feet, .int x_people, .int x_firstPace, .int x_secondPace, .int x_steps]))]) (w1 := []) (wn := [(ax, .inr (3, [.ref ax_kind, .ref ax_things, .ref ax_feet, .int x_people, .int x_firstPace, .int x_secondPace, .int x_steps]))]) (va_runSN (As := [.int i2, .int (1 : Int32), .int (9 : Int32)]) (rest := []) ⟨hx, hb, hml, hown, hts⟩ (c_X6_within l D cyI cyC cyS H.size i2 (1 : Int32) (9 : Int32) q14) ⟨va_cnB 3 hts gX3_setPaces_X6_within_n38 rfl rfl rfl hK.2.1.2.2.2.2.2.2.2.2 iniRX6 (by decide +kernel) ⟨Nat.le_of_ble_eq_true rfl, Nat.le_of_ble_eq_true rfl⟩, st_X6_within, trivial⟩ (preS hK (hP.subm (ws' := []) [] rfl) (hD.sub (ws' := []) [] (by decide) rfl)) rfl rfl hl.1 rfl (lv_room (Nat.le_of_ble_eq_true rfl)) dX3_setPaces_14 ⟨Nat.le_of_ble_eq_true rfl, Nat.le_of_ble_eq_true rfl⟩) hP hD hS hA [] [0] [0] rfl rfl rfl (by decide) (by decide) (by decide) (fun H locs hP hD hS => ?_)
    refine lv_if_ne (tgt := 22) hx hb dX3_setPaces_17 (by decide) (fun c17 => ?_) (fun c17 => ?_)
    · replace hf := iq c17 hf
      refine lv_aload_n hx hb dX3_setPaces_22 rfl (lv_at hl 0 rfl) ?_
      refine lv_iload_n hx hb dX3_setPaces_23 rfl (lv_at hl 1 rfl) ?_
      refine a_put (C := RX3) (T := TX3) (N := 7) (wn := [(ax, .inr (3, [.ref ax_kind, .ref ax_things, .ref ax_feet, .int x_people, .int i1, .int x_secondPace, .int x_steps]))]) hx hb hts inX3 tyX3 tyX3_ok nmX3 hown hK hP hD hS 0 rfl rfl 4 (by decide) f21 (fun _ h9 => h9) rfl rfl (Nat.le_of_ble_eq_true rfl) rfl dX3_setPaces_24 (fun H locs hP hD hS => ?_)
      refine lv_aload_n hx hb dX3_setPaces_27 rfl (lv_at hl 0 rfl) ?_
      refine lv_iload_n hx hb dX3_setPaces_28 rfl (lv_at hl 2 rfl) ?_
      refine a_put (C := RX3) (T := TX3) (N := 7) (wn := [(ax, .inr (3, [.ref ax_kind, .ref ax_things, .ref ax_feet, .int x_people, .int i1, .int i2, .int x_steps]))]) hx hb hts inX3 tyX3 tyX3_ok nmX3 hown hK hP hD hS 0 rfl rfl 5 (by decide) f25 (fun _ h9 => h9) rfl rfl (Nat.le_of_ble_eq_true rfl) rfl dX3_setPaces_29 (fun H locs hP hD hS => ?_)
      refine lv_iconst (v := 1) hx hb dX3_setPaces_32 (by decide) ?_
      simp only [Option.some.injEq, Prod.mk.injEq] at hf
      obtain ⟨rfl, rfl, rfl⟩ := hf
      exact W.zret hx hb hr rfl (fun t ht hW => ⟨⟨_, (), rfl, rfl, by rw [ht]; exact hP, hD⟩, hS.F ht⟩) hS.2.2 dX3_setPaces_33
    · replace hf := ip c17 hf
      refine lv_iconst (v := 0) hx hb dX3_setPaces_20 (by decide) ?_
      simp only [Option.some.injEq, Prod.mk.injEq] at hf
      obtain ⟨rfl, rfl, rfl⟩ := hf
      exact W.zret hx hb hr rfl (fun t ht hW => ⟨⟨_, (), rfl, rfl, by rw [ht]; exact hP, hD⟩, hS.F ht⟩) hS.2.2 dX3_setPaces_21
abbrev rX3_setSteps : Room := { frames := 1, cells := 0, slots := 0, locals := 22 }
set_option maxHeartbeats 4000000 in
set_option maxRecDepth 100000 in
theorem c_X3_setSteps (l : Launch) (D : va_G) (cyI cyC cyS : ClassId) (sz : Nat) (ax : Nat) (ax_kind : Nat) (ax_things : Nat) (ax_feet : Nat) (x_people : Int32) (x_firstPace : Int32) (x_secondPace : Int32) (x_steps : Int32) (i1 : Int32) {r : Int32} {o_x_steps : Int32} (hf : S_X3_setSteps i1 x_steps = some (r, o_x_steps)) : Met l yX3_setSteps wsX3_setSteps rX3_setSteps (Cpre [.ref ax, .int i1] D cyI cyC cyS sz [(ax, .inr (3, [.ref ax_kind, .ref ax_things, .ref ax_feet, .int x_people, .int x_firstPace, .int x_secondPace, .int x_steps]))]) (CQi r D [(ax, .inr (3, [.ref ax_kind, .ref ax_things, .ref ax_feet, .int x_people, .int x_firstPace, .int x_secondPace, .int o_x_steps]))] (va_A [(ax, .inr (3, [.ref ax_kind, .ref ax_things, .ref ax_feet, .int x_people, .int x_firstPace, .int x_secondPace, .int x_steps]))] sz)) 0 0 (va_A [(ax, .inr (3, [.ref ax_kind, .ref ax_things, .ref ax_feet, .int x_people, .int x_firstPace, .int x_secondPace, .int x_steps]))] sz) := by
  refine Met.ofW (cc := cX3_setSteps) (maxL := 2) (ret := (some .boolean)) (by decide) rfl ?_
  intro p e s m args below meth c s₁ B hml hv
  obtain ⟨rfl, hsz, hP, hK, hD0⟩ := hv
  have hx := B.exec
  have hb := B.bytes
  have hr := B.returns
  have hts := atoms_spec (ws := wsX3_setSteps) B.pre
  have hown : s.vm.findClass RX3 = some m.cls := findClass_of_methodNamed B.named
  have hlocks := B.notSynchronized
  subst hsz
  have hD := hD0.self (sz := s.heap.size)
  generalize hAe : va_A [(ax, .inr (3, [.ref ax_kind, .ref ax_things, .ref ax_feet, .int x_people, .int x_firstPace, .int x_secondPace, .int x_steps]))] s.heap.size = A at hD ⊢
  have hA : ∀ q : Nat, s.heap.size ≤ q → A q := fun q h => by rw [← hAe]; exact Or.inr h
  have hS : va_S A s.heap s.heap [] := va_S.rf
  have hl := lv_entry ([.ref ax, .int i1]) (n := 2) (Nat.le_of_ble_eq_true rfl)
  rw [lg_entry_eq]
  generalize (lg_sl ([.ref ax, .int i1]) ++ List.replicate (2 - (lg_sl ([.ref ax, .int i1])).length) Slot.unset).toArray = ls at hl ⊢
  have hl : lv_has ls 2 [(0, .ref ax), (1, .int i1)] := hl
  have st_X6_within := hts (.static yX6_within) (by decide +kernel)
  have iniRX6 := hts (.initialized RX6) (by decide +kernel)
  have f28 := hts (.fieldLink RX3 28 "SecondTill$Shop" "steps" "I") (by decide +kernel)
  have inX3 : ∀ w ∈ u_ws RX3 TX3 7, w ∈ wsX3_setSteps := by decide +kernel
  unfold S_X3_setSteps at hf
  have hP : va_P D vwCl [(ax, .inr (3, [.ref ax_kind, .ref ax_things, .ref ax_feet, .int x_people, .int x_firstPace, .int x_secondPace, .int x_steps]))] s.heap := hP
  suffices hgo : ∀ (H : Heap) (locs : List Loc), va_P D vwCl [(ax, .inr (3, [.ref ax_kind, .ref ax_things, .ref ax_feet, .int x_people, .int x_firstPace, .int x_secondPace, .int x_steps]))] H → va_S A s.heap H locs → W p l e rX3_setSteps s m (([.ref ax, .int i1] : List Value).toArray) below meth c H locs 0 0 (MQ below (CQi r D [(ax, .inr (3, [.ref ax_kind, .ref ax_things, .ref ax_feet, .int x_people, .int x_firstPace, .int x_secondPace, .int o_x_steps]))] A) (([.ref ax, .int i1] : List Value).toArray) s 0 0 A) (F0 m 0 ls []) from hgo _ _ hP hS
  clear hP hS
  intro H locs hP hS
  refine lv_iload_n hx hb dX3_setSteps_0 rfl (lv_at hl 1 rfl) ?_
  refine lv_iconst (v := 0) hx hb dX3_setSteps_1 (by decide) ?_
  refine lv_bipush (v := 20) hx hb dX3_setSteps_2 (by decide) ?_
  obtain ⟨r4, q4, hf⟩ := ob hf
  refine k_i (wc := []) (wr := [(ax, .inr (3, [.ref ax_kind, .ref ax_things, .ref ax_feet, .int x_people, .int x_firstPace, .int x_secondPace, .int x_steps]))]) (w1 := []) (wn := [(ax, .inr (3, [.ref ax_kind, .ref ax_things, .ref ax_feet, .int x_people, .int x_firstPace, .int x_secondPace, .int x_steps]))]) (va_runSN (As := [.int i1, .int (0 : Int32), .int (20 : Int32)]) (rest := []) ⟨hx, hb, hml, hown, hts⟩ (c_X6_within l D cyI cyC cyS H.size i1 (0 : Int32) (20 : Int32) q4) ⟨va_cnB 3 hts gX3_setSteps_X6_within_n38 rfl rfl rfl hK.2.1.2.2.2.2.2.2.2.2 iniRX6 (by decide +kernel) ⟨Nat.le_of_ble_eq_true rfl, Nat.le_of_ble_eq_true rfl⟩, st_X6_within, trivial⟩ (preS hK (hP.subm (ws' := []) [] rfl) (hD.sub (ws' := []) [] (by decide) rfl)) rfl rfl hl.1 rfl (lv_room (Nat.le_of_ble_eq_true rfl)) dX3_setSteps_4 ⟨Nat.le_of_ble_eq_true rfl, Nat.le_of_ble_eq_true rfl⟩) hP hD hS hA [] [0] [0] rfl rfl rfl (by decide) (by decide) (by decide) (fun H locs hP hD hS => ?_)
  refine lv_if_ne (tgt := 12) hx hb dX3_setSteps_7 (by decide) (fun c7 => ?_) (fun c7 => ?_)
  · replace hf := iq c7 hf
    refine lv_aload_n hx hb dX3_setSteps_12 rfl (lv_at hl 0 rfl) ?_
    refine lv_iload_n hx hb dX3_setSteps_13 rfl (lv_at hl 1 rfl) ?_
    refine a_put (C := RX3) (T := TX3) (N := 7) (wn := [(ax, .inr (3, [.ref ax_kind, .ref ax_things, .ref ax_feet, .int x_people, .int x_firstPace, .int x_secondPace, .int i1]))]) hx hb hts inX3 tyX3 tyX3_ok nmX3 hown hK hP hD hS 0 rfl rfl 6 (by decide) f28 (fun _ h9 => h9) rfl rfl (Nat.le_of_ble_eq_true rfl) rfl dX3_setSteps_14 (fun H locs hP hD hS => ?_)
    refine lv_iconst (v := 1) hx hb dX3_setSteps_17 (by decide) ?_
    simp only [Option.some.injEq, Prod.mk.injEq] at hf
    obtain ⟨rfl, rfl⟩ := hf
    exact W.zret hx hb hr rfl (fun t ht hW => ⟨⟨_, (), rfl, rfl, by rw [ht]; exact hP, hD⟩, hS.F ht⟩) hS.2.2 dX3_setSteps_18
  · replace hf := ip c7 hf
    refine lv_iconst (v := 0) hx hb dX3_setSteps_10 (by decide) ?_
    simp only [Option.some.injEq, Prod.mk.injEq] at hf
    obtain ⟨rfl, rfl⟩ := hf
    exact W.zret hx hb hr rfl (fun t ht hW => ⟨⟨_, (), rfl, rfl, by rw [ht]; exact hP, hD⟩, hS.F ht⟩) hS.2.2 dX3_setSteps_11
abbrev rX3_removeAt : Room := { frames := 1, cells := 0, slots := 0, locals := 21 }
set_option maxHeartbeats 4000000 in
set_option maxRecDepth 100000 in
theorem c_X3_removeAt (l : Launch) (D : va_G) (cyI cyC cyS : ClassId) (sz : Nat) (ax : Nat) (ax_kind : Nat) (ax_things : Nat) (ax_feet : Nat) (x_people : Int32) (x_firstPace : Int32) (x_secondPace : Int32) (x_steps : Int32) (x_kind : Nat → Int32) (x_things : Nat → Int32) (x_feet : Nat → Int32) (i1 : Int32) {o_x_people : Int32} {o_x_kind : Nat → Int32} {o_x_things : Nat → Int32} {o_x_feet : Nat → Int32} (hf : S_X3_removeAt i1 x_people x_kind x_things x_feet = some (o_x_people, o_x_kind, o_x_things, o_x_feet)) : Met l yX3_removeAt wsX3_removeAt rX3_removeAt (Cpre [.ref ax, .int i1] D cyI cyC cyS sz [(ax, .inr (3, [.ref ax_kind, .ref ax_things, .ref ax_feet, .int x_people, .int x_firstPace, .int x_secondPace, .int x_steps])), (ax_kind, .inl (cyI, 8, .inl x_kind)), (ax_things, .inl (cyI, 8, .inl x_things)), (ax_feet, .inl (cyI, 8, .inl x_feet))]) (CQv D [(ax, .inr (3, [.ref ax_kind, .ref ax_things, .ref ax_feet, .int o_x_people, .int x_firstPace, .int x_secondPace, .int x_steps])), (ax_kind, .inl (cyI, 8, .inl o_x_kind)), (ax_things, .inl (cyI, 8, .inl o_x_things)), (ax_feet, .inl (cyI, 8, .inl o_x_feet))] (va_A [(ax, .inr (3, [.ref ax_kind, .ref ax_things, .ref ax_feet, .int x_people, .int x_firstPace, .int x_secondPace, .int x_steps])), (ax_kind, .inl (cyI, 8, .inl x_kind)), (ax_things, .inl (cyI, 8, .inl x_things)), (ax_feet, .inl (cyI, 8, .inl x_feet))] sz)) 0 0 (va_A [(ax, .inr (3, [.ref ax_kind, .ref ax_things, .ref ax_feet, .int x_people, .int x_firstPace, .int x_secondPace, .int x_steps])), (ax_kind, .inl (cyI, 8, .inl x_kind)), (ax_things, .inl (cyI, 8, .inl x_things)), (ax_feet, .inl (cyI, 8, .inl x_feet))] sz) := by
  refine Met.ofW (cc := cX3_removeAt) (maxL := 3) (ret := none) (by decide) rfl ?_
  intro p e s m args below meth c s₁ B hml hv
  obtain ⟨rfl, hsz, hP, hK, hD0⟩ := hv
  have hx := B.exec
  have hb := B.bytes
  have hr := B.returns
  have hts := atoms_spec (ws := wsX3_removeAt) B.pre
  have hown : s.vm.findClass RX3 = some m.cls := findClass_of_methodNamed B.named
  have hlocks := B.notSynchronized
  subst hsz
  have hD := hD0.self (sz := s.heap.size)
  generalize hAe : va_A [(ax, .inr (3, [.ref ax_kind, .ref ax_things, .ref ax_feet, .int x_people, .int x_firstPace, .int x_secondPace, .int x_steps])), (ax_kind, .inl (cyI, 8, .inl x_kind)), (ax_things, .inl (cyI, 8, .inl x_things)), (ax_feet, .inl (cyI, 8, .inl x_feet))] s.heap.size = A at hD ⊢
  have hA : ∀ q : Nat, s.heap.size ≤ q → A q := fun q h => by rw [← hAe]; exact Or.inr h
  have hS : va_S A s.heap s.heap [] := va_S.rf
  have hl := lv_entry ([.ref ax, .int i1]) (n := 3) (Nat.le_of_ble_eq_true rfl)
  rw [lg_entry_eq]
  generalize (lg_sl ([.ref ax, .int i1]) ++ List.replicate (3 - (lg_sl ([.ref ax, .int i1])).length) Slot.unset).toArray = ls at hl ⊢
  have hl : lv_has ls 3 [(0, .ref ax), (1, .int i1)] := hl
  have f31 := hts (.fieldLink RX3 31 "SecondTill$Shop" "people" "I") (by decide +kernel)
  have inX3 : ∀ w ∈ u_ws RX3 TX3 7, w ∈ wsX3_removeAt := by decide +kernel
  have f9 := hts (.fieldLink RX3 9 "SecondTill$Shop" "kind" "[I") (by decide +kernel)
  have f15 := hts (.fieldLink RX3 15 "SecondTill$Shop" "things" "[I") (by decide +kernel)
  have f18 := hts (.fieldLink RX3 18 "SecondTill$Shop" "feet" "[I") (by decide +kernel)
  unfold S_X3_removeAt at hf
  have hP : va_P D vwCl [(ax, .inr (3, [.ref ax_kind, .ref ax_things, .ref ax_feet, .int x_people, .int x_firstPace, .int x_secondPace, .int x_steps])), (ax_kind, .inl (cyI, 8, .inl x_kind)), (ax_things, .inl (cyI, 8, .inl x_things)), (ax_feet, .inl (cyI, 8, .inl x_feet))] s.heap := hP
  suffices hgo : ∀ (H : Heap) (locs : List Loc), va_P D vwCl [(ax, .inr (3, [.ref ax_kind, .ref ax_things, .ref ax_feet, .int x_people, .int x_firstPace, .int x_secondPace, .int x_steps])), (ax_kind, .inl (cyI, 8, .inl x_kind)), (ax_things, .inl (cyI, 8, .inl x_things)), (ax_feet, .inl (cyI, 8, .inl x_feet))] H → va_S A s.heap H locs → W p l e rX3_removeAt s m (([.ref ax, .int i1] : List Value).toArray) below meth c H locs 0 0 (MQ below (CQv D [(ax, .inr (3, [.ref ax_kind, .ref ax_things, .ref ax_feet, .int o_x_people, .int x_firstPace, .int x_secondPace, .int x_steps])), (ax_kind, .inl (cyI, 8, .inl o_x_kind)), (ax_things, .inl (cyI, 8, .inl o_x_things)), (ax_feet, .inl (cyI, 8, .inl o_x_feet))] A) (([.ref ax, .int i1] : List Value).toArray) s 0 0 A) (F0 m 0 ls []) from hgo _ _ hP hS
  clear hP hS
  intro H locs hP hS
  refine lv_aload_n hx hb dX3_removeAt_0 rfl (lv_at hl 0 rfl) ?_
  refine lv_iload_n hx hb dX3_removeAt_1 rfl (lv_at hl 1 rfl) ?_
  obtain ⟨r2, q2, hf⟩ := ob hf
  refine k_i (wc := [(ax, .inr (3, [.ref ax_kind, .ref ax_things, .ref ax_feet, .int x_people, .int x_firstPace, .int x_secondPace, .int x_steps]))]) (wr := [(ax_kind, .inl (cyI, 8, .inl x_kind)), (ax_things, .inl (cyI, 8, .inl x_things)), (ax_feet, .inl (cyI, 8, .inl x_feet))]) (w1 := [(ax, .inr (3, [.ref ax_kind, .ref ax_things, .ref ax_feet, .int x_people, .int x_firstPace, .int x_secondPace, .int x_steps]))]) (wn := [(ax, .inr (3, [.ref ax_kind, .ref ax_things, .ref ax_feet, .int x_people, .int x_firstPace, .int x_secondPace, .int x_steps])), (ax_kind, .inl (cyI, 8, .inl x_kind)), (ax_things, .inl (cyI, 8, .inl x_things)), (ax_feet, .inl (cyI, 8, .inl x_feet))]) (va_runV (As := [.int i1]) (rest := []) ⟨hx, hb, hml, hown, hts⟩ (c_X3_has l D cyI cyC cyS H.size ax ax_kind ax_things ax_feet x_people x_firstPace x_secondPace x_steps i1 q2) (cwV 1 hts gX3_removeAt_X3_has rfl rfl rfl (by decide +kernel) ⟨Nat.le_of_ble_eq_true rfl, Nat.le_of_ble_eq_true rfl⟩) (preV (ci := 3) hK (hP.subm (ws' := [(ax, .inr (3, [.ref ax_kind, .ref ax_things, .ref ax_feet, .int x_people, .int x_firstPace, .int x_secondPace, .int x_steps]))]) [0] rfl) (hD.sub (ws' := [(ax, .inr (3, [.ref ax_kind, .ref ax_things, .ref ax_feet, .int x_people, .int x_firstPace, .int x_secondPace, .int x_steps]))]) [0] (by decide) rfl) rfl rfl) rfl rfl hl.1 rfl (lv_room (Nat.le_of_ble_eq_true rfl)) dX3_removeAt_2 ⟨Nat.le_of_ble_eq_true rfl, Nat.le_of_ble_eq_true rfl⟩) hP hD hS hA [0] [1, 2, 3] [3, 0, 1, 2] rfl rfl rfl (by decide) (by decide) (by decide) (fun H locs hP hD hS => ?_)
  refine lv_if_ne (tgt := 9) hx hb dX3_removeAt_5 (by decide) (fun c5 => ?_) (fun c5 => ?_)
  · replace hf := iq c5 hf
    refine lv_iload_n hx hb dX3_removeAt_9 rfl (lv_at hl 1 rfl) ?_
    refine lv_istore_n (lv' := [(2, .int i1), (0, .ref ax), (1, .int i1)]) hx hb dX3_removeAt_10 rfl hl (by decide) rfl (fun ls hl => ?_)
    have hL11 : ∀ (n11 : Nat) (x_people : Int32) (i2 : Int32) (x_kind : Nat → Int32) (x_things : Nat → Int32) (x_feet : Nat → Int32) (H : Heap) (locs : List Loc) (ls : Array Slot), va_P D vwCl [(ax, .inr (3, [.ref ax_kind, .ref ax_things, .ref ax_feet, .int x_people, .int x_firstPace, .int x_secondPace, .int x_steps])), (ax_kind, .inl (cyI, 8, .inl x_kind)), (ax_things, .inl (cyI, 8, .inl x_things)), (ax_feet, .inl (cyI, 8, .inl x_feet))] H → va_D A [(ax, .inr (3, [.ref ax_kind, .ref ax_things, .ref ax_feet, .int x_people, .int x_firstPace, .int x_secondPace, .int x_steps])), (ax_kind, .inl (cyI, 8, .inl x_kind)), (ax_things, .inl (cyI, 8, .inl x_things)), (ax_feet, .inl (cyI, 8, .inl x_feet))] → va_S A s.heap H locs → lv_has ls 3 [(0, .ref ax), (2, .int i2)] → S_X3_removeAt_L11 x_people n11 i2 x_kind x_things x_feet = some (o_x_people, o_x_kind, o_x_things, o_x_feet) → W p l e rX3_removeAt s m (([.ref ax, .int i1] : List Value).toArray) below meth c H locs 0 0 (MQ below (CQv D [(ax, .inr (3, [.ref ax_kind, .ref ax_things, .ref ax_feet, .int o_x_people, .int x_firstPace, .int x_secondPace, .int x_steps])), (ax_kind, .inl (cyI, 8, .inl o_x_kind)), (ax_things, .inl (cyI, 8, .inl o_x_things)), (ax_feet, .inl (cyI, 8, .inl o_x_feet))] A) (([.ref ax, .int i1] : List Value).toArray) s 0 0 A) (F0 m 11 ls []) := by
      intro n11
      induction n11 with
      | zero => intro x_people i2 x_kind x_things x_feet H locs ls hP hD hS hl hf; exact absurd hf (by simp [S_X3_removeAt_L11])
      | succ n11 ih11 =>
        intro x_people i2 x_kind x_things x_feet H locs ls hP hD hS hl hf
        rw [S_X3_removeAt_L11] at hf
        refine lv_iload_n hx hb dX3_removeAt_11 rfl (lv_at hl 1 rfl) ?_
        refine lv_iconst (v := 1) hx hb dX3_removeAt_12 (by decide) ?_
        refine lv_iadd hx hb dX3_removeAt_13 ?_
        refine lv_aload_n hx hb dX3_removeAt_14 rfl (lv_at hl 0 rfl) ?_
        refine va_get (C := RX3) (T := TX3) (N := 7) hx hb hts inX3 hown hK.1 hP 0 rfl rfl 3 (by decide) f31 (fun _ h9 => h9) rfl dX3_removeAt_15 ?_
        refine lv_icmp_ge (tgt := 69) hx hb dX3_removeAt_18 (by decide) (fun c18 => ?_) (fun c18 => ?_)
        · replace hf := ip c18 hf
          refine lv_aload_n hx hb dX3_removeAt_69 rfl (lv_at hl 0 rfl) ?_
          refine lv_dup hx hb dX3_removeAt_70 rfl ?_
          refine va_get (C := RX3) (T := TX3) (N := 7) hx hb hts inX3 hown hK.1 hP 0 rfl rfl 3 (by decide) f31 (fun _ h9 => h9) rfl dX3_removeAt_71 ?_
          refine lv_iconst (v := 1) hx hb dX3_removeAt_74 (by decide) ?_
          refine lv_isub hx hb dX3_removeAt_75 ?_
          refine a_put (C := RX3) (T := TX3) (N := 7) (wn := [(ax, .inr (3, [.ref ax_kind, .ref ax_things, .ref ax_feet, .int (x_people - (1 : Int32)), .int x_firstPace, .int x_secondPace, .int x_steps])), (ax_kind, .inl (cyI, 8, .inl x_kind)), (ax_things, .inl (cyI, 8, .inl x_things)), (ax_feet, .inl (cyI, 8, .inl x_feet))]) hx hb hts inX3 tyX3 tyX3_ok nmX3 hown hK hP hD hS 0 rfl rfl 3 (by decide) f31 (fun _ h9 => h9) rfl rfl (Nat.le_of_ble_eq_true rfl) rfl dX3_removeAt_76 (fun H locs hP hD hS => ?_)
          simp only [Option.some.injEq, Prod.mk.injEq] at hf
          obtain ⟨rfl, rfl, rfl, rfl⟩ := hf
          exact W.vret hx hb hr (fun t ht hW => ⟨⟨(), rfl, trivial, by rw [ht]; exact hP, hD⟩, hS.F ht⟩) hS.2.2 dX3_removeAt_79
        · replace hf := iq c18 hf
          refine lv_aload_n hx hb dX3_removeAt_21 rfl (lv_at hl 0 rfl) ?_
          refine va_get (C := RX3) (T := TX3) (N := 7) hx hb hts inX3 hown hK.1 hP 0 rfl rfl 0 (by decide) f9 (fun _ h9 => h9) rfl dX3_removeAt_22 ?_
          refine lv_iload_n hx hb dX3_removeAt_25 rfl (lv_at hl 1 rfl) ?_
          refine lv_aload_n hx hb dX3_removeAt_26 rfl (lv_at hl 0 rfl) ?_
          refine va_get (C := RX3) (T := TX3) (N := 7) hx hb hts inX3 hown hK.1 hP 0 rfl rfl 0 (by decide) f9 (fun _ h9 => h9) rfl dX3_removeAt_27 ?_
          refine lv_iload_n hx hb dX3_removeAt_30 rfl (lv_at hl 1 rfl) ?_
          refine lv_iconst (v := 1) hx hb dX3_removeAt_31 (by decide) ?_
          refine lv_iadd hx hb dX3_removeAt_32 ?_
          obtain ⟨z33, hf⟩ := oi hf
          refine a_ild hx hb hK hP 1 rfl z33 (i2 + (1 : Int32)).toNatClampNeg rfl dX3_removeAt_33 ?_
          obtain ⟨z34, hf⟩ := oi hf
          refine a_ist (wn := [(ax, .inr (3, [.ref ax_kind, .ref ax_things, .ref ax_feet, .int x_people, .int x_firstPace, .int x_secondPace, .int x_steps])), (ax_kind, .inl (cyI, 8, .inl (upd x_kind i2.toNatClampNeg (x_kind (i2 + (1 : Int32)).toNatClampNeg)))), (ax_things, .inl (cyI, 8, .inl x_things)), (ax_feet, .inl (cyI, 8, .inl x_feet))]) hx hb hK hP hD hS 1 rfl z34 i2.toNatClampNeg rfl rfl dX3_removeAt_34 (fun H locs hP hD hS => ?_)
          refine lv_aload_n hx hb dX3_removeAt_35 rfl (lv_at hl 0 rfl) ?_
          refine va_get (C := RX3) (T := TX3) (N := 7) hx hb hts inX3 hown hK.1 hP 0 rfl rfl 1 (by decide) f15 (fun _ h9 => h9) rfl dX3_removeAt_36 ?_
          refine lv_iload_n hx hb dX3_removeAt_39 rfl (lv_at hl 1 rfl) ?_
          refine lv_aload_n hx hb dX3_removeAt_40 rfl (lv_at hl 0 rfl) ?_
          refine va_get (C := RX3) (T := TX3) (N := 7) hx hb hts inX3 hown hK.1 hP 0 rfl rfl 1 (by decide) f15 (fun _ h9 => h9) rfl dX3_removeAt_41 ?_
          refine lv_iload_n hx hb dX3_removeAt_44 rfl (lv_at hl 1 rfl) ?_
          refine lv_iconst (v := 1) hx hb dX3_removeAt_45 (by decide) ?_
          refine lv_iadd hx hb dX3_removeAt_46 ?_
          obtain ⟨z47, hf⟩ := oi hf
          refine a_ild hx hb hK hP 2 rfl z47 (i2 + (1 : Int32)).toNatClampNeg rfl dX3_removeAt_47 ?_
          obtain ⟨z48, hf⟩ := oi hf
          refine a_ist (wn := [(ax, .inr (3, [.ref ax_kind, .ref ax_things, .ref ax_feet, .int x_people, .int x_firstPace, .int x_secondPace, .int x_steps])), (ax_kind, .inl (cyI, 8, .inl (upd x_kind i2.toNatClampNeg (x_kind (i2 + (1 : Int32)).toNatClampNeg)))), (ax_things, .inl (cyI, 8, .inl (upd x_things i2.toNatClampNeg (x_things (i2 + (1 : Int32)).toNatClampNeg)))), (ax_feet, .inl (cyI, 8, .inl x_feet))]) hx hb hK hP hD hS 2 rfl z48 i2.toNatClampNeg rfl rfl dX3_removeAt_48 (fun H locs hP hD hS => ?_)
          refine lv_aload_n hx hb dX3_removeAt_49 rfl (lv_at hl 0 rfl) ?_
          refine va_get (C := RX3) (T := TX3) (N := 7) hx hb hts inX3 hown hK.1 hP 0 rfl rfl 2 (by decide) f18 (fun _ h9 => h9) rfl dX3_removeAt_50 ?_
          refine lv_iload_n hx hb dX3_removeAt_53 rfl (lv_at hl 1 rfl) ?_
          refine lv_aload_n hx hb dX3_removeAt_54 rfl (lv_at hl 0 rfl) ?_
          refine va_get (C := RX3) (T := TX3) (N := 7) hx hb hts inX3 hown hK.1 hP 0 rfl rfl 2 (by decide) f18 (fun _ h9 => h9) rfl dX3_removeAt_55 ?_
          refine lv_iload_n hx hb dX3_removeAt_58 rfl (lv_at hl 1 rfl) ?_
          refine lv_iconst (v := 1) hx hb dX3_removeAt_59 (by decide) ?_
          refine lv_iadd hx hb dX3_removeAt_60 ?_
          obtain ⟨z61, hf⟩ := oi hf
          refine a_ild hx hb hK hP 3 rfl z61 (i2 + (1 : Int32)).toNatClampNeg rfl dX3_removeAt_61 ?_
          obtain ⟨z62, hf⟩ := oi hf
          refine a_ist (wn := [(ax, .inr (3, [.ref ax_kind, .ref ax_things, .ref ax_feet, .int x_people, .int x_firstPace, .int x_secondPace, .int x_steps])), (ax_kind, .inl (cyI, 8, .inl (upd x_kind i2.toNatClampNeg (x_kind (i2 + (1 : Int32)).toNatClampNeg)))), (ax_things, .inl (cyI, 8, .inl (upd x_things i2.toNatClampNeg (x_things (i2 + (1 : Int32)).toNatClampNeg)))), (ax_feet, .inl (cyI, 8, .inl (upd x_feet i2.toNatClampNeg (x_feet (i2 + (1 : Int32)).toNatClampNeg))))]) hx hb hK hP hD hS 3 rfl z62 i2.toNatClampNeg rfl rfl dX3_removeAt_62 (fun H locs hP hD hS => ?_)
          refine lv_iinc (v := i2 + (1 : Int32)) (lv' := [(2, .int (i2 + (1 : Int32))), (0, .ref ax)]) hx hb dX3_removeAt_63 hl (k := 1) rfl rfl (by decide) rfl (fun ls hl => ?_)
          refine lv_goto (tgt := 11) hx hb dX3_removeAt_66 (by decide) ?_
          exact ih11 x_people (i2 + (1 : Int32)) (upd x_kind i2.toNatClampNeg (x_kind (i2 + (1 : Int32)).toNatClampNeg)) (upd x_things i2.toNatClampNeg (x_things (i2 + (1 : Int32)).toNatClampNeg)) (upd x_feet i2.toNatClampNeg (x_feet (i2 + (1 : Int32)).toNatClampNeg)) _ _ _ hP hD hS (lv_sub hl [1, 0] rfl) hf
    exact hL11 300 x_people i1 x_kind x_things x_feet _ _ _ hP hD hS (lv_sub hl [1, 0] rfl) hf
  · replace hf := ip c5 hf
    simp only [Option.some.injEq, Prod.mk.injEq] at hf
    obtain ⟨rfl, rfl, rfl, rfl⟩ := hf
    exact W.vret hx hb hr (fun t ht hW => ⟨⟨(), rfl, trivial, by rw [ht]; exact hP, hD⟩, hS.F ht⟩) hS.2.2 dX3_removeAt_8
abbrev rX3_thingsThrough : Room := { frames := 0, cells := 0, slots := 0, locals := 0 }
set_option maxHeartbeats 4000000 in
set_option maxRecDepth 100000 in
theorem c_X3_thingsThrough (l : Launch) (D : va_G) (cyI cyC cyS : ClassId) (sz : Nat) (ax : Nat) (ax_kind : Nat) (ax_things : Nat) (ax_feet : Nat) (x_people : Int32) (x_firstPace : Int32) (x_secondPace : Int32) (x_steps : Int32) (i1 : Int32) {r : Int32} (hf : S_X3_thingsThrough i1 x_firstPace = some r) : Met l yX3_thingsThrough wsX3_thingsThrough rX3_thingsThrough (Cpre [.ref ax, .int i1] D cyI cyC cyS sz [(ax, .inr (3, [.ref ax_kind, .ref ax_things, .ref ax_feet, .int x_people, .int x_firstPace, .int x_secondPace, .int x_steps]))]) (CQi r D [(ax, .inr (3, [.ref ax_kind, .ref ax_things, .ref ax_feet, .int x_people, .int x_firstPace, .int x_secondPace, .int x_steps]))] (va_A [(ax, .inr (3, [.ref ax_kind, .ref ax_things, .ref ax_feet, .int x_people, .int x_firstPace, .int x_secondPace, .int x_steps]))] sz)) 0 0 (va_A [(ax, .inr (3, [.ref ax_kind, .ref ax_things, .ref ax_feet, .int x_people, .int x_firstPace, .int x_secondPace, .int x_steps]))] sz) := by
  refine Met.ofW (cc := cX3_thingsThrough) (maxL := 2) (ret := (some .int)) (by decide) rfl ?_
  intro p e s m args below meth c s₁ B hml hv
  obtain ⟨rfl, hsz, hP, hK, hD0⟩ := hv
  have hx := B.exec
  have hb := B.bytes
  have hr := B.returns
  have hts := atoms_spec (ws := wsX3_thingsThrough) B.pre
  have hown : s.vm.findClass RX3 = some m.cls := findClass_of_methodNamed B.named
  have hlocks := B.notSynchronized
  subst hsz
  have hD := hD0.self (sz := s.heap.size)
  generalize hAe : va_A [(ax, .inr (3, [.ref ax_kind, .ref ax_things, .ref ax_feet, .int x_people, .int x_firstPace, .int x_secondPace, .int x_steps]))] s.heap.size = A at hD ⊢
  have hA : ∀ q : Nat, s.heap.size ≤ q → A q := fun q h => by rw [← hAe]; exact Or.inr h
  have hS : va_S A s.heap s.heap [] := va_S.rf
  have hl := lv_entry ([.ref ax, .int i1]) (n := 2) (Nat.le_of_ble_eq_true rfl)
  rw [lg_entry_eq]
  generalize (lg_sl ([.ref ax, .int i1]) ++ List.replicate (2 - (lg_sl ([.ref ax, .int i1])).length) Slot.unset).toArray = ls at hl ⊢
  have hl : lv_has ls 2 [(0, .ref ax), (1, .int i1)] := hl
  have f21 := hts (.fieldLink RX3 21 "SecondTill$Shop" "firstPace" "I") (by decide +kernel)
  have inX3 : ∀ w ∈ u_ws RX3 TX3 7, w ∈ wsX3_thingsThrough := by decide +kernel
  unfold S_X3_thingsThrough at hf
  have hP : va_P D vwCl [(ax, .inr (3, [.ref ax_kind, .ref ax_things, .ref ax_feet, .int x_people, .int x_firstPace, .int x_secondPace, .int x_steps]))] s.heap := hP
  suffices hgo : ∀ (H : Heap) (locs : List Loc), va_P D vwCl [(ax, .inr (3, [.ref ax_kind, .ref ax_things, .ref ax_feet, .int x_people, .int x_firstPace, .int x_secondPace, .int x_steps]))] H → va_S A s.heap H locs → W p l e rX3_thingsThrough s m (([.ref ax, .int i1] : List Value).toArray) below meth c H locs 0 0 (MQ below (CQi r D [(ax, .inr (3, [.ref ax_kind, .ref ax_things, .ref ax_feet, .int x_people, .int x_firstPace, .int x_secondPace, .int x_steps]))] A) (([.ref ax, .int i1] : List Value).toArray) s 0 0 A) (F0 m 0 ls []) from hgo _ _ hP hS
  clear hP hS
  intro H locs hP hS
  refine lv_aload_n hx hb dX3_thingsThrough_0 rfl (lv_at hl 0 rfl) ?_
  refine va_get (C := RX3) (T := TX3) (N := 7) hx hb hts inX3 hown hK.1 hP 0 rfl rfl 4 (by decide) f21 (fun _ h9 => h9) rfl dX3_thingsThrough_1 ?_
  refine lv_if_le (tgt := 16) hx hb dX3_thingsThrough_4 (by decide) (fun c4 => ?_) (fun c4 => ?_)
  · replace hf := ip c4 hf
    refine lv_iconst (v := 0) hx hb dX3_thingsThrough_16 (by decide) ?_
    obtain rfl := Option.some.inj hf
    exact W.iret hx hb hr (fun t ht hW => ⟨⟨_, (), rfl, rfl, by rw [ht]; exact hP, hD⟩, hS.F ht⟩) hS.2.2 dX3_thingsThrough_17
  · replace hf := iq c4 hf
    refine lv_iload_n hx hb dX3_thingsThrough_7 rfl (lv_at hl 1 rfl) ?_
    refine lv_aload_n hx hb dX3_thingsThrough_8 rfl (lv_at hl 0 rfl) ?_
    refine va_get (C := RX3) (T := TX3) (N := 7) hx hb hts inX3 hown hK.1 hP 0 rfl rfl 4 (by decide) f21 (fun _ h9 => h9) rfl dX3_thingsThrough_9 ?_
    obtain ⟨z12, hf⟩ := oi hf
    refine lv_idiv hx hb dX3_thingsThrough_12 z12 ?_
    refine lv_goto (tgt := 17) hx hb dX3_thingsThrough_13 (by decide) ?_
    obtain rfl := Option.some.inj hf
    exact W.iret hx hb hr (fun t ht hW => ⟨⟨_, (), rfl, rfl, by rw [ht]; exact hP, hD⟩, hS.F ht⟩) hS.2.2 dX3_thingsThrough_17
abbrev rX3_letGoBy : Room := { frames := 2, cells := 0, slots := 0, locals := 43 }
set_option maxHeartbeats 4000000 in
set_option maxRecDepth 100000 in
theorem c_X3_letGoBy (l : Launch) (D : va_G) (cyI cyC cyS : ClassId) (sz : Nat) (ax : Nat) (ax_kind : Nat) (ax_things : Nat) (ax_feet : Nat) (x_people : Int32) (x_firstPace : Int32) (x_secondPace : Int32) (x_steps : Int32) (x_things : Nat → Int32) (x_kind : Nat → Int32) (x_feet : Nat → Int32) (i1 : Int32) {r : Int32} {o_x_people : Int32} {o_x_things : Nat → Int32} {o_x_kind : Nat → Int32} {o_x_feet : Nat → Int32} (hf : S_X3_letGoBy i1 x_people x_firstPace x_things x_kind x_feet = some (r, o_x_people, o_x_things, o_x_kind, o_x_feet)) : Met l yX3_letGoBy wsX3_letGoBy rX3_letGoBy (Cpre [.ref ax, .int i1] D cyI cyC cyS sz [(ax, .inr (3, [.ref ax_kind, .ref ax_things, .ref ax_feet, .int x_people, .int x_firstPace, .int x_secondPace, .int x_steps])), (ax_things, .inl (cyI, 8, .inl x_things)), (ax_kind, .inl (cyI, 8, .inl x_kind)), (ax_feet, .inl (cyI, 8, .inl x_feet))]) (CQi r D [(ax, .inr (3, [.ref ax_kind, .ref ax_things, .ref ax_feet, .int o_x_people, .int x_firstPace, .int x_secondPace, .int x_steps])), (ax_things, .inl (cyI, 8, .inl o_x_things)), (ax_kind, .inl (cyI, 8, .inl o_x_kind)), (ax_feet, .inl (cyI, 8, .inl o_x_feet))] (va_A [(ax, .inr (3, [.ref ax_kind, .ref ax_things, .ref ax_feet, .int x_people, .int x_firstPace, .int x_secondPace, .int x_steps])), (ax_things, .inl (cyI, 8, .inl x_things)), (ax_kind, .inl (cyI, 8, .inl x_kind)), (ax_feet, .inl (cyI, 8, .inl x_feet))] sz)) 0 0 (va_A [(ax, .inr (3, [.ref ax_kind, .ref ax_things, .ref ax_feet, .int x_people, .int x_firstPace, .int x_secondPace, .int x_steps])), (ax_things, .inl (cyI, 8, .inl x_things)), (ax_kind, .inl (cyI, 8, .inl x_kind)), (ax_feet, .inl (cyI, 8, .inl x_feet))] sz) := by
  refine Met.ofW (cc := cX3_letGoBy) (maxL := 6) (ret := (some .int)) (by decide) rfl ?_
  intro p e s m args below meth c s₁ B hml hv
  obtain ⟨rfl, hsz, hP, hK, hD0⟩ := hv
  have hx := B.exec
  have hb := B.bytes
  have hr := B.returns
  have hts := atoms_spec (ws := wsX3_letGoBy) B.pre
  have hown : s.vm.findClass RX3 = some m.cls := findClass_of_methodNamed B.named
  have hlocks := B.notSynchronized
  subst hsz
  have hD := hD0.self (sz := s.heap.size)
  generalize hAe : va_A [(ax, .inr (3, [.ref ax_kind, .ref ax_things, .ref ax_feet, .int x_people, .int x_firstPace, .int x_secondPace, .int x_steps])), (ax_things, .inl (cyI, 8, .inl x_things)), (ax_kind, .inl (cyI, 8, .inl x_kind)), (ax_feet, .inl (cyI, 8, .inl x_feet))] s.heap.size = A at hD ⊢
  have hA : ∀ q : Nat, s.heap.size ≤ q → A q := fun q h => by rw [← hAe]; exact Or.inr h
  have hS : va_S A s.heap s.heap [] := va_S.rf
  have hl := lv_entry ([.ref ax, .int i1]) (n := 6) (Nat.le_of_ble_eq_true rfl)
  rw [lg_entry_eq]
  generalize (lg_sl ([.ref ax, .int i1]) ++ List.replicate (6 - (lg_sl ([.ref ax, .int i1])).length) Slot.unset).toArray = ls at hl ⊢
  have hl : lv_has ls 6 [(0, .ref ax), (1, .int i1)] := hl
  have f31 := hts (.fieldLink RX3 31 "SecondTill$Shop" "people" "I") (by decide +kernel)
  have inX3 : ∀ w ∈ u_ws RX3 TX3 7, w ∈ wsX3_letGoBy := by decide +kernel
  have f15 := hts (.fieldLink RX3 15 "SecondTill$Shop" "things" "[I") (by decide +kernel)
  unfold S_X3_letGoBy at hf
  have hP : va_P D vwCl [(ax, .inr (3, [.ref ax_kind, .ref ax_things, .ref ax_feet, .int x_people, .int x_firstPace, .int x_secondPace, .int x_steps])), (ax_things, .inl (cyI, 8, .inl x_things)), (ax_kind, .inl (cyI, 8, .inl x_kind)), (ax_feet, .inl (cyI, 8, .inl x_feet))] s.heap := hP
  suffices hgo : ∀ (H : Heap) (locs : List Loc), va_P D vwCl [(ax, .inr (3, [.ref ax_kind, .ref ax_things, .ref ax_feet, .int x_people, .int x_firstPace, .int x_secondPace, .int x_steps])), (ax_things, .inl (cyI, 8, .inl x_things)), (ax_kind, .inl (cyI, 8, .inl x_kind)), (ax_feet, .inl (cyI, 8, .inl x_feet))] H → va_S A s.heap H locs → W p l e rX3_letGoBy s m (([.ref ax, .int i1] : List Value).toArray) below meth c H locs 0 0 (MQ below (CQi r D [(ax, .inr (3, [.ref ax_kind, .ref ax_things, .ref ax_feet, .int o_x_people, .int x_firstPace, .int x_secondPace, .int x_steps])), (ax_things, .inl (cyI, 8, .inl o_x_things)), (ax_kind, .inl (cyI, 8, .inl o_x_kind)), (ax_feet, .inl (cyI, 8, .inl o_x_feet))] A) (([.ref ax, .int i1] : List Value).toArray) s 0 0 A) (F0 m 0 ls []) from hgo _ _ hP hS
  clear hP hS
  intro H locs hP hS
  refine lv_aload_n hx hb dX3_letGoBy_0 rfl (lv_at hl 0 rfl) ?_
  refine lv_iload_n hx hb dX3_letGoBy_1 rfl (lv_at hl 1 rfl) ?_
  obtain ⟨r2, q2, hf⟩ := ob hf
  refine k_i (wc := [(ax, .inr (3, [.ref ax_kind, .ref ax_things, .ref ax_feet, .int x_people, .int x_firstPace, .int x_secondPace, .int x_steps]))]) (wr := [(ax_things, .inl (cyI, 8, .inl x_things)), (ax_kind, .inl (cyI, 8, .inl x_kind)), (ax_feet, .inl (cyI, 8, .inl x_feet))]) (w1 := [(ax, .inr (3, [.ref ax_kind, .ref ax_things, .ref ax_feet, .int x_people, .int x_firstPace, .int x_secondPace, .int x_steps]))]) (wn := [(ax, .inr (3, [.ref ax_kind, .ref ax_things, .ref ax_feet, .int x_people, .int x_firstPace, .int x_secondPace, .int x_steps])), (ax_things, .inl (cyI, 8, .inl x_things)), (ax_kind, .inl (cyI, 8, .inl x_kind)), (ax_feet, .inl (cyI, 8, .inl x_feet))]) (va_runV (As := [.int i1]) (rest := []) ⟨hx, hb, hml, hown, hts⟩ (c_X3_thingsThrough l D cyI cyC cyS H.size ax ax_kind ax_things ax_feet x_people x_firstPace x_secondPace x_steps i1 q2) (cwV 1 hts gX3_letGoBy_X3_thingsThrough rfl rfl rfl (by decide +kernel) ⟨Nat.le_of_ble_eq_true rfl, Nat.le_of_ble_eq_true rfl⟩) (preV (ci := 3) hK (hP.subm (ws' := [(ax, .inr (3, [.ref ax_kind, .ref ax_things, .ref ax_feet, .int x_people, .int x_firstPace, .int x_secondPace, .int x_steps]))]) [0] rfl) (hD.sub (ws' := [(ax, .inr (3, [.ref ax_kind, .ref ax_things, .ref ax_feet, .int x_people, .int x_firstPace, .int x_secondPace, .int x_steps]))]) [0] (by decide) rfl) rfl rfl) rfl rfl hl.1 rfl (lv_room (Nat.le_of_ble_eq_true rfl)) dX3_letGoBy_2 ⟨Nat.le_of_ble_eq_true rfl, Nat.le_of_ble_eq_true rfl⟩) hP hD hS hA [0] [1, 2, 3] [3, 0, 1, 2] rfl rfl rfl (by decide) (by decide) (by decide) (fun H locs hP hD hS => ?_)
  refine lv_istore_n (lv' := [(2, .int r2), (0, .ref ax), (1, .int i1)]) hx hb dX3_letGoBy_5 rfl hl (by decide) rfl (fun ls hl => ?_)
  refine lv_iconst (v := 0) hx hb dX3_letGoBy_6 (by decide) ?_
  refine lv_istore_n (lv' := [(3, .int (0 : Int32)), (2, .int r2), (0, .ref ax), (1, .int i1)]) hx hb dX3_letGoBy_7 rfl hl (by decide) rfl (fun ls hl => ?_)
  refine lv_aload_n hx hb dX3_letGoBy_8 rfl (lv_at hl 2 rfl) ?_
  refine va_get (C := RX3) (T := TX3) (N := 7) hx hb hts inX3 hown hK.1 hP 0 rfl rfl 3 (by decide) f31 (fun _ h9 => h9) rfl dX3_letGoBy_9 ?_
  refine lv_istore (lv' := [(4, .int x_people), (3, .int (0 : Int32)), (2, .int r2), (0, .ref ax), (1, .int i1)]) hx hb dX3_letGoBy_12 hl (by decide) rfl (fun ls hl => ?_)
  refine lv_iconst (v := 0) hx hb dX3_letGoBy_14 (by decide) ?_
  refine lv_istore (lv' := [(5, .int (0 : Int32)), (4, .int x_people), (3, .int (0 : Int32)), (2, .int r2), (0, .ref ax), (1, .int i1)]) hx hb dX3_letGoBy_15 hl (by decide) rfl (fun ls hl => ?_)
  have hL17 : ∀ (n17 : Nat) (i4 : Int32) (i2 : Int32) (i3 : Int32) (i5 : Int32) (x_people : Int32) (x_things : Nat → Int32) (x_kind : Nat → Int32) (x_feet : Nat → Int32) (H : Heap) (locs : List Loc) (ls : Array Slot), va_P D vwCl [(ax, .inr (3, [.ref ax_kind, .ref ax_things, .ref ax_feet, .int x_people, .int x_firstPace, .int x_secondPace, .int x_steps])), (ax_things, .inl (cyI, 8, .inl x_things)), (ax_kind, .inl (cyI, 8, .inl x_kind)), (ax_feet, .inl (cyI, 8, .inl x_feet))] H → va_D A [(ax, .inr (3, [.ref ax_kind, .ref ax_things, .ref ax_feet, .int x_people, .int x_firstPace, .int x_secondPace, .int x_steps])), (ax_things, .inl (cyI, 8, .inl x_things)), (ax_kind, .inl (cyI, 8, .inl x_kind)), (ax_feet, .inl (cyI, 8, .inl x_feet))] → va_S A s.heap H locs → lv_has ls 6 [(0, .ref ax), (2, .int i2), (3, .int i3), (4, .int i4), (5, .int i5)] → S_X3_letGoBy_L17 i4 n17 i2 i3 i5 x_people x_things x_kind x_feet = some (r, o_x_people, o_x_things, o_x_kind, o_x_feet) → W p l e rX3_letGoBy s m (([.ref ax, .int i1] : List Value).toArray) below meth c H locs 0 0 (MQ below (CQi r D [(ax, .inr (3, [.ref ax_kind, .ref ax_things, .ref ax_feet, .int o_x_people, .int x_firstPace, .int x_secondPace, .int x_steps])), (ax_things, .inl (cyI, 8, .inl o_x_things)), (ax_kind, .inl (cyI, 8, .inl o_x_kind)), (ax_feet, .inl (cyI, 8, .inl o_x_feet))] A) (([.ref ax, .int i1] : List Value).toArray) s 0 0 A) (F0 m 17 ls []) := by
    intro n17
    induction n17 with
    | zero => intro i4 i2 i3 i5 x_people x_things x_kind x_feet H locs ls hP hD hS hl hf; exact absurd hf (by simp [S_X3_letGoBy_L17])
    | succ n17 ih17 =>
      intro i4 i2 i3 i5 x_people x_things x_kind x_feet H locs ls hP hD hS hl hf
      rw [S_X3_letGoBy_L17] at hf
      refine lv_iload hx hb dX3_letGoBy_17 (lv_at hl 4 rfl) ?_
      refine lv_iload hx hb dX3_letGoBy_19 (lv_at hl 3 rfl) ?_
      have hJ57 : ∀ (H : Heap) (locs : List Loc) (ls : Array Slot), va_P D vwCl [(ax, .inr (3, [.ref ax_kind, .ref ax_things, .ref ax_feet, .int x_people, .int x_firstPace, .int x_secondPace, .int x_steps])), (ax_things, .inl (cyI, 8, .inl x_things)), (ax_kind, .inl (cyI, 8, .inl x_kind)), (ax_feet, .inl (cyI, 8, .inl x_feet))] H → va_D A [(ax, .inr (3, [.ref ax_kind, .ref ax_things, .ref ax_feet, .int x_people, .int x_firstPace, .int x_secondPace, .int x_steps])), (ax_things, .inl (cyI, 8, .inl x_things)), (ax_kind, .inl (cyI, 8, .inl x_kind)), (ax_feet, .inl (cyI, 8, .inl x_feet))] → va_S A s.heap H locs → lv_has ls 6 [(0, .ref ax), (2, .int i2), (3, .int i3)] → (if x_people ≤ 0 then
some (i3, x_people, x_things, x_kind, x_feet) else
some (i3, x_people, upd x_things 0 ((x_things 0) - i2), x_kind, x_feet)) = some (r, o_x_people, o_x_things, o_x_kind, o_x_feet) → W p l e rX3_letGoBy s m (([.ref ax, .int i1] : List Value).toArray) below meth c H locs 0 0 (MQ below (CQi r D [(ax, .inr (3, [.ref ax_kind, .ref ax_things, .ref ax_feet, .int o_x_people, .int x_firstPace, .int x_secondPace, .int x_steps])), (ax_things, .inl (cyI, 8, .inl o_x_things)), (ax_kind, .inl (cyI, 8, .inl o_x_kind)), (ax_feet, .inl (cyI, 8, .inl o_x_feet))] A) (([.ref ax, .int i1] : List Value).toArray) s 0 0 A) (F0 m 57 ls []) := by
        intro  H locs ls hP hD hS hl hf
        refine lv_aload_n hx hb dX3_letGoBy_57 rfl (lv_at hl 0 rfl) ?_
        refine va_get (C := RX3) (T := TX3) (N := 7) hx hb hts inX3 hown hK.1 hP 0 rfl rfl 3 (by decide) f31 (fun _ h9 => h9) rfl dX3_letGoBy_58 ?_
        refine lv_if_le (tgt := 74) hx hb dX3_letGoBy_61 (by decide) (fun c61 => ?_) (fun c61 => ?_)
        · replace hf := ip c61 hf
          refine lv_iload_n hx hb dX3_letGoBy_74 rfl (lv_at hl 2 rfl) ?_
          simp only [Option.some.injEq, Prod.mk.injEq] at hf
          obtain ⟨rfl, rfl, rfl, rfl, rfl⟩ := hf
          exact W.iret hx hb hr (fun t ht hW => ⟨⟨_, (), rfl, rfl, by rw [ht]; exact hP, hD⟩, hS.F ht⟩) hS.2.2 dX3_letGoBy_75
        · replace hf := iq c61 hf
          refine lv_aload_n hx hb dX3_letGoBy_64 rfl (lv_at hl 0 rfl) ?_
          refine va_get (C := RX3) (T := TX3) (N := 7) hx hb hts inX3 hown hK.1 hP 0 rfl rfl 1 (by decide) f15 (fun _ h9 => h9) rfl dX3_letGoBy_65 ?_
          refine lv_iconst (v := 0) hx hb dX3_letGoBy_68 (by decide) ?_
          refine lv_dup2_11 hx hb dX3_letGoBy_69 rfl rfl ?_
          refine a_ild hx hb hK hP 1 rfl (vin (by decide)) 0 (by decide) dX3_letGoBy_70 ?_
          refine lv_iload_n hx hb dX3_letGoBy_71 rfl (lv_at hl 1 rfl) ?_
          refine lv_isub hx hb dX3_letGoBy_72 ?_
          refine a_ist (wn := [(ax, .inr (3, [.ref ax_kind, .ref ax_things, .ref ax_feet, .int x_people, .int x_firstPace, .int x_secondPace, .int x_steps])), (ax_things, .inl (cyI, 8, .inl (upd x_things 0 ((x_things 0) - i2)))), (ax_kind, .inl (cyI, 8, .inl x_kind)), (ax_feet, .inl (cyI, 8, .inl x_feet))]) hx hb hK hP hD hS 1 rfl (vin (by decide)) 0 (by decide) rfl dX3_letGoBy_73 (fun H locs hP hD hS => ?_)
          refine lv_iload_n hx hb dX3_letGoBy_74 rfl (lv_at hl 2 rfl) ?_
          simp only [Option.some.injEq, Prod.mk.injEq] at hf
          obtain ⟨rfl, rfl, rfl, rfl, rfl⟩ := hf
          exact W.iret hx hb hr (fun t ht hW => ⟨⟨_, (), rfl, rfl, by rw [ht]; exact hP, hD⟩, hS.F ht⟩) hS.2.2 dX3_letGoBy_75
      replace hf := jn_h hf
      refine lv_icmp_ge (tgt := 57) hx hb dX3_letGoBy_21 (by decide) (fun c21 => ?_) (fun c21 => ?_)
      · replace hf := ip c21 hf
        exact hJ57 _ _ _ hP hD hS (lv_sub hl [0, 1, 2] rfl) hf
      · replace hf := iq c21 hf
        refine lv_aload_n hx hb dX3_letGoBy_24 rfl (lv_at hl 0 rfl) ?_
        refine va_get (C := RX3) (T := TX3) (N := 7) hx hb hts inX3 hown hK.1 hP 0 rfl rfl 1 (by decide) f15 (fun _ h9 => h9) rfl dX3_letGoBy_25 ?_
        refine lv_iconst (v := 0) hx hb dX3_letGoBy_28 (by decide) ?_
        refine a_ild hx hb hK hP 1 rfl (vin (by decide)) 0 (by decide) dX3_letGoBy_29 ?_
        refine lv_iload_n hx hb dX3_letGoBy_30 rfl (lv_at hl 1 rfl) ?_
        refine lv_icmp_gt (tgt := 57) hx hb dX3_letGoBy_31 (by decide) (fun c31 => ?_) (fun c31 => ?_)
        · replace hf := ip c31 hf
          exact hJ57 _ _ _ hP hD hS (lv_sub hl [0, 1, 2] rfl) hf
        · replace hf := iq c31 hf
          refine lv_iload_n hx hb dX3_letGoBy_34 rfl (lv_at hl 1 rfl) ?_
          refine lv_aload_n hx hb dX3_letGoBy_35 rfl (lv_at hl 0 rfl) ?_
          refine va_get (C := RX3) (T := TX3) (N := 7) hx hb hts inX3 hown hK.1 hP 0 rfl rfl 1 (by decide) f15 (fun _ h9 => h9) rfl dX3_letGoBy_36 ?_
          refine lv_iconst (v := 0) hx hb dX3_letGoBy_39 (by decide) ?_
          refine a_ild hx hb hK hP 1 rfl (vin (by decide)) 0 (by decide) dX3_letGoBy_40 ?_
          refine lv_isub hx hb dX3_letGoBy_41 ?_
          refine lv_istore_n (lv' := [(2, .int (i2 - (x_things 0))), (0, .ref ax), (3, .int i3), (4, .int i4), (5, .int i5)]) hx hb dX3_letGoBy_42 rfl hl (by decide) rfl (fun ls hl => ?_)
          refine lv_aload_n hx hb dX3_letGoBy_43 rfl (lv_at hl 1 rfl) ?_
          refine lv_iconst (v := 0) hx hb dX3_letGoBy_44 (by decide) ?_
          obtain ⟨⟨x_people_o45, x_kind_o45, x_things_o45, x_feet_o45⟩, q45, hf⟩ := ob hf
          replace hf : _ = _ := hf
          refine k_v (wc := [(ax, .inr (3, [.ref ax_kind, .ref ax_things, .ref ax_feet, .int x_people, .int x_firstPace, .int x_secondPace, .int x_steps])), (ax_kind, .inl (cyI, 8, .inl x_kind)), (ax_things, .inl (cyI, 8, .inl x_things)), (ax_feet, .inl (cyI, 8, .inl x_feet))]) (wr := []) (w1 := [(ax, .inr (3, [.ref ax_kind, .ref ax_things, .ref ax_feet, .int x_people_o45, .int x_firstPace, .int x_secondPace, .int x_steps])), (ax_kind, .inl (cyI, 8, .inl x_kind_o45)), (ax_things, .inl (cyI, 8, .inl x_things_o45)), (ax_feet, .inl (cyI, 8, .inl x_feet_o45))]) (wn := [(ax, .inr (3, [.ref ax_kind, .ref ax_things, .ref ax_feet, .int x_people_o45, .int x_firstPace, .int x_secondPace, .int x_steps])), (ax_things, .inl (cyI, 8, .inl x_things_o45)), (ax_kind, .inl (cyI, 8, .inl x_kind_o45)), (ax_feet, .inl (cyI, 8, .inl x_feet_o45))]) (va_runV (As := [.int (0 : Int32)]) (rest := []) ⟨hx, hb, hml, hown, hts⟩ (c_X3_removeAt l D cyI cyC cyS H.size ax ax_kind ax_things ax_feet x_people x_firstPace x_secondPace x_steps x_kind x_things x_feet (0 : Int32) q45) (cwV 1 hts gX3_letGoBy_X3_removeAt rfl rfl rfl (by decide +kernel) ⟨Nat.le_of_ble_eq_true rfl, Nat.le_of_ble_eq_true rfl⟩) (preV (ci := 3) hK (hP.subm (ws' := [(ax, .inr (3, [.ref ax_kind, .ref ax_things, .ref ax_feet, .int x_people, .int x_firstPace, .int x_secondPace, .int x_steps])), (ax_kind, .inl (cyI, 8, .inl x_kind)), (ax_things, .inl (cyI, 8, .inl x_things)), (ax_feet, .inl (cyI, 8, .inl x_feet))]) [0, 2, 1, 3] rfl) (hD.sub (ws' := [(ax, .inr (3, [.ref ax_kind, .ref ax_things, .ref ax_feet, .int x_people, .int x_firstPace, .int x_secondPace, .int x_steps])), (ax_kind, .inl (cyI, 8, .inl x_kind)), (ax_things, .inl (cyI, 8, .inl x_things)), (ax_feet, .inl (cyI, 8, .inl x_feet))]) [0, 2, 1, 3] (by decide) rfl) rfl rfl) rfl rfl hl.1 rfl (lv_room (Nat.le_of_ble_eq_true rfl)) dX3_letGoBy_45 ⟨Nat.le_of_ble_eq_true rfl, Nat.le_of_ble_eq_true rfl⟩) hP hD hS hA [0, 2, 1, 3] [] [0, 2, 1, 3] rfl rfl rfl (by decide) (by decide) (by decide) (fun H locs hP hD hS => ?_)
          refine lv_iinc (v := i3 + (1 : Int32)) (lv' := [(3, .int (i3 + (1 : Int32))), (2, .int (i2 - (x_things 0))), (0, .ref ax), (4, .int i4), (5, .int i5)]) hx hb dX3_letGoBy_48 hl (k := 2) rfl rfl (by decide) rfl (fun ls hl => ?_)
          refine lv_iinc (v := i5 + (1 : Int32)) (lv' := [(5, .int (i5 + (1 : Int32))), (3, .int (i3 + (1 : Int32))), (2, .int (i2 - (x_things 0))), (0, .ref ax), (4, .int i4)]) hx hb dX3_letGoBy_51 hl (k := 4) rfl rfl (by decide) rfl (fun ls hl => ?_)
          refine lv_goto (tgt := 17) hx hb dX3_letGoBy_54 (by decide) ?_
          exact ih17 i4 (i2 - (x_things 0)) (i3 + (1 : Int32)) (i5 + (1 : Int32)) x_people_o45 x_things_o45 x_kind_o45 x_feet_o45 _ _ _ hP hD hS (lv_sub hl [3, 2, 1, 4, 0] rfl) hf
  exact hL17 300 x_people r2 (0 : Int32) (0 : Int32) x_people x_things x_kind x_feet _ _ _ hP hD hS (lv_sub hl [4, 3, 2, 1, 0] rfl) hf
abbrev rX3_walk : Room := { frames := 1, cells := 0, slots := 0, locals := 21 }
set_option maxHeartbeats 4000000 in
set_option maxRecDepth 100000 in
theorem c_X3_walk (l : Launch) (D : va_G) (cyI cyC cyS : ClassId) (sz : Nat) (ax : Nat) (ax_kind : Nat) (ax_things : Nat) (ax_feet : Nat) (x_people : Int32) (x_firstPace : Int32) (x_secondPace : Int32) (x_steps : Int32) (x_feet : Nat → Int32) (i1 : Int32) {r : Int32} (hf : S_X3_walk i1 x_people x_steps x_feet = some r) : Met l yX3_walk wsX3_walk rX3_walk (Cpre [.ref ax, .int i1] D cyI cyC cyS sz [(ax, .inr (3, [.ref ax_kind, .ref ax_things, .ref ax_feet, .int x_people, .int x_firstPace, .int x_secondPace, .int x_steps])), (ax_feet, .inl (cyI, 8, .inl x_feet))]) (CQi r D [(ax, .inr (3, [.ref ax_kind, .ref ax_things, .ref ax_feet, .int x_people, .int x_firstPace, .int x_secondPace, .int x_steps])), (ax_feet, .inl (cyI, 8, .inl x_feet))] (va_A [(ax, .inr (3, [.ref ax_kind, .ref ax_things, .ref ax_feet, .int x_people, .int x_firstPace, .int x_secondPace, .int x_steps])), (ax_feet, .inl (cyI, 8, .inl x_feet))] sz)) 0 0 (va_A [(ax, .inr (3, [.ref ax_kind, .ref ax_things, .ref ax_feet, .int x_people, .int x_firstPace, .int x_secondPace, .int x_steps])), (ax_feet, .inl (cyI, 8, .inl x_feet))] sz) := by
  refine Met.ofW (cc := cX3_walk) (maxL := 2) (ret := (some .int)) (by decide) rfl ?_
  intro p e s m args below meth c s₁ B hml hv
  obtain ⟨rfl, hsz, hP, hK, hD0⟩ := hv
  have hx := B.exec
  have hb := B.bytes
  have hr := B.returns
  have hts := atoms_spec (ws := wsX3_walk) B.pre
  have hown : s.vm.findClass RX3 = some m.cls := findClass_of_methodNamed B.named
  have hlocks := B.notSynchronized
  subst hsz
  have hD := hD0.self (sz := s.heap.size)
  generalize hAe : va_A [(ax, .inr (3, [.ref ax_kind, .ref ax_things, .ref ax_feet, .int x_people, .int x_firstPace, .int x_secondPace, .int x_steps])), (ax_feet, .inl (cyI, 8, .inl x_feet))] s.heap.size = A at hD ⊢
  have hA : ∀ q : Nat, s.heap.size ≤ q → A q := fun q h => by rw [← hAe]; exact Or.inr h
  have hS : va_S A s.heap s.heap [] := va_S.rf
  have hl := lv_entry ([.ref ax, .int i1]) (n := 2) (Nat.le_of_ble_eq_true rfl)
  rw [lg_entry_eq]
  generalize (lg_sl ([.ref ax, .int i1]) ++ List.replicate (2 - (lg_sl ([.ref ax, .int i1])).length) Slot.unset).toArray = ls at hl ⊢
  have hl : lv_has ls 2 [(0, .ref ax), (1, .int i1)] := hl
  have f18 := hts (.fieldLink RX3 18 "SecondTill$Shop" "feet" "[I") (by decide +kernel)
  have inX3 : ∀ w ∈ u_ws RX3 TX3 7, w ∈ wsX3_walk := by decide +kernel
  have f28 := hts (.fieldLink RX3 28 "SecondTill$Shop" "steps" "I") (by decide +kernel)
  have f31 := hts (.fieldLink RX3 31 "SecondTill$Shop" "people" "I") (by decide +kernel)
  unfold S_X3_walk at hf
  have hP : va_P D vwCl [(ax, .inr (3, [.ref ax_kind, .ref ax_things, .ref ax_feet, .int x_people, .int x_firstPace, .int x_secondPace, .int x_steps])), (ax_feet, .inl (cyI, 8, .inl x_feet))] s.heap := hP
  suffices hgo : ∀ (H : Heap) (locs : List Loc), va_P D vwCl [(ax, .inr (3, [.ref ax_kind, .ref ax_things, .ref ax_feet, .int x_people, .int x_firstPace, .int x_secondPace, .int x_steps])), (ax_feet, .inl (cyI, 8, .inl x_feet))] H → va_S A s.heap H locs → W p l e rX3_walk s m (([.ref ax, .int i1] : List Value).toArray) below meth c H locs 0 0 (MQ below (CQi r D [(ax, .inr (3, [.ref ax_kind, .ref ax_things, .ref ax_feet, .int x_people, .int x_firstPace, .int x_secondPace, .int x_steps])), (ax_feet, .inl (cyI, 8, .inl x_feet))] A) (([.ref ax, .int i1] : List Value).toArray) s 0 0 A) (F0 m 0 ls []) from hgo _ _ hP hS
  clear hP hS
  intro H locs hP hS
  refine lv_aload_n hx hb dX3_walk_0 rfl (lv_at hl 0 rfl) ?_
  refine lv_iload_n hx hb dX3_walk_1 rfl (lv_at hl 1 rfl) ?_
  obtain ⟨r2, q2, hf⟩ := ob hf
  refine k_i (wc := [(ax, .inr (3, [.ref ax_kind, .ref ax_things, .ref ax_feet, .int x_people, .int x_firstPace, .int x_secondPace, .int x_steps]))]) (wr := [(ax_feet, .inl (cyI, 8, .inl x_feet))]) (w1 := [(ax, .inr (3, [.ref ax_kind, .ref ax_things, .ref ax_feet, .int x_people, .int x_firstPace, .int x_secondPace, .int x_steps]))]) (wn := [(ax, .inr (3, [.ref ax_kind, .ref ax_things, .ref ax_feet, .int x_people, .int x_firstPace, .int x_secondPace, .int x_steps])), (ax_feet, .inl (cyI, 8, .inl x_feet))]) (va_runV (As := [.int i1]) (rest := []) ⟨hx, hb, hml, hown, hts⟩ (c_X3_has l D cyI cyC cyS H.size ax ax_kind ax_things ax_feet x_people x_firstPace x_secondPace x_steps i1 q2) (cwV 1 hts gX3_walk_X3_has rfl rfl rfl (by decide +kernel) ⟨Nat.le_of_ble_eq_true rfl, Nat.le_of_ble_eq_true rfl⟩) (preV (ci := 3) hK (hP.subm (ws' := [(ax, .inr (3, [.ref ax_kind, .ref ax_things, .ref ax_feet, .int x_people, .int x_firstPace, .int x_secondPace, .int x_steps]))]) [0] rfl) (hD.sub (ws' := [(ax, .inr (3, [.ref ax_kind, .ref ax_things, .ref ax_feet, .int x_people, .int x_firstPace, .int x_secondPace, .int x_steps]))]) [0] (by decide) rfl) rfl rfl) rfl rfl hl.1 rfl (lv_room (Nat.le_of_ble_eq_true rfl)) dX3_walk_2 ⟨Nat.le_of_ble_eq_true rfl, Nat.le_of_ble_eq_true rfl⟩) hP hD hS hA [0] [1] [1, 0] rfl rfl rfl (by decide) (by decide) (by decide) (fun H locs hP hD hS => ?_)
  refine lv_if_eq (tgt := 29) hx hb dX3_walk_5 (by decide) (fun c5 => ?_) (fun c5 => ?_)
  · replace hf := ip c5 hf
    refine lv_iconst (v := 0) hx hb dX3_walk_29 (by decide) ?_
    obtain rfl := Option.some.inj hf
    exact W.iret hx hb hr (fun t ht hW => ⟨⟨_, (), rfl, rfl, by rw [ht]; exact hP, hD⟩, hS.F ht⟩) hS.2.2 dX3_walk_30
  · replace hf := iq c5 hf
    refine lv_aload_n hx hb dX3_walk_8 rfl (lv_at hl 0 rfl) ?_
    refine va_get (C := RX3) (T := TX3) (N := 7) hx hb hts inX3 hown hK.1 hP 0 rfl rfl 2 (by decide) f18 (fun _ h9 => h9) rfl dX3_walk_9 ?_
    refine lv_iload_n hx hb dX3_walk_12 rfl (lv_at hl 1 rfl) ?_
    obtain ⟨z13, hf⟩ := oi hf
    refine a_ild hx hb hK hP 1 rfl z13 i1.toNatClampNeg rfl dX3_walk_13 ?_
    refine lv_aload_n hx hb dX3_walk_14 rfl (lv_at hl 0 rfl) ?_
    refine va_get (C := RX3) (T := TX3) (N := 7) hx hb hts inX3 hown hK.1 hP 0 rfl rfl 6 (by decide) f28 (fun _ h9 => h9) rfl dX3_walk_15 ?_
    refine lv_aload_n hx hb dX3_walk_18 rfl (lv_at hl 0 rfl) ?_
    refine va_get (C := RX3) (T := TX3) (N := 7) hx hb hts inX3 hown hK.1 hP 0 rfl rfl 3 (by decide) f31 (fun _ h9 => h9) rfl dX3_walk_19 ?_
    refine lv_iadd hx hb dX3_walk_22 ?_
    refine lv_iload_n hx hb dX3_walk_23 rfl (lv_at hl 1 rfl) ?_
    refine lv_isub hx hb dX3_walk_24 ?_
    refine lv_imul hx hb dX3_walk_25 ?_
    refine lv_goto (tgt := 30) hx hb dX3_walk_26 (by decide) ?_
    obtain rfl := Option.some.inj hf
    exact W.iret hx hb hr (fun t ht hW => ⟨⟨_, (), rfl, rfl, by rw [ht]; exact hP, hD⟩, hS.F ht⟩) hS.2.2 dX3_walk_30
