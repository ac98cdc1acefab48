/-! what holds at every state of the run: the tables' words on the nest, the array classes -/
abbrev TY (cyI cyC cyS : ClassId) : List (ClassId × FieldType) := [(cyI, .int), (cyC, .char), (cyS, .object "SecondTill$Shop")]
def NW (U : State) : Prop :=
  va_Nw (.methodLinkNest RX6 9 yX5_init "SecondTill") U ∧ va_Nw (.methodLinkNest RX6 18 yX3_init "SecondTill") U ∧ va_Nw (.methodLinkNest RX1 21 yX3_init "SecondTill") U ∧
  va_Nw (.methodLinkNest RX6 40 yX4_init "SecondTill") U ∧ va_Nw (.methodLinkNest RX6 47 yX0_init "SecondTill") U ∧ va_Nw (.methodLinkNest RX6 54 yX2_init "SecondTill") U ∧
  va_Nw (.methodLinkNest RX2 11 yX0_init "SecondTill") U ∧ va_Nw (.methodLinkNest RX3 34 yX6_isPerson "SecondTill") U ∧ va_Nw (.methodLinkNest RX3 38 yX6_within "SecondTill") U
def KK (D : va_G) (cyI cyC cyS : ClassId) (U : State) : Prop := va_K D vwCl (TY cyI cyC cyS) U ∧ NW U ∧ va_AO "SecondTill$Shop" U
theorem NW.warm {s U : State} (hW : s.WarmedH U.vm) (h : NW s) : NW U := by
  obtain ⟨h1, h2, h3, h4, h5, h6, h7, h8, h9⟩ := h
  exact ⟨h1.warmM hW, h2.warmM hW, h3.warmM hW, h4.warmM hW, h5.warmM hW, h6.warmM hW, h7.warmM hW, h8.warmM hW, h9.warmM hW⟩
theorem NW.same {s U : State} (hW : s.vm = U.vm) (h : NW s) : NW U := by
  obtain ⟨h1, h2, h3, h4, h5, h6, h7, h8, h9⟩ := h
  exact ⟨h1.same rfl hW, h2.same rfl hW, h3.same rfl hW, h4.same rfl hW, h5.same rfl hW, h6.same rfl hW, h7.same rfl hW, h8.same rfl hW, h9.same rfl hW⟩
theorem KK.warm {D : va_G} {cyI cyC cyS : ClassId} {s U : State} (hW : s.WarmedH U.vm) (h : KK D cyI cyC cyS s) : KK D cyI cyC cyS U := ⟨va_K.moved hW.alike h.1, h.2.1.warm hW, va_AO.moved hW.alike h.2.2⟩
theorem KK.calling {D : va_G} {cyI cyC cyS : ClassId} {U : State} {g : JFrame} {mk : MethodId} {a : Array Value} (h : KK D cyI cyC cyS U) : KK D cyI cyC cyS (U.calling g mk a) :=
  ⟨va_K.moved (u := U) (U := U.calling g mk a) (Vm.Alike.refl U.vm) h.1, NW.same (s := U) (U := U.calling g mk a) rfl h.2.1, va_AO.moved (u := U) (U := U.calling g mk a) (Vm.Alike.refl U.vm) h.2.2⟩
/-- a method's start: its cells, and what holds always -/
def Cpre (av : List Value) (D : va_G) (cyI cyC cyS : ClassId) (sz : Nat) (ws : va_W) : Array Value → State → Prop := va_Pc av (fun U => U.heap.size = sz ∧ va_P D vwCl ws U.heap ∧ KK D cyI cyC cyS U ∧ va_D (fun _ => True) ws)
theorem Cpre.blind {av : List Value} {D : va_G} {cyI cyC cyS : ClassId} {sz : Nat} {ws : va_W} : FrameBlind (Cpre av D cyI cyC cyS sz ws) := by
  intro a U g mk q
  obtain ⟨q0, q1, qP, qK, qD⟩ := q
  exact ⟨q0, q1, qP, qK.calling, qD⟩
theorem preS {s : State} {H : Heap} {D : va_G} {cyI cyC cyS : ClassId} {A : Nat → Prop} {wc : va_W} {av : List Value} (hK : KK D cyI cyC cyS s) (hP : va_P D vwCl wc H) (hD : va_D A wc) : PreS s H (Cpre av D cyI cyC cyS H.size wc) av :=
  ⟨Cpre.blind, fun U hU hW => ⟨rfl, by rw [hU], by rw [hU]; exact hP, hK.warm hW, hD.weaken (fun _ _ _ _ => trivial)⟩⟩
theorem preV {s : State} {H : Heap} {D : va_G} {cyI cyC cyS : ClassId} {A : Nat → Prop} {wc : va_W} {As : List Value} {b ci : Nat} {q : vw_C} {fs : List Value} (hK : KK D cyI cyC cyS s) (hP : va_P D vwCl wc H) (hD : va_D A wc) (hc : vwCl[ci]? = some q) (he : wc[0]? = some (b, .inr (ci, fs))) : PreV s H q.1 b (Cpre (.ref b :: As) D cyI cyC cyS H.size wc) As :=
  ⟨Cpre.blind, va_recv hK.1 hP hc he, (preS (av := .ref b :: As) hK hP hD).2⟩
abbrev CQi (r : Int32) (D : va_G) (w1 : va_W) (A : Nat → Prop) : Array Value → State → Outcome → State → Prop := va_Qi (S := Unit) (fun r' _ => r' = r) (fun _ t => va_P D vwCl w1 t.heap ∧ va_D A w1) A
abbrev CQv (D : va_G) (w1 : va_W) (A : Nat → Prop) : Array Value → State → Outcome → State → Prop := va_Qv (S := Unit) (fun _ => True) (fun _ t => va_P D vwCl w1 t.heap ∧ va_D A w1) A
theorem va_P.subm {D : va_G} {cl : List vw_C} {ws ws' : va_W} {H : Heap} (h : va_P D cl ws H) (is : List Nat) (hs : is.map (fun i => ws[i]?) = ws'.map some) : va_P D cl ws' H := by
  intro k q hk
  have h1 : (is.map (fun i => ws[i]?))[k]? = some (some q) := by rw [hs, List.getElem?_map, hk]; rfl
  rw [List.getElem?_map] at h1
  cases hi : is[k]? with
  | none => rw [hi] at h1; cases h1
  | some i => rw [hi] at h1; exact h i q (Option.some.inj h1)
section KCALL
variable {p : Program} {l : Launch} {e : Env} {R : Room} {s : State} {m : MethodId} {args : Array Value} {below : List Frame} {meth : Method} {c : Code} {H : Heap} {locs : List Loc} {cells slots : Nat} {Q : State → Prop}
variable {pc : Nat} {ls : Array Slot} {rest st0 : List Value} {a : Array Value} {A : Nat → Prop} {D : va_G} {ws wc wr w1 wn : va_W}
theorem k_i {r : Int32} (hr : va_Run p l e R s m args below meth c H locs cells slots 0 0 (F0 m pc ls st0) rest (CQi r D w1 (va_A wc H.size) a) (va_A wc H.size)) (hP : va_P D vwCl ws H) (hD : va_D A ws) (hS : va_S A s.heap H locs) (hA : ∀ q, s.heap.size ≤ q → A q)
    (isC isR isN : List Nat) (hC : isC.map (fun i => ws[i]?) = wc.map some) (hR : isR.map (fun i => ws[i]?) = wr.map some) (hN : isN.map (fun i => (wr ++ w1)[i]?) = wn.map some) (hnR : va_nd isR = true) (hdis : ∀ i ∈ isR, i ∉ isC) (hnN : va_nd isN = true)
    (kk : ∀ (H1 : Heap) (locs1 : List Loc), va_P D vwCl wn H1 → va_D A wn → va_S A s.heap H1 locs1 → W p l e R s m args below meth c H1 locs1 cells slots Q (F0 m (pc + 3) ls (.int r :: rest))) : W p l e R s m args below meth c H locs cells slots Q (F0 m pc ls st0) := by
  have hFc := va_free (wc := wc) hD hS hA isC hC
  refine va_calli hr hS (fun q _ h => hFc q h) hFc (fun r' u t H1 locs1 ht hvm hw hB hz1 hk1 hS1 => ?_)
  subst hw
  obtain ⟨hP1, hD1⟩ := hB
  rw [ht] at hP1
  obtain ⟨hP2, hD2⟩ := va_join hP hD isC isR hC hR hnR hdis hk1 hFc hP1 hD1
  exact kk H1 locs1 (hP2.subm isN hN) (hD2.sub isN hnN hN) hS1
theorem k_v (hr : va_Run p l e R s m args below meth c H locs cells slots 0 0 (F0 m pc ls st0) rest (CQv D w1 (va_A wc H.size) a) (va_A wc H.size)) (hP : va_P D vwCl ws H) (hD : va_D A ws) (hS : va_S A s.heap H locs) (hA : ∀ q, s.heap.size ≤ q → A q)
    (isC isR isN : List Nat) (hC : isC.map (fun i => ws[i]?) = wc.map some) (hR : isR.map (fun i => ws[i]?) = wr.map some) (hN : isN.map (fun i => (wr ++ w1)[i]?) = wn.map some) (hnR : va_nd isR = true) (hdis : ∀ i ∈ isR, i ∉ isC) (hnN : va_nd isN = true)
    (kk : ∀ (H1 : Heap) (locs1 : List Loc), va_P D vwCl wn H1 → va_D A wn → va_S A s.heap H1 locs1 → W p l e R s m args below meth c H1 locs1 cells slots Q (F0 m (pc + 3) ls rest)) : W p l e R s m args below meth c H locs cells slots Q (F0 m pc ls st0) := by
  have hFc := va_free (wc := wc) hD hS hA isC hC
  refine va_callv hr hS (fun q _ h => hFc q h) hFc (fun u t H1 locs1 ht hvm hw hB hz1 hk1 hS1 => ?_)
  obtain ⟨hP1, hD1⟩ := hB
  rw [ht] at hP1
  obtain ⟨hP2, hD2⟩ := va_join hP hD isC isR hC hR hnR hdis hk1 hFc hP1 hD1
  exact kk H1 locs1 (hP2.subm isN hN) (hD2.sub isN hnN hN) hS1
end KCALL
section KARR
variable {p : Program} {l : Launch} {e : Env} {R : Room} {s : State} {m : MethodId} {args : Array Value} {below : List Frame} {meth : Method} {c : Code} {H : Heap} {locs : List Loc} {cells slots : Nat} {Q : State → Prop}
variable {cc : ByteArray} {pc : Nat} {ls : Array Slot} {rest : List Value} {D : va_G} {A : Nat → Prop} {a : Nat} {ws wn : va_W} {H0 : Heap} {cyI cyC cyS : ClassId}
theorem a_ild (hexec : p.tables.exec = Jvm.exec) (hb : c.code = cc) (hK : KK D cyI cyC cyS s) (hP : va_P D vwCl ws H) (q0 : Nat) {n : Nat} {f : Nat → Int32} (ha : ws[q0]? = some (a, .inl (cyI, n, .inl f))) {i : Int32} (hin : vp_in i n) (k : Nat) (hk : i.toNatClampNeg = k) (hdg : decode cc pc = .ok (.iaload, 1))
    (kk : W p l e R s m args below meth c H locs cells slots Q (F0 m (pc + 1) ls (.int (f k) :: rest))) : W p l e R s m args below meth c H locs cells slots Q (F0 m pc ls (.int i :: .ref a :: rest)) := by
  subst hk
  exact va_iald hexec hb hK.1 hP q0 0 ha rfl hin hdg kk
theorem a_cld (hexec : p.tables.exec = Jvm.exec) (hb : c.code = cc) (hK : KK D cyI cyC cyS s) (hP : va_P D vwCl ws H) (q0 : Nat) {n : Nat} {f : Nat → Int32} (ha : ws[q0]? = some (a, .inl (cyC, n, .inl f))) {i : Int32} (hin : vp_in i n) (k : Nat) (hk : i.toNatClampNeg = k) (hdg : decode cc pc = .ok (.caload, 1))
    (kk : W p l e R s m args below meth c H locs cells slots Q (F0 m (pc + 1) ls (.int (f k) :: rest))) : W p l e R s m args below meth c H locs cells slots Q (F0 m pc ls (.int i :: .ref a :: rest)) := by
  subst hk
  exact va_cald hexec hb hK.1 hP q0 1 ha rfl hin hdg kk
theorem a_ist (hexec : p.tables.exec = Jvm.exec) (hb : c.code = cc) (hK : KK D cyI cyC cyS s) (hP : va_P D vwCl ws H) (hD : va_D A ws) (hS : va_S A H0 H locs) (q0 : Nat) {n : Nat} {f : Nat → Int32} (ha : ws[q0]? = some (a, .inl (cyI, n, .inl f))) {i x : Int32} (hin : vp_in i n) (k : Nat) (hk : i.toNatClampNeg = k) (hn : ws.set q0 (a, .inl (cyI, n, .inl (upd f k x))) = wn) (hdg : decode cc pc = .ok (.iastore, 1))
    (kk : ∀ (H1 : Heap) (locs1 : List Loc), va_P D vwCl wn H1 → va_D A wn → va_S A H0 H1 locs1 → W p l e R s m args below meth c H1 locs1 cells slots Q (F0 m (pc + 1) ls rest)) : W p l e R s m args below meth c H locs cells slots Q (F0 m pc ls (.int x :: .int i :: .ref a :: rest)) := by
  subst hk
  subst hn
  exact va_iast hexec hb hK.1 hP hD hS q0 0 ha rfl hin hdg kk
theorem a_cst (hexec : p.tables.exec = Jvm.exec) (hb : c.code = cc) (hK : KK D cyI cyC cyS s) (hP : va_P D vwCl ws H) (hD : va_D A ws) (hS : va_S A H0 H locs) (q0 : Nat) {n : Nat} {f : Nat → Int32} (ha : ws[q0]? = some (a, .inl (cyC, n, .inl f))) {i x : Int32} (hin : vp_in i n) (k : Nat) (hk : i.toNatClampNeg = k) (hn : ws.set q0 (a, .inl (cyC, n, .inl (upd f k (vp_nar .char x)))) = wn) (hdg : decode cc pc = .ok (.castore, 1))
    (kk : ∀ (H1 : Heap) (locs1 : List Loc), va_P D vwCl wn H1 → va_D A wn → va_S A H0 H1 locs1 → W p l e R s m args below meth c H1 locs1 cells slots Q (F0 m (pc + 1) ls rest)) : W p l e R s m args below meth c H locs cells slots Q (F0 m pc ls (.int x :: .int i :: .ref a :: rest)) := by
  subst hk
  subst hn
  exact va_cast hexec hb hK.1 hP hD hS q0 1 ha rfl hin hdg kk
theorem a_put (hexec : p.tables.exec = Jvm.exec) (hb : c.code = cc) {own ref C : String} {T : u_T} {N ci index : Nat} {Ts : List Cond} (hts : ∀ w ∈ Ts, w.before args s = true) (hin : ∀ w ∈ u_ws C T N, w ∈ Ts) (ty0 : Nat → FieldType) (hty : ∀ k, k < N → parseFieldDescriptor (T k).2.2.1 = some (ty0 k)) (hnm : ∀ a, a < N → ∀ b, b < N → a ≠ b → (T a).2.1 ≠ (T b).2.1) (hown : s.vm.findClass own = some m.cls) (hK : KK D cyI cyC cyS s) (hP : va_P D vwCl ws H) (hD : va_D A ws) (hS0 : va_S A H0 H locs) (q0 : Nat) {fs : List Value} (he : ws[q0]? = some (a, .inr (ci, fs))) (hc : vwCl[ci]? = some (C, T, N)) (k : Nat) (hk : k < N) (hlink : (Cond.fieldLink own index ref (T k).2.1 (T k).2.2.1).before args s = true) (hsame : ∀ x, s.fieldFound? (T k).1 (T k).2.1 (T k).2.2.1 = some x → s.fieldFound? ref (T k).2.1 (T k).2.2.1 = some x) (hfin : (T k).2.2.2 = false) {x : Int32} (hd : parseFieldDescriptor (T k).2.2.1 = some .int) (hlen : k < fs.length) (hn : ws.set q0 (a, .inr (ci, fs.set k (.int x))) = wn)
    (hdg : decode cc pc = .ok (.putfield index, 3)) (kk : ∀ (H1 : Heap) (locs1 : List Loc), va_P D vwCl wn H1 → va_D A wn → va_S A H0 H1 locs1 → W p l e R s m args below meth c H1 locs1 cells slots Q (F0 m (pc + 3) ls rest)) : W p l e R s m args below meth c H locs cells slots Q (F0 m pc ls (.int x :: .ref a :: rest)) := by
  subst hn
  exact va_put (D := D) (ty := .int) hexec hb hts hin ty0 hty hnm hown hK.1 hP hD hS0 q0 he hc k hk hlink hsame hfin hd rfl rfl hlen hdg kk
end KARR
/-! the pure side: what a run of the bytecode computes, with 'none' where an index is outside, a divisor 0, or the fuel spent -/
def nm {α β : Type} (x : α) (f : α → Option β) : Option β := f x
def jn {γ β : Type} (k : γ) (f : γ → Option β) : Option β := f k
theorem nm_h {α β : Type} {x : α} {f : α → Option β} {b : β} (h : nm x f = some b) : ∀ v, v = x → f v = some b := fun v e => e ▸ h
theorem jn_h {γ β : Type} {k : γ} {f : γ → Option β} {b : β} (h : jn k f = some b) : f k = some b := h
theorem ob {α β : Type} {x : Option α} {f : α → Option β} {b : β} (h : Option.bind x f = some b) : ∃ a, x = some a ∧ f a = some b := Option.bind_eq_some_iff.mp h
theorem oi {β : Type} {q : Prop} [Decidable q] {x : Option β} {b : β} (h : (if q then none else x) = some b) : ¬ q ∧ x = some b := by
  by_cases hq : q
  · rw [if_pos hq] at h; cases h
  · rw [if_neg hq] at h; exact ⟨hq, h⟩
theorem ip {β : Type} {q : Prop} [Decidable q] {x y : Option β} {b : β} (hq : q) (h : (if q then x else y) = some b) : x = some b := by rwa [if_pos hq] at h
theorem iq {β : Type} {q : Prop} [Decidable q] {x y : Option β} {b : β} (hq : ¬ q) (h : (if q then x else y) = some b) : y = some b := by rwa [if_neg hq] at h
theorem oj {β : Type} {q : Prop} [Decidable q] {x : Option β} {b : β} (h : (if q then x else none) = some b) : q ∧ x = some b := by
  by_cases hq : q
  · rw [if_pos hq] at h; exact ⟨hq, h⟩
  · rw [if_neg hq] at h; cases h
theorem nar_char {v : Int32} (h : vp_nar .char v = v) : narrow .char (.int v) = .int v := by
  have h1 : narrow .char (.int v) = .int (vp_nar .char v) := by rfl
  rw [h1, h]
theorem nar_boolean {v : Int32} (h : vp_nar .boolean v = v) : narrow .boolean (.int v) = .int v := by
  have h1 : narrow .boolean (.int v) = .int (vp_nar .boolean v) := by rfl
  rw [h1, h]
theorem vin {i : Int32} {n : Nat} (h : ¬ (i < 0 ∨ n ≤ i.toNatClampNeg)) : vp_in i n := h
def rotN {α : Type} (N : Nat) (f : Nat → α) : Nat → α := fun j => if j + 1 < N then f (j + 1) else f 0
section KREF
variable {p : Program} {l : Launch} {e : Env} {R : Room} {s : State} {m : MethodId} {args : Array Value} {below : List Frame} {meth : Method} {c : Code} {H : Heap} {locs : List Loc} {cells slots : Nat} {Q : State → Prop}
variable {cc : ByteArray} {pc : Nat} {ls : Array Slot} {rest : List Value} {D : va_G} {A : Nat → Prop} {a : Nat} {ws wn : va_W} {H0 : Heap} {cyI cyC cyS : ClassId}
theorem a_qld (hexec : p.tables.exec = Jvm.exec) (hb : c.code = cc) (hK : KK D cyI cyC cyS s) (hP : va_P D vwCl ws H) (q0 : Nat) {n : Nat} {f : Nat → Option Nat} (ha : ws[q0]? = some (a, .inl (cyS, n, .inr (.inr (.inr (.inr f)))))) {i : Int32} (hin : vp_in i n) (k : Nat) (hk : i.toNatClampNeg = k) {q : Nat} (hq : f k = some q) (hdg : decode cc pc = .ok (.aaload, 1))
    (kk : W p l e R s m args below meth c H locs cells slots Q (F0 m (pc + 1) ls (.ref q :: rest))) : W p l e R s m args below meth c H locs cells slots Q (F0 m pc ls (.int i :: .ref a :: rest)) := by
  subst hk
  refine va_aldq hexec hb hK.1 hP q0 2 ha rfl hin hdg ?_
  rw [hq]
  exact kk
theorem a_qst (hexec : p.tables.exec = Jvm.exec) (hb : c.code = cc) (hK : KK D cyI cyC cyS s) (hP : va_P D vwCl ws H) (hD : va_D A ws) (hS : va_S A H0 H locs) (q0 qk : Nat) {n v : Nat} {vs : List Value} {f : Nat → Option Nat} (ha : ws[q0]? = some (a, .inl (cyS, n, .inr (.inr (.inr (.inr f)))))) (hv : ws[qk]? = some (v, .inr (3, vs))) {i : Int32} (hin : vp_in i n) (k : Nat) (hk : i.toNatClampNeg = k) (hn : ws.set q0 (a, .inl (cyS, n, .inr (.inr (.inr (.inr (va_up f k (some v))))))) = wn) (hdg : decode cc pc = .ok (.aastore, 1))
    (kk : ∀ (H1 : Heap) (locs1 : List Loc), va_P D vwCl wn H1 → va_D A wn → va_S A H0 H1 locs1 → W p l e R s m args below meth c H1 locs1 cells slots Q (F0 m (pc + 1) ls rest)) : W p l e R s m args below meth c H locs cells slots Q (F0 m pc ls (.ref v :: .int i :: .ref a :: rest)) := by
  subst hk
  subst hn
  exact va_astq (r := (RX3, TX3, 7)) hexec hb hK.1 hP hD hS q0 2 qk 3 ha rfl hv rfl hin hdg kk
end KREF
