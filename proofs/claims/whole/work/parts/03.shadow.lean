def S_J6_bitCount_0f7a4 (i0 : Int32) : Option (Int32) :=
  (nm (i0 - (((i0.toUInt32 >>> ((1 : Int32).toUInt32 &&& Int32.toUInt32 31)).toInt32) &&& (1431655765 : Int32))) (fun (v9 : Int32) =>
  (nm ((v9 &&& (858993459 : Int32)) + (((v9.toUInt32 >>> ((2 : Int32).toUInt32 &&& Int32.toUInt32 31)).toInt32) &&& (858993459 : Int32))) (fun (v23 : Int32) =>
  (nm ((v23 + ((v23.toUInt32 >>> ((4 : Int32).toUInt32 &&& Int32.toUInt32 31)).toInt32)) &&& (252645135 : Int32)) (fun (v33 : Int32) =>
  (nm (v33 + ((v33.toUInt32 >>> ((8 : Int32).toUInt32 &&& Int32.toUInt32 31)).toInt32)) (fun (v40 : Int32) =>
  (nm (v40 + ((v40.toUInt32 >>> ((16 : Int32).toUInt32 &&& Int32.toUInt32 31)).toInt32)) (fun (v47 : Int32) =>
  some (v47 &&& (63 : Int32))))))))))))

def S_X6_within (i0 : Int32) (i1 : Int32) (i2 : Int32) : Option (Int32) :=
  (if i0 < i1 then
  some (0 : Int32) else
  (if i2 < i0 then
  some (0 : Int32) else
  some (1 : Int32)))

def S_X6_isPerson (i0 : Int32) (i1 : Int32) (i2 : Int32) : Option (Int32) :=
  (Option.bind (S_X6_within i0 (0 : Int32) (3 : Int32)) (fun r3 =>
  (if r3 = 0 then
  some (0 : Int32) else
  (Option.bind (S_X6_within i1 (1 : Int32) (20 : Int32)) (fun r13 =>
  (if r13 = 0 then
  some (0 : Int32) else
  (Option.bind (S_X6_within i2 (1 : Int32) (9 : Int32)) (fun r23 =>
  (if r23 = 0 then
  some (0 : Int32) else
  some (1 : Int32))))))))))

def S_X3_becomeUntold : Option (Int32 × Int32 × Int32 × Int32) :=
  some ((0 : Int32), (2 : Int32), (2 : Int32), (2 : Int32))

def S_X3_becomeLike_L34 (x_people : Int32) (x_firstPace : Int32) (x_secondPace : Int32) (x_steps : Int32) (y_kind : Nat → Int32) (y_things : Nat → Int32) (y_feet : Nat → Int32) : Nat → Int32 → (Nat → Int32) → (Nat → Int32) → (Nat → Int32) → Option (Int32 × Int32 × Int32 × Int32 × (Nat → Int32) × (Nat → Int32) × (Nat → Int32))
  | 0, _, _, _, _ => none
  | n34 + 1, i2, x_kind, x_things, x_feet =>
    (if (8 : Int32) ≤ i2 then
    some (x_people, x_firstPace, x_secondPace, x_steps, x_kind, x_things, x_feet) else
    (if i2 < 0 ∨ 8 ≤ i2.toNatClampNeg then none else
    (if i2 < 0 ∨ 8 ≤ i2.toNatClampNeg then none else
    (if i2 < 0 ∨ 8 ≤ i2.toNatClampNeg then none else
    (if i2 < 0 ∨ 8 ≤ i2.toNatClampNeg then none else
    (if i2 < 0 ∨ 8 ≤ i2.toNatClampNeg then none else
    (if i2 < 0 ∨ 8 ≤ i2.toNatClampNeg then none else
    ((S_X3_becomeLike_L34 x_people x_firstPace x_secondPace x_steps y_kind y_things y_feet n34) (i2 + (1 : Int32)) (upd x_kind i2.toNatClampNeg (y_kind i2.toNatClampNeg)) (upd x_things i2.toNatClampNeg (y_things i2.toNatClampNeg)) (upd x_feet i2.toNatClampNeg (y_feet i2.toNatClampNeg))))))))))

def S_X3_becomeLike (y_people : Int32) (y_firstPace : Int32) (y_secondPace : Int32) (y_steps : Int32) (y_kind : Nat → Int32) (x_kind : Nat → Int32) (y_things : Nat → Int32) (x_things : Nat → Int32) (y_feet : Nat → Int32) (x_feet : Nat → Int32) : Option (Int32 × Int32 × Int32 × Int32 × (Nat → Int32) × (Nat → Int32) × (Nat → Int32)) :=
  (S_X3_becomeLike_L34 y_people y_firstPace y_secondPace y_steps y_kind y_things y_feet 300 (0 : Int32) x_kind x_things x_feet)

def S_X3_has (i1 : Int32) (x_people : Int32) : Option (Int32) :=
  (if i1 < 0 then
  some (0 : Int32) else
  (if x_people ≤ i1 then
  some (0 : Int32) else
  some (1 : Int32)))

def S_X3_append (i1 : Int32) (i2 : Int32) (i3 : Int32) (x_people : Int32) (x_kind : Nat → Int32) (x_things : Nat → Int32) (x_feet : Nat → Int32) : Option (Int32 × Int32 × (Nat → Int32) × (Nat → Int32) × (Nat → Int32)) :=
  (if (8 : Int32) ≤ x_people then
  some ((0 : Int32), x_people, x_kind, x_things, x_feet) else
  (Option.bind (S_X6_isPerson i1 i2 i3) (fun r12 =>
  (if r12 = 0 then
  some ((0 : Int32), x_people, x_kind, x_things, x_feet) else
  (if x_people < 0 ∨ 8 ≤ x_people.toNatClampNeg then none else
  (if x_people < 0 ∨ 8 ≤ x_people.toNatClampNeg then none else
  (if x_people < 0 ∨ 8 ≤ x_people.toNatClampNeg then none else
  some ((1 : Int32), x_people + (1 : Int32), upd x_kind x_people.toNatClampNeg i1, upd x_things x_people.toNatClampNeg i2, upd x_feet x_people.toNatClampNeg i3))))))))

def S_X3_setPaces (i1 : Int32) (i2 : Int32) (x_firstPace : Int32) (x_secondPace : Int32) : Option (Int32 × Int32 × Int32) :=
  (Option.bind (S_X6_within i1 (1 : Int32) (9 : Int32)) (fun r4 =>
  (if r4 = 0 then
  some ((0 : Int32), x_firstPace, x_secondPace) else
  (Option.bind (S_X6_within i2 (1 : Int32) (9 : Int32)) (fun r14 =>
  (if r14 = 0 then
  some ((0 : Int32), x_firstPace, x_secondPace) else
  some ((1 : Int32), i1, i2)))))))

def S_X3_setSteps (i1 : Int32) (x_steps : Int32) : Option (Int32 × Int32) :=
  (Option.bind (S_X6_within i1 (0 : Int32) (20 : Int32)) (fun r4 =>
  (if r4 = 0 then
  some ((0 : Int32), x_steps) else
  some ((1 : Int32), i1))))

def S_X3_removeAt_L11 (x_people : Int32) : Nat → Int32 → (Nat → Int32) → (Nat → Int32) → (Nat → Int32) → Option (Int32 × (Nat → Int32) × (Nat → Int32) × (Nat → Int32))
  | 0, _, _, _, _ => none
  | n11 + 1, i2, x_kind, x_things, x_feet =>
    (if x_people ≤ (i2 + (1 : Int32)) then
    some (x_people - (1 : Int32), x_kind, x_things, x_feet) else
    (if (i2 + (1 : Int32)) < 0 ∨ 8 ≤ (i2 + (1 : Int32)).toNatClampNeg then none else
    (if i2 < 0 ∨ 8 ≤ i2.toNatClampNeg then none else
    (if (i2 + (1 : Int32)) < 0 ∨ 8 ≤ (i2 + (1 : Int32)).toNatClampNeg then none else
    (if i2 < 0 ∨ 8 ≤ i2.toNatClampNeg then none else
    (if (i2 + (1 : Int32)) < 0 ∨ 8 ≤ (i2 + (1 : Int32)).toNatClampNeg then none else
    (if i2 < 0 ∨ 8 ≤ i2.toNatClampNeg then none else
    ((S_X3_removeAt_L11 x_people n11) (i2 + (1 : Int32)) (upd x_kind i2.toNatClampNeg (x_kind (i2 + (1 : Int32)).toNatClampNeg)) (upd x_things i2.toNatClampNeg (x_things (i2 + (1 : Int32)).toNatClampNeg)) (upd x_feet i2.toNatClampNeg (x_feet (i2 + (1 : Int32)).toNatClampNeg))))))))))

def S_X3_removeAt (i1 : Int32) (x_people : Int32) (x_kind : Nat → Int32) (x_things : Nat → Int32) (x_feet : Nat → Int32) : Option (Int32 × (Nat → Int32) × (Nat → Int32) × (Nat → Int32)) :=
  (Option.bind (S_X3_has i1 x_people) (fun r2 =>
  (if r2 = 0 then
  some (x_people, x_kind, x_things, x_feet) else
  (S_X3_removeAt_L11 x_people 300 i1 x_kind x_things x_feet))))

def S_X3_thingsThrough (i1 : Int32) (x_firstPace : Int32) : Option (Int32) :=
  (if x_firstPace ≤ 0 then
  some (0 : Int32) else
  (if x_firstPace = 0 then none else
  some (i1 / x_firstPace)))

def S_X3_letGoBy_L17 (i4 : Int32) : Nat → Int32 → Int32 → Int32 → Int32 → (Nat → Int32) → (Nat → Int32) → (Nat → Int32) → Option (Int32 × Int32 × (Nat → Int32) × (Nat → Int32) × (Nat → Int32))
  | 0, _, _, _, _, _, _, _ => none
  | n17 + 1, i2, i3, i5, x_people, x_things, x_kind, x_feet =>
    (jn ((if x_people ≤ 0 then
    some (i3, x_people, x_things, x_kind, x_feet) else
    some (i3, x_people, upd x_things 0 ((x_things 0) - i2), x_kind, x_feet))) (fun J57 =>
    (if i4 ≤ i5 then
    J57 else
    (if i2 < (x_things 0) then
    J57 else
    (Option.bind (S_X3_removeAt (0 : Int32) x_people x_kind x_things x_feet) (fun (x_people_o45, x_kind_o45, x_things_o45, x_feet_o45) =>
    ((S_X3_letGoBy_L17 i4 n17) (i2 - (x_things 0)) (i3 + (1 : Int32)) (i5 + (1 : Int32)) x_people_o45 x_things_o45 x_kind_o45 x_feet_o45)))))))

def S_X3_letGoBy (i1 : Int32) (x_people : Int32) (x_firstPace : Int32) (x_things : Nat → Int32) (x_kind : Nat → Int32) (x_feet : Nat → Int32) : Option (Int32 × Int32 × (Nat → Int32) × (Nat → Int32) × (Nat → Int32)) :=
  (Option.bind (S_X3_thingsThrough i1 x_firstPace) (fun r2 =>
  (S_X3_letGoBy_L17 x_people 300 r2 (0 : Int32) (0 : Int32) x_people x_things x_kind x_feet)))

def S_X3_walk (i1 : Int32) (x_people : Int32) (x_steps : Int32) (x_feet : Nat → Int32) : Option (Int32) :=
  (Option.bind (S_X3_has i1 x_people) (fun r2 =>
  (if r2 = 0 then
  some (0 : Int32) else
  (if i1 < 0 ∨ 8 ≤ i1.toNatClampNeg then none else
  some ((x_feet i1.toNatClampNeg) * ((x_steps + x_people) - i1))))))

def S_X0_isAway (i1 : Int32) (x_away : Int32) : Option (Int32) :=
  (if ((x_away >>> (i1 &&& 31)) &&& (1 : Int32)) = (1 : Int32) then
  some (1 : Int32) else
  some (0 : Int32))

def S_X0_lineUp_L15 (rc9 : Int32 → Int32 → (Nat → Int32) → Option ((Nat → Int32))) (i1 : Int32) (i2 : Int32) (x_walk : Nat → Int32) : Nat → Int32 → (Nat → Int32) → Option ((Nat → Int32))
  | 0, _, _ => none
  | n15 + 1, i3, x_order =>
    (jn ((if i3 < 0 ∨ 8 ≤ i3.toNatClampNeg then none else
    (rc9 (i1 + (1 : Int32)) (i2 + (-1 : Int32)) (upd x_order i3.toNatClampNeg i2)))) (fun J61 =>
    (if i3 ≤ 0 then
    J61 else
    (if (i3 - (1 : Int32)) < 0 ∨ 8 ≤ (i3 - (1 : Int32)).toNatClampNeg then none else
    (if (x_order (i3 - (1 : Int32)).toNatClampNeg) < 0 ∨ 8 ≤ (x_order (i3 - (1 : Int32)).toNatClampNeg).toNatClampNeg then none else
    (if i2 < 0 ∨ 8 ≤ i2.toNatClampNeg then none else
    (if (x_walk (x_order (i3 - (1 : Int32)).toNatClampNeg).toNatClampNeg) ≤ (x_walk i2.toNatClampNeg) then
    J61 else
    (if (i3 - (1 : Int32)) < 0 ∨ 8 ≤ (i3 - (1 : Int32)).toNatClampNeg then none else
    (if i3 < 0 ∨ 8 ≤ i3.toNatClampNeg then none else
    ((S_X0_lineUp_L15 rc9 i1 i2 x_walk n15) (i3 + (-1 : Int32)) (upd x_order i3.toNatClampNeg (x_order (i3 - (1 : Int32)).toNatClampNeg))))))))))))

def S_X0_lineUp_L9 (x_walk : Nat → Int32) : Nat → Int32 → Int32 → (Nat → Int32) → Option ((Nat → Int32))
  | 0, _, _, _ => none
  | n9 + 1, i1, i2, x_order =>
    (if i2 < 0 then
    some x_order else
    (S_X0_lineUp_L15 (S_X0_lineUp_L9 x_walk n9) i1 i2 x_walk 300 i1 x_order))

def S_X0_lineUp (x_people : Int32) (x_order : Nat → Int32) (x_walk : Nat → Int32) : Option ((Nat → Int32)) :=
  (S_X0_lineUp_L9 x_walk 300 (0 : Int32) (x_people - (1 : Int32)) x_order)

def S_X0_lookAt_L10 (x_people : Int32) (x_order : Nat → Int32) (y_people : Int32) (y_firstPace : Int32) (y_secondPace : Int32) (y_steps : Int32) (y_kind : Nat → Int32) (y_feet : Nat → Int32) (y_things : Nat → Int32) : Nat → Int32 → (Nat → Int32) → (Nat → Int32) → (Nat → Int32) → (Nat → Int32) → Option (Int32 × (Nat → Int32) × (Nat → Int32) × (Nat → Int32) × (Nat → Int32) × (Nat → Int32))
  | 0, _, _, _, _, _ => none
  | n10 + 1, i2, x_kind, x_walk, x_first, x_second =>
    (if x_people ≤ i2 then
    (Option.bind (S_X0_lineUp x_people x_order x_walk) (fun x_order_o82 =>
    some (x_people, x_kind, x_walk, x_first, x_second, x_order_o82))) else
    (if i2 < 0 ∨ 8 ≤ i2.toNatClampNeg then none else
    (if i2 < 0 ∨ 8 ≤ i2.toNatClampNeg then none else
    (Option.bind (S_X3_walk i2 y_people y_steps y_feet) (fun r37 =>
    (if i2 < 0 ∨ 8 ≤ i2.toNatClampNeg then none else
    (if i2 < 0 ∨ 8 ≤ i2.toNatClampNeg then none else
    (if i2 < 0 ∨ 8 ≤ i2.toNatClampNeg then none else
    (if i2 < 0 ∨ 8 ≤ i2.toNatClampNeg then none else
    (if i2 < 0 ∨ 8 ≤ i2.toNatClampNeg then none else
    ((S_X0_lookAt_L10 x_people x_order y_people y_firstPace y_secondPace y_steps y_kind y_feet y_things n10) (i2 + (1 : Int32)) (upd x_kind i2.toNatClampNeg (y_kind i2.toNatClampNeg)) (upd x_walk i2.toNatClampNeg r37) (upd x_first i2.toNatClampNeg (y_firstPace * (y_things i2.toNatClampNeg))) (upd x_second i2.toNatClampNeg (y_secondPace * (y_things i2.toNatClampNeg))))))))))))))

def S_X0_lookAt (y_people : Int32) (y_firstPace : Int32) (y_secondPace : Int32) (y_steps : Int32) (y_kind : Nat → Int32) (x_kind : Nat → Int32) (y_feet : Nat → Int32) (x_walk : Nat → Int32) (y_things : Nat → Int32) (x_first : Nat → Int32) (x_second : Nat → Int32) (x_order : Nat → Int32) : Option (Int32 × (Nat → Int32) × (Nat → Int32) × (Nat → Int32) × (Nat → Int32) × (Nat → Int32)) :=
  (S_X0_lookAt_L10 y_people x_order y_people y_firstPace y_secondPace y_steps y_kind y_feet y_things 300 (0 : Int32) x_kind x_walk x_first x_second)

def S_X0_turnOf_L2 (i1 : Int32) (x_people : Int32) (x_order : Nat → Int32) : Nat → Int32 → Option (Int32)
  | 0, _ => none
  | n2 + 1, i2 =>
    (if x_people ≤ i2 then
    some (0 : Int32) else
    (if i2 < 0 ∨ 8 ≤ i2.toNatClampNeg then none else
    (if (x_order i2.toNatClampNeg) = i1 then
    some i2 else
    ((S_X0_turnOf_L2 i1 x_people x_order n2) (i2 + (1 : Int32))))))

def S_X0_turnOf (i1 : Int32) (x_people : Int32) (x_order : Nat → Int32) : Option (Int32) :=
  (S_X0_turnOf_L2 i1 x_people x_order 300 (0 : Int32))

def S_X0_readyInRow_L9 (i1 : Int32) (x_away : Int32) (x_first : Nat → Int32) : Nat → Int32 → Int32 → Option (Int32)
  | 0, _, _ => none
  | n9 + 1, i2, i3 =>
    (if i1 ≤ i3 then
    some i2 else
    (Option.bind (S_X0_isAway i3 x_away) (fun r16 =>
    (if r16 = 0 then
    (if i3 < 0 ∨ 8 ≤ i3.toNatClampNeg then none else
    ((S_X0_readyInRow_L9 i1 x_away x_first n9) (i2 + (x_first i3.toNatClampNeg)) (i3 + (1 : Int32)))) else
    ((S_X0_readyInRow_L9 i1 x_away x_first n9) i2 (i3 + (1 : Int32)))))))

def S_X0_readyInRow (i1 : Int32) (x_away : Int32) (x_first : Nat → Int32) : Option (Int32) :=
  (if i1 < 0 ∨ 8 ≤ i1.toNatClampNeg then none else
  (S_X0_readyInRow_L9 i1 x_away x_first 300 (x_first i1.toNatClampNeg) (0 : Int32)))

def S_X0_stayingAheadOf (i1 : Int32) (x_away : Int32) : Option (Int32) :=
  (Option.bind (S_J6_bitCount_0f7a4 (x_away &&& (((1 : Int32) <<< (i1 &&& 31)) - (1 : Int32)))) (fun r11 =>
  some (i1 - r11)))

def S_X0_wouldGo (i1 : Int32) (i2 : Int32) (x_away : Int32) (x_kind : Nat → Int32) (x_first : Nat → Int32) : Option (Int32) :=
  (if i1 < 0 ∨ 8 ≤ i1.toNatClampNeg then none else
  (if (x_kind i1.toNatClampNeg) = 1 then
  (Option.bind (S_X0_stayingAheadOf i1 x_away) (fun r34 =>
  (Option.bind (S_J6_bitCount_0f7a4 x_away) (fun r41 =>
  (if r34 ≤ r41 then
  some (0 : Int32) else
  some (1 : Int32)))))) else
  (if (x_kind i1.toNatClampNeg) = 2 then
  (Option.bind (S_X0_readyInRow i1 x_away x_first) (fun r56 =>
  (if r56 ≤ i2 then
  some (0 : Int32) else
  some (1 : Int32)))) else
  (if (x_kind i1.toNatClampNeg) = 3 then
  (Option.bind (S_X0_readyInRow i1 x_away x_first) (fun r56 =>
  (if r56 ≤ i2 then
  some (0 : Int32) else
  some (1 : Int32)))) else
  some (0 : Int32)))))

def S_X0_letTakePlacesBack_L2 (x_people : Int32) (x_kind : Nat → Int32) (x_first : Nat → Int32) (x_ready : Nat → Int32) : Nat → Int32 → Int32 → Option (Int32)
  | 0, _, _ => none
  | n2 + 1, i1, x_away =>
    (if x_people ≤ i1 then
    some x_away else
    (if i1 < 0 ∨ 8 ≤ i1.toNatClampNeg then none else
    (if (x_kind i1.toNatClampNeg) = (3 : Int32) then
    (Option.bind (S_X0_isAway i1 x_away) (fun r22 =>
    (if r22 = 0 then
    ((S_X0_letTakePlacesBack_L2 x_people x_kind x_first x_ready n2) (i1 + (1 : Int32)) x_away) else
    (Option.bind (S_X0_readyInRow i1 x_away x_first) (fun r30 =>
    (if i1 < 0 ∨ 8 ≤ i1.toNatClampNeg then none else
    (if (x_ready i1.toNatClampNeg) ≤ r30 then
    ((S_X0_letTakePlacesBack_L2 x_people x_kind x_first x_ready n2) (i1 + (1 : Int32)) x_away) else
    ((S_X0_letTakePlacesBack_L2 x_people x_kind x_first x_ready n2) (i1 + (1 : Int32)) (x_away &&& (((1 : Int32) <<< (i1 &&& 31)) ^^^ (-1 : Int32))))))))))) else
    ((S_X0_letTakePlacesBack_L2 x_people x_kind x_first x_ready n2) (i1 + (1 : Int32)) x_away))))

def S_X0_letTakePlacesBack (x_people : Int32) (x_away : Int32) (x_kind : Nat → Int32) (x_first : Nat → Int32) (x_ready : Nat → Int32) : Option (Int32) :=
  (S_X0_letTakePlacesBack_L2 x_people x_kind x_first x_ready 300 (0 : Int32) x_away)

def S_X0_serveRow_L4 (x_people : Int32) (x_away : Int32) (x_first : Nat → Int32) : Nat → Int32 → Int32 → (Nat → Int32) → Option ((Nat → Int32))
  | 0, _, _, _ => none
  | n4 + 1, i1, i2, x_ready =>
    (if x_people ≤ i2 then
    some x_ready else
    (Option.bind (S_X0_isAway i2 x_away) (fun r14 =>
    (if r14 = 0 then
    (if i2 < 0 ∨ 8 ≤ i2.toNatClampNeg then none else
    (if i2 < 0 ∨ 8 ≤ i2.toNatClampNeg then none else
    ((S_X0_serveRow_L4 x_people x_away x_first n4) (i1 + (x_first i2.toNatClampNeg)) (i2 + (1 : Int32)) (upd x_ready i2.toNatClampNeg (i1 + (x_first i2.toNatClampNeg)))))) else
    ((S_X0_serveRow_L4 x_people x_away x_first n4) i1 (i2 + (1 : Int32)) x_ready)))))

def S_X0_serveRow (x_people : Int32) (x_away : Int32) (x_first : Nat → Int32) (x_ready : Nat → Int32) : Option ((Nat → Int32)) :=
  (S_X0_serveRow_L4 x_people x_away x_first 300 (0 : Int32) (0 : Int32) x_ready)

def S_X0_letDecide_L9 (x_people : Int32) (x_order : Nat → Int32) (x_walk : Nat → Int32) (x_second : Nat → Int32) (x_kind : Nat → Int32) (x_first : Nat → Int32) : Nat → Int32 → Int32 → Int32 → (Nat → Int32) → Option (Int32 × (Nat → Int32))
  | 0, _, _, _, _ => none
  | n9 + 1, i1, i2, x_away, x_ready =>
    (if x_people ≤ i2 then
    (Option.bind (S_X0_letTakePlacesBack x_people x_away x_kind x_first x_ready) (fun x_away_o83 =>
    (Option.bind (S_X0_serveRow x_people x_away_o83 x_first x_ready) (fun x_ready_o87 =>
    some (x_away_o83, x_ready_o87))))) else
    (if i2 < 0 ∨ 8 ≤ i2.toNatClampNeg then none else
    (if (x_order i2.toNatClampNeg) < 0 ∨ 8 ≤ (x_order i2.toNatClampNeg).toNatClampNeg then none else
    (if (x_order i2.toNatClampNeg) < 0 ∨ 8 ≤ (x_order i2.toNatClampNeg).toNatClampNeg then none else
    (nm ((if i1 < (x_walk (x_order i2.toNatClampNeg).toNatClampNeg) then (x_walk (x_order i2.toNatClampNeg).toNatClampNeg) else i1) + (x_second (x_order i2.toNatClampNeg).toNatClampNeg)) (fun (v41 : Int32) =>
    (Option.bind (S_X0_wouldGo (x_order i2.toNatClampNeg) v41 x_away x_kind x_first) (fun r47 =>
    (if r47 = 0 then
    ((S_X0_letDecide_L9 x_people x_order x_walk x_second x_kind x_first n9) i1 (i2 + (1 : Int32)) x_away x_ready) else
    (if (x_order i2.toNatClampNeg) < 0 ∨ 8 ≤ (x_order i2.toNatClampNeg).toNatClampNeg then none else
    ((S_X0_letDecide_L9 x_people x_order x_walk x_second x_kind x_first n9) v41 (i2 + (1 : Int32)) (x_away ||| ((1 : Int32) <<< ((x_order i2.toNatClampNeg) &&& 31))) (upd x_ready (x_order i2.toNatClampNeg).toNatClampNeg v41))))))))))))

def S_X0_letDecide (x_people : Int32) (x_order : Nat → Int32) (x_walk : Nat → Int32) (x_second : Nat → Int32) (x_kind : Nat → Int32) (x_first : Nat → Int32) (x_ready : Nat → Int32) : Option (Int32 × (Nat → Int32)) :=
  (S_X0_letDecide_L9 x_people x_order x_walk x_second x_kind x_first 300 (0 : Int32) (0 : Int32) (0 : Int32) x_ready)

def S_X0_send_L9 (x_away : Int32) (x_people : Int32) (x_order : Nat → Int32) (x_walk : Nat → Int32) (x_second : Nat → Int32) (x_first : Nat → Int32) : Nat → Int32 → Int32 → (Nat → Int32) → Option (Int32 × (Nat → Int32))
  | 0, _, _, _ => none
  | n9 + 1, i2, i3, x_ready =>
    (if x_people ≤ i3 then
    (Option.bind (S_X0_serveRow x_people x_away x_first x_ready) (fun x_ready_o69 =>
    some (x_away, x_ready_o69))) else
    (if i3 < 0 ∨ 8 ≤ i3.toNatClampNeg then none else
    (Option.bind (S_X0_isAway (x_order i3.toNatClampNeg) x_away) (fun r28 =>
    (if r28 = 0 then
    ((S_X0_send_L9 x_away x_people x_order x_walk x_second x_first n9) i2 (i3 + (1 : Int32)) x_ready) else
    (if (x_order i3.toNatClampNeg) < 0 ∨ 8 ≤ (x_order i3.toNatClampNeg).toNatClampNeg then none else
    (if (x_order i3.toNatClampNeg) < 0 ∨ 8 ≤ (x_order i3.toNatClampNeg).toNatClampNeg then none else
    (nm ((if i2 < (x_walk (x_order i3.toNatClampNeg).toNatClampNeg) then (x_walk (x_order i3.toNatClampNeg).toNatClampNeg) else i2) + (x_second (x_order i3.toNatClampNeg).toNatClampNeg)) (fun (v53 : Int32) =>
    (if (x_order i3.toNatClampNeg) < 0 ∨ 8 ≤ (x_order i3.toNatClampNeg).toNatClampNeg then none else
    ((S_X0_send_L9 x_away x_people x_order x_walk x_second x_first n9) v53 (i3 + (1 : Int32)) (upd x_ready (x_order i3.toNatClampNeg).toNatClampNeg v53))))))))))))

def S_X0_send (i1 : Int32) (x_people : Int32) (x_order : Nat → Int32) (x_walk : Nat → Int32) (x_second : Nat → Int32) (x_ready : Nat → Int32) (x_first : Nat → Int32) : Option (Int32 × (Nat → Int32)) :=
  (S_X0_send_L9 i1 x_people x_order x_walk x_second x_first 300 (0 : Int32) (0 : Int32) x_ready)

def S_X0_shareOneRow_L6 (x_people : Int32) (x_first : Nat → Int32) (x_second : Nat → Int32) : Nat → Int32 → Int32 → Int32 → (Nat → Int32) → Option ((Nat → Int32))
  | 0, _, _, _, _ => none
  | n6 + 1, i1, i2, i3, x_ready =>
    (if x_people ≤ i3 then
    some x_ready else
    (if i2 < i1 then
    (if i3 < 0 ∨ 8 ≤ i3.toNatClampNeg then none else
    (if i3 < 0 ∨ 8 ≤ i3.toNatClampNeg then none else
    ((S_X0_shareOneRow_L6 x_people x_first x_second n6) i1 (i2 + (x_second i3.toNatClampNeg)) (i3 + (1 : Int32)) (upd x_ready i3.toNatClampNeg (i2 + (x_second i3.toNatClampNeg)))))) else
    (if i3 < 0 ∨ 8 ≤ i3.toNatClampNeg then none else
    (if i3 < 0 ∨ 8 ≤ i3.toNatClampNeg then none else
    ((S_X0_shareOneRow_L6 x_people x_first x_second n6) (i1 + (x_first i3.toNatClampNeg)) i2 (i3 + (1 : Int32)) (upd x_ready i3.toNatClampNeg (i1 + (x_first i3.toNatClampNeg))))))))

def S_X0_shareOneRow (x_people : Int32) (x_first : Nat → Int32) (x_ready : Nat → Int32) (x_second : Nat → Int32) : Option ((Nat → Int32)) :=
  (S_X0_shareOneRow_L6 x_people x_first x_second 300 (0 : Int32) (0 : Int32) (0 : Int32) x_ready)

def S_X0_servedThere_L4 (i1 : Int32) (x_people : Int32) (x_away : Int32) (x_order : Nat → Int32) : Nat → Int32 → Int32 → Option (Int32)
  | 0, _, _ => none
  | n4 + 1, i2, i3 =>
    (if x_people ≤ i3 then
    some (-4 : Int32) else
    (if i3 < 0 ∨ 8 ≤ i3.toNatClampNeg then none else
    (Option.bind (S_X0_isAway (x_order i3.toNatClampNeg) x_away) (fun r19 =>
    (if r19 = 0 then
    ((S_X0_servedThere_L4 i1 x_people x_away x_order n4) i2 (i3 + (1 : Int32))) else
    (if i2 = i1 then
    (if i3 < 0 ∨ 8 ≤ i3.toNatClampNeg then none else
    some (x_order i3.toNatClampNeg)) else
    ((S_X0_servedThere_L4 i1 x_people x_away x_order n4) (i2 + (1 : Int32)) (i3 + (1 : Int32)))))))))

def S_X0_servedThere (i1 : Int32) (x_people : Int32) (x_away : Int32) (x_order : Nat → Int32) : Option (Int32) :=
  (S_X0_servedThere_L4 i1 x_people x_away x_order 300 (0 : Int32) (0 : Int32))

def S_X0_latest_L4 (x_people : Int32) (x_ready : Nat → Int32) : Nat → Int32 → Int32 → Option (Int32)
  | 0, _, _ => none
  | n4 + 1, i1, i2 =>
    (if x_people ≤ i2 then
    some i1 else
    (if i2 < 0 ∨ 8 ≤ i2.toNatClampNeg then none else
    (nm (if i1 < (x_ready i2.toNatClampNeg) then (x_ready i2.toNatClampNeg) else i1) (fun (v22 : Int32) =>
    ((S_X0_latest_L4 x_people x_ready n4) v22 (i2 + (1 : Int32)))))))

def S_X0_latest (x_people : Int32) (x_ready : Nat → Int32) : Option (Int32) :=
  (S_X0_latest_L4 x_people x_ready 300 (0 : Int32) (0 : Int32))

def S_X0_sumOfHead_L4 (i1 : Int32) (x_people : Int32) (x_ready : Nat → Int32) : Nat → Int32 → Int32 → Option (Int32)
  | 0, _, _ => none
  | n4 + 1, i2, i3 =>
    (if i1 ≤ i3 then
    some i2 else
    (if x_people ≤ i3 then
    some i2 else
    (if i3 < 0 ∨ 8 ≤ i3.toNatClampNeg then none else
    ((S_X0_sumOfHead_L4 i1 x_people x_ready n4) (i2 + (x_ready i3.toNatClampNeg)) (i3 + (1 : Int32))))))

def S_X0_sumOfHead (i1 : Int32) (x_people : Int32) (x_ready : Nat → Int32) : Option (Int32) :=
  (S_X0_sumOfHead_L4 i1 x_people x_ready 300 (0 : Int32) (0 : Int32))

def S_X0_sum (x_people : Int32) (x_ready : Nat → Int32) : Option (Int32) :=
  (Option.bind (S_X0_sumOfHead x_people x_people x_ready) (fun r5 =>
  some r5))

def S_X0_readyOf (i1 : Int32) (x_people : Int32) (x_ready : Nat → Int32) : Option (Int32) :=
  (if i1 = (-2 : Int32) then
  (Option.bind (S_X0_sum x_people x_ready) (fun r7 =>
  some r7)) else
  (jn ((Option.bind (S_X0_latest x_people x_ready) (fun r33 =>
  some r33))) (fun J32 =>
  (if i1 < 0 then
  J32 else
  (if x_people ≤ i1 then
  J32 else
  (if i1 < 0 ∨ 8 ≤ i1.toNatClampNeg then none else
  some (x_ready i1.toNatClampNeg)))))))

def S_X0_overtakersOf_L6 (i1 : Int32) (x_people : Int32) (x_ready : Nat → Int32) : Nat → Int32 → Int32 → Option (Int32)
  | 0, _, _ => none
  | n6 + 1, i2, i3 =>
    (if x_people ≤ i3 then
    some i2 else
    (if i3 < 0 ∨ 8 ≤ i3.toNatClampNeg then none else
    (if i1 < 0 ∨ 8 ≤ i1.toNatClampNeg then none else
    (if (x_ready i1.toNatClampNeg) ≤ (x_ready i3.toNatClampNeg) then
    ((S_X0_overtakersOf_L6 i1 x_people x_ready n6) i2 (i3 + (1 : Int32))) else
    ((S_X0_overtakersOf_L6 i1 x_people x_ready n6) (i2 ||| ((1 : Int32) <<< (i3 &&& 31))) (i3 + (1 : Int32)))))))

def S_X0_overtakersOf (i1 : Int32) (x_people : Int32) (x_ready : Nat → Int32) : Option (Int32) :=
  (S_X0_overtakersOf_L6 i1 x_people x_ready 300 (0 : Int32) (i1 + (1 : Int32)))

def S_X0_overtakings_L4 (x_people : Int32) (x_ready : Nat → Int32) : Nat → Int32 → Int32 → Option (Int32)
  | 0, _, _ => none
  | n4 + 1, i1, i2 =>
    (if x_people ≤ i2 then
    some i1 else
    (Option.bind (S_X0_overtakersOf i2 x_people x_ready) (fun r15 =>
    (Option.bind (S_J6_bitCount_0f7a4 r15) (fun r18 =>
    ((S_X0_overtakings_L4 x_people x_ready n4) (i1 + r18) (i2 + (1 : Int32))))))))

def S_X0_overtakings (x_people : Int32) (x_ready : Nat → Int32) : Option (Int32) :=
  (S_X0_overtakings_L4 x_people x_ready 300 (0 : Int32) (0 : Int32))

def S_X4_append (i1 : Int32) (i2 : Int32) (x_length : Int32) (x_who : Nat → Int32) (x_where : Nat → Int32) : Option (Int32 × Int32 × (Nat → Int32) × (Nat → Int32)) :=
  (if x_length < (8 : Int32) then
  (if x_length < 0 ∨ 8 ≤ x_length.toNatClampNeg then none else
  (if x_length < 0 ∨ 8 ≤ x_length.toNatClampNeg then none else
  some ((1 : Int32), x_length + (1 : Int32), upd x_who x_length.toNatClampNeg i1, upd x_where x_length.toNatClampNeg i2))) else
  some ((0 : Int32), x_length, x_who, x_where))

def S_X4_agreesWith_L2 (i1 : Int32) (x_length : Int32) (x_who : Nat → Int32) (x_where : Nat → Int32) : Nat → Int32 → Option (Int32)
  | 0, _ => none
  | n2 + 1, i2 =>
    (if x_length ≤ i2 then
    some (1 : Int32) else
    (if i2 < 0 ∨ 8 ≤ i2.toNatClampNeg then none else
    (if i2 < 0 ∨ 8 ≤ i2.toNatClampNeg then none else
    (if ((i1 >>> ((x_who i2.toNatClampNeg) &&& 31)) &&& (1 : Int32)) = (x_where i2.toNatClampNeg) then
    ((S_X4_agreesWith_L2 i1 x_length x_who x_where n2) (i2 + (1 : Int32))) else
    some (0 : Int32)))))

def S_X4_agreesWith (i1 : Int32) (x_length : Int32) (x_who : Nat → Int32) (x_where : Nat → Int32) : Option (Int32) :=
  (S_X4_agreesWith_L2 i1 x_length x_who x_where 300 (0 : Int32))

def S_X5_append (i1 : Int32) (x_length : Int32) (x_letters : Nat → Int32) : Option (Int32 × Int32 × (Nat → Int32)) :=
  (if x_length < (200 : Int32) then
  (if x_length < 0 ∨ 200 ≤ x_length.toNatClampNeg then none else
  some ((1 : Int32), x_length + (1 : Int32), upd x_letters x_length.toNatClampNeg (vp_nar .char i1))) else
  some ((0 : Int32), x_length, x_letters))

def S_X5_letterAt (i1 : Int32) (x_length : Int32) (x_letters : Nat → Int32) : Option (Int32) :=
  (if i1 < 0 then
  some (0 : Int32) else
  (if x_length ≤ i1 then
  some (0 : Int32) else
  (if i1 < 0 ∨ 200 ≤ i1.toNatClampNeg then none else
  (if vp_nar .char (x_letters i1.toNatClampNeg) = (x_letters i1.toNatClampNeg) then some (x_letters i1.toNatClampNeg) else none))))

def S_X5_isFigure (i0 : Int32) : Option (Int32) :=
  (if i0 < (48 : Int32) then
  some (0 : Int32) else
  (if (57 : Int32) < i0 then
  some (0 : Int32) else
  some (1 : Int32)))

def S_X5_numbersBehind (i0 : Int32) : Option (Int32) :=
  (if i0 = (112 : Int32) then
  some (3 : Int32) else
  (if i0 = (115 : Int32) then
  some (2 : Int32) else
  (if i0 = (100 : Int32) then
  some (1 : Int32) else
  some (0 : Int32))))

def S_X5_endOfNumber_L2 (i1 : Int32) (x_length : Int32) (x_letters : Nat → Int32) : Nat → Int32 → Option (Int32)
  | 0, _ => none
  | n2 + 1, i2 =>
    (if (i1 + (2 : Int32)) ≤ i2 then
    some i2 else
    (Option.bind (S_X5_letterAt i2 x_length x_letters) (fun r11 =>
    (Option.bind (S_X5_isFigure r11) (fun r14 =>
    (if r14 = 0 then
    some i2 else
    ((S_X5_endOfNumber_L2 i1 x_length x_letters n2) (i2 + (1 : Int32)))))))))

def S_X5_endOfNumber (i1 : Int32) (x_length : Int32) (x_letters : Nat → Int32) : Option (Int32) :=
  (S_X5_endOfNumber_L2 i1 x_length x_letters 300 i1)

def S_X5_numberBetween_L5 (i2 : Int32) (x_length : Int32) (x_letters : Nat → Int32) : Nat → Int32 → Int32 → Option (Int32)
  | 0, _, _ => none
  | n5 + 1, i3, i4 =>
    (if i2 ≤ i4 then
    some i3 else
    (Option.bind (S_X5_letterAt i4 x_length x_letters) (fun r18 =>
    (nm ((i3 * (10 : Int32)) + (r18 - (48 : Int32))) (fun (v25 : Int32) =>
    ((S_X5_numberBetween_L5 i2 x_length x_letters n5) v25 (i4 + (1 : Int32))))))))

def S_X5_numberBetween (i1 : Int32) (i2 : Int32) (x_length : Int32) (x_letters : Nat → Int32) : Option (Int32) :=
  (S_X5_numberBetween_L5 i2 x_length x_letters 300 (0 : Int32) i1)

def S_X5_endOfItem_L22 (i1 : Int32) (i2 : Int32) (x_length : Int32) (x_letters : Nat → Int32) : Nat → Int32 → Int32 → (Nat → Int32) → Option (Int32 × (Nat → Int32))
  | 0, _, _, _ => none
  | n22 + 1, i3, i4, x_numbers =>
    (if i2 ≤ i4 then
    some (i3, x_numbers) else
    (Option.bind (S_X5_endOfNumber i3 x_length x_letters) (fun r30 =>
    (jn (fun (s0_50 : Int32) => (if r30 = i3 then
    some (i1, x_numbers) else
    (Option.bind (S_X5_letterAt r30 x_length x_letters) (fun r61 =>
    (if r61 = s0_50 then
    (Option.bind (S_X5_numberBetween i3 r30 x_length x_letters) (fun r81 =>
    (if i4 < 0 ∨ 3 ≤ i4.toNatClampNeg then none else
    ((S_X5_endOfItem_L22 i1 i2 x_length x_letters n22) (r30 + (1 : Int32)) (i4 + (1 : Int32)) (upd x_numbers i4.toNatClampNeg r81))))) else
    some (i1, x_numbers)))))) (fun J50 =>
    (if i2 ≤ (i4 + (1 : Int32)) then
    (J50 (59 : Int32)) else
    (J50 (44 : Int32))))))))

def S_X5_endOfItem (i1 : Int32) (x_length : Int32) (x_letters : Nat → Int32) (x_numbers : Nat → Int32) : Option (Int32 × (Nat → Int32)) :=
  (Option.bind (S_X5_letterAt i1 x_length x_letters) (fun r2 =>
  (Option.bind (S_X5_numbersBehind r2) (fun r5 =>
  (if r5 = 0 then
  some (i1, x_numbers) else
  (S_X5_endOfItem_L22 i1 r5 x_length x_letters 300 (i1 + (1 : Int32)) (0 : Int32) x_numbers))))))

def S_X5_tell (i1 : Int32) (x_numbers : Nat → Int32) (y_people : Int32) (y_firstPace : Int32) (y_secondPace : Int32) (y_steps : Int32) (y_kind : Nat → Int32) (y_things : Nat → Int32) (y_feet : Nat → Int32) : Option (Int32 × Int32 × Int32 × Int32 × Int32 × (Nat → Int32) × (Nat → Int32) × (Nat → Int32)) :=
  (if i1 = (112 : Int32) then
  (Option.bind (S_X3_append (x_numbers 0) (x_numbers 1) (x_numbers 2) y_people y_kind y_things y_feet) (fun (r25, y_people_o25, y_kind_o25, y_things_o25, y_feet_o25) =>
  (if vp_nar .boolean r25 = r25 then some (r25, y_people_o25, y_firstPace, y_secondPace, y_steps, y_kind_o25, y_things_o25, y_feet_o25) else none))) else
  (if i1 = (115 : Int32) then
  (Option.bind (S_X3_setPaces (x_numbers 0) (x_numbers 1) y_firstPace y_secondPace) (fun (r48, y_firstPace_o48, y_secondPace_o48) =>
  (if vp_nar .boolean r48 = r48 then some (r48, y_people, y_firstPace_o48, y_secondPace_o48, y_steps, y_kind, y_things, y_feet) else none))) else
  (if i1 = (100 : Int32) then
  (Option.bind (S_X3_setSteps (x_numbers 0) y_steps) (fun (r65, y_steps_o65) =>
  (if r65 = 0 then
  some ((0 : Int32), y_people, y_firstPace, y_secondPace, y_steps_o65, y_kind, y_things, y_feet) else
  some ((1 : Int32), y_people, y_firstPace, y_secondPace, y_steps_o65, y_kind, y_things, y_feet)))) else
  some ((0 : Int32), y_people, y_firstPace, y_secondPace, y_steps, y_kind, y_things, y_feet))))

def S_X5_readInto_L8 (x_length : Int32) (x_letters : Nat → Int32) : Nat → Int32 → Int32 → Int32 → Int32 → Int32 → Int32 → (Nat → Int32) → (Nat → Int32) → (Nat → Int32) → (Nat → Int32) → Option (Int32 × Int32 × Int32 × Int32 × Int32 × (Nat → Int32) × (Nat → Int32) × (Nat → Int32) × (Nat → Int32))
  | 0, _, _, _, _, _, _, _, _, _, _ => none
  | n8 + 1, i2, i3, y_people, y_firstPace, y_secondPace, y_steps, x_numbers, y_kind, y_things, y_feet =>
    (if (200 : Int32) ≤ i3 then
    some ((-4 : Int32), y_people, y_firstPace, y_secondPace, y_steps, x_numbers, y_kind, y_things, y_feet) else
    (if x_length ≤ i2 then
    some ((-4 : Int32), y_people, y_firstPace, y_secondPace, y_steps, x_numbers, y_kind, y_things, y_feet) else
    (Option.bind (S_X5_endOfItem i2 x_length x_letters x_numbers) (fun (r25, x_numbers_o25) =>
    (if r25 = i2 then
    some (i2, y_people, y_firstPace, y_secondPace, y_steps, x_numbers_o25, y_kind, y_things, y_feet) else
    (Option.bind (S_X5_letterAt i2 x_length x_letters) (fun r39 =>
    (Option.bind (S_X5_tell r39 x_numbers_o25 y_people y_firstPace y_secondPace y_steps y_kind y_things y_feet) (fun (r43, y_people_o43, y_firstPace_o43, y_secondPace_o43, y_steps_o43, y_kind_o43, y_things_o43, y_feet_o43) =>
    (if r43 = 0 then
    some (i2, y_people_o43, y_firstPace_o43, y_secondPace_o43, y_steps_o43, x_numbers_o25, y_kind_o43, y_things_o43, y_feet_o43) else
    ((S_X5_readInto_L8 x_length x_letters n8) r25 (i3 + (1 : Int32)) y_people_o43 y_firstPace_o43 y_secondPace_o43 y_steps_o43 x_numbers_o25 y_kind_o43 y_things_o43 y_feet_o43)))))))))))

def S_X5_readInto (x_length : Int32) (x_letters : Nat → Int32) (x_numbers : Nat → Int32) (y_kind : Nat → Int32) (y_things : Nat → Int32) (y_feet : Nat → Int32) : Option (Int32 × Int32 × Int32 × Int32 × Int32 × (Nat → Int32) × (Nat → Int32) × (Nat → Int32) × (Nat → Int32)) :=
  (Option.bind (S_X3_becomeUntold) (fun (y_people_o1, y_firstPace_o1, y_secondPace_o1, y_steps_o1) =>
  (S_X5_readInto_L8 x_length x_letters 300 (0 : Int32) (0 : Int32) y_people_o1 y_firstPace_o1 y_secondPace_o1 y_steps_o1 x_numbers y_kind y_things y_feet)))

def S_X2_worth (i1 : Int32) (x_trial_people : Int32) (x_trial_ready : Nat → Int32) : Option (Int32) :=
  (if i1 = 0 then
  (Option.bind (S_X0_latest x_trial_people x_trial_ready) (fun r8 =>
  some r8)) else
  (Option.bind (S_X0_sum x_trial_people x_trial_ready) (fun r18 =>
  some r18)))

def S_X2_findLeast_L40 (i2 : Int32) (i3 : Int32) (x_trial_people : Int32) (x_trial_kind : Nat → Int32) (x_trial_walk : Nat → Int32) (x_trial_first : Nat → Int32) (x_trial_second : Nat → Int32) (x_trial_order : Nat → Int32) : Nat → Int32 → Int32 → Int32 → Int32 → (Nat → Int32) → Option (Int32 × Int32 × Int32 × Int32 × (Nat → Int32) × (Nat → Int32) × (Nat → Int32) × (Nat → Int32) × (Nat → Int32) × (Nat → Int32))
  | 0, _, _, _, _, _ => none
  | n40 + 1, i4, x_set, x_least, x_trial_away, x_trial_ready =>
    (if i3 ≤ i4 then
    some (x_set, x_least, x_trial_people, x_trial_away, x_trial_kind, x_trial_walk, x_trial_first, x_trial_second, x_trial_order, x_trial_ready) else
    (Option.bind (S_X0_send i4 x_trial_people x_trial_order x_trial_walk x_trial_second x_trial_ready x_trial_first) (fun (x_trial_away_o52, x_trial_ready_o52) =>
    (Option.bind (S_X2_worth i2 x_trial_people x_trial_ready_o52) (fun r57 =>
    (if x_least ≤ r57 then
    ((S_X2_findLeast_L40 i2 i3 x_trial_people x_trial_kind x_trial_walk x_trial_first x_trial_second x_trial_order n40) (i4 + (1 : Int32)) x_set x_least x_trial_away_o52 x_trial_ready_o52) else
    (jn (((S_X2_findLeast_L40 i2 i3 x_trial_people x_trial_kind x_trial_walk x_trial_first x_trial_second x_trial_order n40) (i4 + (1 : Int32)) i4 r57 x_trial_away_o52 x_trial_ready_o52)) (fun J86 =>
    (if i2 = (2 : Int32) then
    (Option.bind (S_X0_overtakings x_trial_people x_trial_ready_o52) (fun r80 =>
    (if r80 = 0 then
    J86 else
    ((S_X2_findLeast_L40 i2 i3 x_trial_people x_trial_kind x_trial_walk x_trial_first x_trial_second x_trial_order n40) (i4 + (1 : Int32)) x_set x_least x_trial_away_o52 x_trial_ready_o52)))) else
    J86)))))))))

def S_X2_findLeast (i2 : Int32) (y_people : Int32) (y_firstPace : Int32) (y_secondPace : Int32) (y_steps : Int32) (y_kind : Nat → Int32) (x_trial_kind : Nat → Int32) (y_feet : Nat → Int32) (x_trial_walk : Nat → Int32) (y_things : Nat → Int32) (x_trial_first : Nat → Int32) (x_trial_second : Nat → Int32) (x_trial_order : Nat → Int32) (x_trial_ready : Nat → Int32) : Option (Int32 × Int32 × Int32 × Int32 × (Nat → Int32) × (Nat → Int32) × (Nat → Int32) × (Nat → Int32) × (Nat → Int32) × (Nat → Int32)) :=
  (Option.bind (S_X0_lookAt y_people y_firstPace y_secondPace y_steps y_kind x_trial_kind y_feet x_trial_walk y_things x_trial_first x_trial_second x_trial_order) (fun (x_trial_people_o5, x_trial_kind_o5, x_trial_walk_o5, x_trial_first_o5, x_trial_second_o5, x_trial_order_o5) =>
  (Option.bind (S_X0_send (0 : Int32) x_trial_people_o5 x_trial_order_o5 x_trial_walk_o5 x_trial_second_o5 x_trial_ready x_trial_first_o5) (fun (x_trial_away_o13, x_trial_ready_o13) =>
  (Option.bind (S_X2_worth i2 x_trial_people_o5 x_trial_ready_o13) (fun r24 =>
  (S_X2_findLeast_L40 i2 ((1 : Int32) <<< (y_people &&& 31)) x_trial_people_o5 x_trial_kind_o5 x_trial_walk_o5 x_trial_first_o5 x_trial_second_o5 x_trial_order_o5 300 (1 : Int32) (0 : Int32) r24 x_trial_away_o13 x_trial_ready_o13)))))))

def S_X1_put8 (x_height : Int32) (x_pf : Nat → Option Nat) (x_ad : Nat → Nat) (x_pp : Nat → Int32) (x_fp : Nat → Int32) (x_sp : Nat → Int32) (x_st : Nat → Int32) (x_kd : Nat → Nat → Int32) (x_th : Nat → Nat → Int32) (x_ft : Nat → Nat → Int32) (y_people : Int32) (y_firstPace : Int32) (y_secondPace : Int32) (y_steps : Int32) (y_kind : Nat → Int32) (y_things : Nat → Int32) (y_feet : Nat → Int32) : Option (Int32 × Int32 × (Nat → Int32) × (Nat → Int32) × (Nat → Int32) × (Nat → Int32) × (Nat → Nat → Int32) × (Nat → Nat → Int32) × (Nat → Nat → Int32)) :=
  (if ∀ j, j < 8 → x_pf j = some (x_ad j) then
  (if x_height < (8 : Int32) then
  (if x_height < 0 ∨ 8 ≤ x_height.toNatClampNeg then none else
  (Option.bind (S_X3_becomeLike y_people y_firstPace y_secondPace y_steps y_kind (x_kd x_height.toNatClampNeg) y_things (x_th x_height.toNatClampNeg) y_feet (x_ft x_height.toNatClampNeg)) (fun (p_people, p_firstPace, p_secondPace, p_steps, p_kind, p_things, p_feet) =>
  some ((1 : Int32), x_height + (1 : Int32), va_up x_pp x_height.toNatClampNeg p_people, va_up x_fp x_height.toNatClampNeg p_firstPace, va_up x_sp x_height.toNatClampNeg p_secondPace, va_up x_st x_height.toNatClampNeg p_steps, va_up x_kd x_height.toNatClampNeg p_kind, va_up x_th x_height.toNatClampNeg p_things, va_up x_ft x_height.toNatClampNeg p_feet)))) else
  some (0, x_height, x_pp, x_fp, x_sp, x_st, x_kd, x_th, x_ft)) else none)

def S_X1_putDroppingOldest8 (x_height : Int32) (x_pf : Nat → Option Nat) (x_ad : Nat → Nat) (x_a1 : Nat → Nat) (x_a2 : Nat → Nat) (x_a3 : Nat → Nat) (x_pp : Nat → Int32) (x_fp : Nat → Int32) (x_sp : Nat → Int32) (x_st : Nat → Int32) (x_kd : Nat → Nat → Int32) (x_th : Nat → Nat → Int32) (x_ft : Nat → Nat → Int32) (y_people : Int32) (y_firstPace : Int32) (y_secondPace : Int32) (y_steps : Int32) (y_kind : Nat → Int32) (y_things : Nat → Int32) (y_feet : Nat → Int32) : Option (Int32 × (Nat → Option Nat) × (Nat → Nat) × (Nat → Nat) × (Nat → Nat) × (Nat → Nat) × (Nat → Int32) × (Nat → Int32) × (Nat → Int32) × (Nat → Int32) × (Nat → Nat → Int32) × (Nat → Nat → Int32) × (Nat → Nat → Int32)) :=
  (if ∀ j, j < 8 → x_pf j = some (x_ad j) then
  (if x_height < (8 : Int32) then
  (Option.bind (S_X1_put8 x_height x_pf x_ad x_pp x_fp x_sp x_st x_kd x_th x_ft y_people y_firstPace y_secondPace y_steps y_kind y_things y_feet) (fun (r78, p_x_height, p_x_pp, p_x_fp, p_x_sp, p_x_st, p_x_kd, p_x_th, p_x_ft) =>
  some (p_x_height, x_pf, x_ad, x_a1, x_a2, x_a3, p_x_pp, p_x_fp, p_x_sp, p_x_st, p_x_kd, p_x_th, p_x_ft))) else
  (Option.bind (S_X1_put8 ((8 : Int32) - (1 : Int32)) (va_up (va_up (va_up (va_up (va_up (va_up (va_up (va_up (x_pf) 0 (some (x_ad 1))) 1 (some (x_ad 2))) 2 (some (x_ad 3))) 3 (some (x_ad 4))) 4 (some (x_ad 5))) 5 (some (x_ad 6))) 6 (some (x_ad 7))) 7 (some (x_ad 0))) (rotN 8 x_ad) (rotN 8 x_pp) (rotN 8 x_fp) (rotN 8 x_sp) (rotN 8 x_st) (rotN 8 x_kd) (rotN 8 x_th) (rotN 8 x_ft) y_people y_firstPace y_secondPace y_steps y_kind y_things y_feet) (fun (r78, p_x_height, p_x_pp, p_x_fp, p_x_sp, p_x_st, p_x_kd, p_x_th, p_x_ft) =>
  some (p_x_height, va_up (va_up (va_up (va_up (va_up (va_up (va_up (va_up (x_pf) 0 (some (x_ad 1))) 1 (some (x_ad 2))) 2 (some (x_ad 3))) 3 (some (x_ad 4))) 4 (some (x_ad 5))) 5 (some (x_ad 6))) 6 (some (x_ad 7))) 7 (some (x_ad 0)), rotN 8 x_ad, rotN 8 x_a1, rotN 8 x_a2, rotN 8 x_a3, p_x_pp, p_x_fp, p_x_sp, p_x_st, p_x_kd, p_x_th, p_x_ft)))) else none)

def S_X1_takeInto8 (x_height : Int32) (x_pf : Nat → Option Nat) (x_ad : Nat → Nat) (x_pp : Nat → Int32) (x_fp : Nat → Int32) (x_sp : Nat → Int32) (x_st : Nat → Int32) (x_kd : Nat → Nat → Int32) (x_th : Nat → Nat → Int32) (x_ft : Nat → Nat → Int32) (y_people : Int32) (y_firstPace : Int32) (y_secondPace : Int32) (y_steps : Int32) (y_kind : Nat → Int32) (y_things : Nat → Int32) (y_feet : Nat → Int32) : Option (Int32 × Int32 × Int32 × Int32 × Int32 × Int32 × (Nat → Int32) × (Nat → Int32) × (Nat → Int32)) :=
  (if ∀ j, j < 8 → x_pf j = some (x_ad j) then
  (if 0 < x_height then
  (if (x_height - (1 : Int32)) < 0 ∨ 8 ≤ (x_height - (1 : Int32)).toNatClampNeg then none else
  (Option.bind (S_X3_becomeLike (x_pp (x_height - (1 : Int32)).toNatClampNeg) (x_fp (x_height - (1 : Int32)).toNatClampNeg) (x_sp (x_height - (1 : Int32)).toNatClampNeg) (x_st (x_height - (1 : Int32)).toNatClampNeg) (x_kd (x_height - (1 : Int32)).toNatClampNeg) y_kind (x_th (x_height - (1 : Int32)).toNatClampNeg) y_things (x_ft (x_height - (1 : Int32)).toNatClampNeg) y_feet) (fun (p_x_people, p_x_firstPace, p_x_secondPace, p_x_steps, p_x_kind, p_x_things, p_x_feet) =>
  some ((1 : Int32), x_height - (1 : Int32), p_x_people, p_x_firstPace, p_x_secondPace, p_x_steps, p_x_kind, p_x_things, p_x_feet)))) else
  some ((0 : Int32), x_height, y_people, y_firstPace, y_secondPace, y_steps, y_kind, y_things, y_feet)) else none)

def S_X1_put2 (x_height : Int32) (x_pf : Nat → Option Nat) (x_ad : Nat → Nat) (x_pp : Nat → Int32) (x_fp : Nat → Int32) (x_sp : Nat → Int32) (x_st : Nat → Int32) (x_kd : Nat → Nat → Int32) (x_th : Nat → Nat → Int32) (x_ft : Nat → Nat → Int32) (y_people : Int32) (y_firstPace : Int32) (y_secondPace : Int32) (y_steps : Int32) (y_kind : Nat → Int32) (y_things : Nat → Int32) (y_feet : Nat → Int32) : Option (Int32 × Int32 × (Nat → Int32) × (Nat → Int32) × (Nat → Int32) × (Nat → Int32) × (Nat → Nat → Int32) × (Nat → Nat → Int32) × (Nat → Nat → Int32)) :=
  (if ∀ j, j < 2 → x_pf j = some (x_ad j) then
  (if x_height < (2 : Int32) then
  (if x_height < 0 ∨ 2 ≤ x_height.toNatClampNeg then none else
  (Option.bind (S_X3_becomeLike y_people y_firstPace y_secondPace y_steps y_kind (x_kd x_height.toNatClampNeg) y_things (x_th x_height.toNatClampNeg) y_feet (x_ft x_height.toNatClampNeg)) (fun (p_people, p_firstPace, p_secondPace, p_steps, p_kind, p_things, p_feet) =>
  some ((1 : Int32), x_height + (1 : Int32), va_up x_pp x_height.toNatClampNeg p_people, va_up x_fp x_height.toNatClampNeg p_firstPace, va_up x_sp x_height.toNatClampNeg p_secondPace, va_up x_st x_height.toNatClampNeg p_steps, va_up x_kd x_height.toNatClampNeg p_kind, va_up x_th x_height.toNatClampNeg p_things, va_up x_ft x_height.toNatClampNeg p_feet)))) else
  some (0, x_height, x_pp, x_fp, x_sp, x_st, x_kd, x_th, x_ft)) else none)

def S_X1_putDroppingOldest2 (x_height : Int32) (x_pf : Nat → Option Nat) (x_ad : Nat → Nat) (x_a1 : Nat → Nat) (x_a2 : Nat → Nat) (x_a3 : Nat → Nat) (x_pp : Nat → Int32) (x_fp : Nat → Int32) (x_sp : Nat → Int32) (x_st : Nat → Int32) (x_kd : Nat → Nat → Int32) (x_th : Nat → Nat → Int32) (x_ft : Nat → Nat → Int32) (y_people : Int32) (y_firstPace : Int32) (y_secondPace : Int32) (y_steps : Int32) (y_kind : Nat → Int32) (y_things : Nat → Int32) (y_feet : Nat → Int32) : Option (Int32 × (Nat → Option Nat) × (Nat → Nat) × (Nat → Nat) × (Nat → Nat) × (Nat → Nat) × (Nat → Int32) × (Nat → Int32) × (Nat → Int32) × (Nat → Int32) × (Nat → Nat → Int32) × (Nat → Nat → Int32) × (Nat → Nat → Int32)) :=
  (if ∀ j, j < 2 → x_pf j = some (x_ad j) then
  (if x_height < (2 : Int32) then
  (Option.bind (S_X1_put2 x_height x_pf x_ad x_pp x_fp x_sp x_st x_kd x_th x_ft y_people y_firstPace y_secondPace y_steps y_kind y_things y_feet) (fun (r78, p_x_height, p_x_pp, p_x_fp, p_x_sp, p_x_st, p_x_kd, p_x_th, p_x_ft) =>
  some (p_x_height, x_pf, x_ad, x_a1, x_a2, x_a3, p_x_pp, p_x_fp, p_x_sp, p_x_st, p_x_kd, p_x_th, p_x_ft))) else
  (Option.bind (S_X1_put2 ((2 : Int32) - (1 : Int32)) (va_up (va_up (x_pf) 0 (some (x_ad 1))) 1 (some (x_ad 0))) (rotN 2 x_ad) (rotN 2 x_pp) (rotN 2 x_fp) (rotN 2 x_sp) (rotN 2 x_st) (rotN 2 x_kd) (rotN 2 x_th) (rotN 2 x_ft) y_people y_firstPace y_secondPace y_steps y_kind y_things y_feet) (fun (r78, p_x_height, p_x_pp, p_x_fp, p_x_sp, p_x_st, p_x_kd, p_x_th, p_x_ft) =>
  some (p_x_height, va_up (va_up (x_pf) 0 (some (x_ad 1))) 1 (some (x_ad 0)), rotN 2 x_ad, rotN 2 x_a1, rotN 2 x_a2, rotN 2 x_a3, p_x_pp, p_x_fp, p_x_sp, p_x_st, p_x_kd, p_x_th, p_x_ft)))) else none)

def S_X1_takeInto2 (x_height : Int32) (x_pf : Nat → Option Nat) (x_ad : Nat → Nat) (x_pp : Nat → Int32) (x_fp : Nat → Int32) (x_sp : Nat → Int32) (x_st : Nat → Int32) (x_kd : Nat → Nat → Int32) (x_th : Nat → Nat → Int32) (x_ft : Nat → Nat → Int32) (y_people : Int32) (y_firstPace : Int32) (y_secondPace : Int32) (y_steps : Int32) (y_kind : Nat → Int32) (y_things : Nat → Int32) (y_feet : Nat → Int32) : Option (Int32 × Int32 × Int32 × Int32 × Int32 × Int32 × (Nat → Int32) × (Nat → Int32) × (Nat → Int32)) :=
  (if ∀ j, j < 2 → x_pf j = some (x_ad j) then
  (if 0 < x_height then
  (if (x_height - (1 : Int32)) < 0 ∨ 2 ≤ (x_height - (1 : Int32)).toNatClampNeg then none else
  (Option.bind (S_X3_becomeLike (x_pp (x_height - (1 : Int32)).toNatClampNeg) (x_fp (x_height - (1 : Int32)).toNatClampNeg) (x_sp (x_height - (1 : Int32)).toNatClampNeg) (x_st (x_height - (1 : Int32)).toNatClampNeg) (x_kd (x_height - (1 : Int32)).toNatClampNeg) y_kind (x_th (x_height - (1 : Int32)).toNatClampNeg) y_things (x_ft (x_height - (1 : Int32)).toNatClampNeg) y_feet) (fun (p_x_people, p_x_firstPace, p_x_secondPace, p_x_steps, p_x_kind, p_x_things, p_x_feet) =>
  some ((1 : Int32), x_height - (1 : Int32), p_x_people, p_x_firstPace, p_x_secondPace, p_x_steps, p_x_kind, p_x_things, p_x_feet)))) else
  some ((0 : Int32), x_height, y_people, y_firstPace, y_secondPace, y_steps, y_kind, y_things, y_feet)) else none)

def S_X7_in (j0 : Int64) (j2 : Int64) (j4 : Int64) : Option (Int32) :=
  (if (lg_cmp j0 j2) < 0 then
  some (0 : Int32) else
  (if 0 < (lg_cmp j0 j4) then
  some (0 : Int32) else
  some (1 : Int32)))

def S_X7_stands (i1 : Int32) (i2 : Int32) (i3 : Int32) (x_row : Nat → Int32) : Option ((Nat → Int32)) :=
  (if ((4 : Int32) + ((3 : Int32) * (x_row 0))) < 0 ∨ 28 ≤ ((4 : Int32) + ((3 : Int32) * (x_row 0))).toNatClampNeg then none else
  (if (((4 : Int32) + ((3 : Int32) * (x_row 0))) + (1 : Int32)) < 0 ∨ 28 ≤ (((4 : Int32) + ((3 : Int32) * (x_row 0))) + (1 : Int32)).toNatClampNeg then none else
  (if (((4 : Int32) + ((3 : Int32) * (x_row 0))) + (2 : Int32)) < 0 ∨ 28 ≤ (((4 : Int32) + ((3 : Int32) * (x_row 0))) + (2 : Int32)).toNatClampNeg then none else
  some (upd (upd (upd (upd x_row ((4 : Int32) + ((3 : Int32) * (x_row 0))).toNatClampNeg i1) (((4 : Int32) + ((3 : Int32) * (x_row 0))) + (1 : Int32)).toNatClampNeg i2) (((4 : Int32) + ((3 : Int32) * (x_row 0))) + (2 : Int32)).toNatClampNeg i3) 0 (((upd (upd (upd x_row ((4 : Int32) + ((3 : Int32) * (x_row 0))).toNatClampNeg i1) (((4 : Int32) + ((3 : Int32) * (x_row 0))) + (1 : Int32)).toNatClampNeg i2) (((4 : Int32) + ((3 : Int32) * (x_row 0))) + (2 : Int32)).toNatClampNeg i3) 0) + (1 : Int32))))))

def S_X7_goesAway_L6 : Nat → Int32 → (Nat → Int32) → Option ((Nat → Int32))
  | 0, _, _ => none
  | n6 + 1, i2, x_row =>
    (if (25 : Int32) ≤ i2 then
    some (upd x_row 0 ((x_row 0) - (1 : Int32))) else
    (if (i2 + (3 : Int32)) < 0 ∨ 28 ≤ (i2 + (3 : Int32)).toNatClampNeg then none else
    (if i2 < 0 ∨ 28 ≤ i2.toNatClampNeg then none else
    ((S_X7_goesAway_L6 n6) (i2 + (1 : Int32)) (upd x_row i2.toNatClampNeg (x_row (i2 + (3 : Int32)).toNatClampNeg))))))

def S_X7_goesAway (i1 : Int32) (x_row : Nat → Int32) : Option ((Nat → Int32)) :=
  (S_X7_goesAway_L6 300 ((4 : Int32) + ((3 : Int32) * i1)) x_row)

def S_X7_isPerson (i1 : Int32) (x_row : Nat → Int32) : Option (Int32) :=
  (Option.bind (S_X7_in i1.toInt64 (0 : Int64) (((x_row 0) - (1 : Int32)).toInt64)) (fun r12 =>
  (if vp_nar .boolean r12 = r12 then some r12 else none)))

def S_X7_kind (i1 : Int32) (x_row : Nat → Int32) : Option (Int32) :=
  (if ((4 : Int32) + ((3 : Int32) * i1)) < 0 ∨ 28 ≤ ((4 : Int32) + ((3 : Int32) * i1)).toNatClampNeg then none else
  some (x_row ((4 : Int32) + ((3 : Int32) * i1)).toNatClampNeg))

def S_X7_things (i1 : Int32) (x_row : Nat → Int32) : Option (Int32) :=
  (if (((4 : Int32) + ((3 : Int32) * i1)) + (1 : Int32)) < 0 ∨ 28 ≤ (((4 : Int32) + ((3 : Int32) * i1)) + (1 : Int32)).toNatClampNeg then none else
  some (x_row (((4 : Int32) + ((3 : Int32) * i1)) + (1 : Int32)).toNatClampNeg))

def S_X7_walk (i1 : Int32) (x_row : Nat → Int32) : Option (Int32) :=
  (if (((4 : Int32) + ((3 : Int32) * i1)) + (2 : Int32)) < 0 ∨ 28 ≤ (((4 : Int32) + ((3 : Int32) * i1)) + (2 : Int32)).toNatClampNeg then none else
  some ((x_row (((4 : Int32) + ((3 : Int32) * i1)) + (2 : Int32)).toNatClampNeg) * (((x_row 3) + (x_row 0)) - i1)))

def S_X7_person (i1 : Int32) (i2 : Int32) (x_row : Nat → Int32) : Option (Int32) :=
  (Option.bind (S_X7_isPerson i1 x_row) (fun r2 =>
  (if r2 = 0 then
  some (-1 : Int32) else
  (Option.bind (S_X7_in i2.toInt64 (0 : Int64) (3 : Int64)) (fun r14 =>
  (if r14 = 0 then
  some (-1 : Int32) else
  (if (3 : Int32) ≤ i2 then
  (Option.bind (S_X7_walk i1 x_row) (fun r44 =>
  some r44)) else
  (if (((4 : Int32) + ((3 : Int32) * i1)) + i2) < 0 ∨ 28 ≤ (((4 : Int32) + ((3 : Int32) * i1)) + i2).toNatClampNeg then none else
  some (x_row (((4 : Int32) + ((3 : Int32) * i1)) + i2).toNatClampNeg)))))))))

def S_X7_write (i1 : Int32) (x_letters : Int32) (x_text : Nat → Int32) : Option (Int32 × Int32 × (Nat → Int32)) :=
  (Option.bind (S_X7_in i1.toInt64 (32 : Int64) (126 : Int64)) (fun r8 =>
  (if r8 = 0 then
  some ((-1 : Int32), x_letters, x_text) else
  (if x_letters = (200 : Int32) then
  some ((-3 : Int32), x_letters, x_text) else
  (if x_letters < 0 ∨ 200 ≤ x_letters.toNatClampNeg then none else
  some (x_letters + (1 : Int32), x_letters + (1 : Int32), upd x_text x_letters.toNatClampNeg i1))))))

def S_X7_wipe (x_letters : Int32) : Option (Int32 × Int32) :=
  some (x_letters, (0 : Int32))

def S_X7_isFigure (x_letters : Int32) (x_at : Int32) (x_text : Nat → Int32) : Option (Int32) :=
  (if x_letters ≤ x_at then
  some (0 : Int32) else
  (if x_at < 0 ∨ 200 ≤ x_at.toNatClampNeg then none else
  (Option.bind (S_X7_in ((x_text x_at.toNatClampNeg).toInt64) (48 : Int64) (57 : Int64)) (fun r27 =>
  (if r27 = 0 then
  some (0 : Int32) else
  some (1 : Int32))))))

def S_X7_number (i1 : Int32) (i2 : Int32) (i3 : Int32) (i4 : Int32) (x_letters : Int32) (x_at : Int32) (x_text : Nat → Int32) (x_read : Nat → Int32) : Option (Int32 × Int32 × (Nat → Int32)) :=
  (Option.bind (S_X7_isFigure x_letters x_at x_text) (fun r1 =>
  (if r1 = 0 then
  some ((0 : Int32), x_at, x_read) else
  (if x_at < 0 ∨ 200 ≤ x_at.toNatClampNeg then none else
  (nm ((x_text x_at.toNatClampNeg) - (48 : Int32)) (fun (v21 : Int32) =>
  (Option.bind (S_X7_isFigure x_letters (x_at + (1 : Int32)) x_text) (fun r34 =>
  (jn (fun (i5_70 : Int32) (x_at_70 : Int32) => (Option.bind (S_X7_in i5_70.toInt64 i2.toInt64 i3.toInt64) (fun r77 =>
  (jn (fun (s0_113 : Int32) => (if i1 < 0 ∨ 28 ≤ i1.toNatClampNeg then none else
  (if vp_nar .boolean s0_113 = s0_113 then some (s0_113, x_at_70 + (1 : Int32), upd x_read i1.toNatClampNeg i5_70) else none))) (fun J113 =>
  (jn ((J113 (0 : Int32))) (fun J112 =>
  (if r77 = 0 then
  J112 else
  (if x_letters ≤ x_at_70 then
  J112 else
  (if x_at_70 < 0 ∨ 200 ≤ x_at_70.toNatClampNeg then none else
  (if (x_text x_at_70.toNatClampNeg) = i4 then
  (J113 (1 : Int32)) else
  J112))))))))))) (fun J70 =>
  (if r34 = 0 then
  (J70 v21 (x_at + (1 : Int32))) else
  (if (x_at + (1 : Int32)) < 0 ∨ 200 ≤ (x_at + (1 : Int32)).toNatClampNeg then none else
  (nm ((((10 : Int32) * v21) + (x_text (x_at + (1 : Int32)).toNatClampNeg)) - (48 : Int32)) (fun (v58 : Int32) =>
  (J70 v58 ((x_at + (1 : Int32)) + (1 : Int32)))))))))))))))))

def S_X7_item (x_letters : Int32) (x_at : Int32) (x_text : Nat → Int32) (x_read : Nat → Int32) : Option (Int32 × Int32 × (Nat → Int32)) :=
  (if x_at < 0 ∨ 200 ≤ x_at.toNatClampNeg then none else
  (if (x_text x_at.toNatClampNeg) = (112 : Int32) then
  (if (x_read 0) = (8 : Int32) then
  some ((0 : Int32), x_at + (1 : Int32), x_read) else
  (Option.bind (S_X7_number ((4 : Int32) + ((3 : Int32) * (x_read 0))) (0 : Int32) (3 : Int32) (44 : Int32) x_letters (x_at + (1 : Int32)) x_text x_read) (fun (r54, x_at_o54, x_read_o54) =>
  (if r54 = 0 then
  some ((0 : Int32), x_at_o54, x_read_o54) else
  (Option.bind (S_X7_number (((4 : Int32) + ((3 : Int32) * (x_read 0))) + (1 : Int32)) (1 : Int32) (20 : Int32) (44 : Int32) x_letters x_at_o54 x_text x_read_o54) (fun (r69, x_at_o69, x_read_o69) =>
  (if r69 = 0 then
  some ((0 : Int32), x_at_o69, x_read_o69) else
  (Option.bind (S_X7_number (((4 : Int32) + ((3 : Int32) * (x_read 0))) + (2 : Int32)) (1 : Int32) (9 : Int32) (59 : Int32) x_letters x_at_o69 x_text x_read_o69) (fun (r84, x_at_o84, x_read_o84) =>
  (if r84 = 0 then
  some ((0 : Int32), x_at_o84, x_read_o84) else
  some ((1 : Int32), x_at_o84, upd x_read_o84 0 ((x_read_o84 0) + (1 : Int32))))))))))))) else
  (if (x_text x_at.toNatClampNeg) = (115 : Int32) then
  (Option.bind (S_X7_number (1 : Int32) (1 : Int32) (9 : Int32) (44 : Int32) x_letters (x_at + (1 : Int32)) x_text x_read) (fun (r117, x_at_o117, x_read_o117) =>
  (if r117 = 0 then
  some ((0 : Int32), x_at_o117, x_read_o117) else
  (Option.bind (S_X7_number (2 : Int32) (1 : Int32) (9 : Int32) (59 : Int32) x_letters x_at_o117 x_text x_read_o117) (fun (r130, x_at_o130, x_read_o130) =>
  (if r130 = 0 then
  some ((0 : Int32), x_at_o130, x_read_o130) else
  some ((1 : Int32), x_at_o130, x_read_o130))))))) else
  (if (x_text x_at.toNatClampNeg) = (100 : Int32) then
  (Option.bind (S_X7_number (3 : Int32) (0 : Int32) (20 : Int32) (59 : Int32) x_letters (x_at + (1 : Int32)) x_text x_read) (fun (r157, x_at_o157, x_read_o157) =>
  (if r157 = 0 then
  some ((0 : Int32), x_at_o157, x_read_o157) else
  some ((1 : Int32), x_at_o157, x_read_o157)))) else
  some ((0 : Int32), x_at + (1 : Int32), x_read)))))

def S_X7_fault_L39 (x_letters : Int32) (x_text : Nat → Int32) : Nat → Int32 → (Nat → Int32) → Option (Int32 × Int32 × (Nat → Int32))
  | 0, _, _ => none
  | n39 + 1, x_at, x_read =>
    (if x_letters ≤ x_at then
    some ((-4 : Int32), x_at, x_read) else
    (Option.bind (S_X7_item x_letters x_at x_text x_read) (fun (r56, x_at_o56, x_read_o56) =>
    (if r56 = 0 then
    some (x_at, x_at_o56, x_read_o56) else
    ((S_X7_fault_L39 x_letters x_text n39) x_at_o56 x_read_o56)))))

def S_X7_fault_L2 (x_letters : Int32) (x_text : Nat → Int32) : Nat → Int32 → (Nat → Int32) → Option (Int32 × Int32 × (Nat → Int32))
  | 0, _, _ => none
  | n2 + 1, i1, x_read =>
    (if (28 : Int32) ≤ i1 then
    (S_X7_fault_L39 x_letters x_text 300 (0 : Int32) x_read) else
    (jn (fun (s0_27 : Int32) => (if i1 < 0 ∨ 28 ≤ i1.toNatClampNeg then none else
    ((S_X7_fault_L2 x_letters x_text n2) (i1 + (1 : Int32)) (upd x_read i1.toNatClampNeg s0_27)))) (fun J27 =>
    (jn ((J27 (0 : Int32))) (fun J26 =>
    (if i1 ≤ 0 then
    J26 else
    (if (4 : Int32) ≤ i1 then
    J26 else
    (J27 (2 : Int32)))))))))

def S_X7_fault (x_letters : Int32) (x_read : Nat → Int32) (x_text : Nat → Int32) : Option (Int32 × Int32 × (Nat → Int32)) :=
  (S_X7_fault_L2 x_letters x_text 300 (0 : Int32) x_read)

def S_X7_lay_L23 (x_at : Int32) (x_read : Nat → Int32) : Nat → Int32 → (Nat → Int32) → Option (Int32 × Int32 × Int32 × Int32 × Int32 × (Nat → Int32) × (Nat → Int32))
  | 0, _, _ => none
  | n23 + 1, i1, x_row =>
    (if (28 : Int32) ≤ i1 then
    some (x_row 0, x_at, (0 : Int32), (0 : Int32), (0 : Int32), x_read, x_row) else
    (if i1 < 0 ∨ 28 ≤ i1.toNatClampNeg then none else
    (if i1 < 0 ∨ 28 ≤ i1.toNatClampNeg then none else
    ((S_X7_lay_L23 x_at x_read n23) (i1 + (1 : Int32)) (upd x_row i1.toNatClampNeg (x_read i1.toNatClampNeg))))))

def S_X7_lay (x_letters : Int32) (x_undos : Int32) (x_taped : Int32) (x_keeps : Int32) (x_read : Nat → Int32) (x_text : Nat → Int32) (x_row : Nat → Int32) : Option (Int32 × Int32 × Int32 × Int32 × Int32 × (Nat → Int32) × (Nat → Int32)) :=
  (Option.bind (S_X7_fault x_letters x_read x_text) (fun (r1, x_at_o1, x_read_o1) =>
  (if r1 = (-4 : Int32) then
  (if (x_read_o1 0) = 0 then
  some ((-2 : Int32), x_at_o1, x_undos, x_taped, x_keeps, x_read_o1, x_row) else
  (S_X7_lay_L23 x_at_o1 x_read_o1 300 (0 : Int32) x_row)) else
  some ((-2 : Int32), x_at_o1, x_undos, x_taped, x_keeps, x_read_o1, x_row))))

def S_X7_notes_L48 (x_undos : Int32) (x_row : Nat → Int32) : Nat → Int32 → (Nat → Int32) → Option (Int32 × (Nat → Int32))
  | 0, _, _ => none
  | n48 + 1, i1, x_undone =>
    (if (28 : Int32) ≤ i1 then
    some (x_undos + (1 : Int32), x_undone) else
    (if i1 < 0 ∨ 28 ≤ i1.toNatClampNeg then none else
    (if (((28 : Int32) * x_undos) + i1) < 0 ∨ 224 ≤ (((28 : Int32) * x_undos) + i1).toNatClampNeg then none else
    ((S_X7_notes_L48 x_undos x_row n48) (i1 + (1 : Int32)) (upd x_undone (((28 : Int32) * x_undos) + i1).toNatClampNeg (x_row i1.toNatClampNeg))))))

def S_X7_notes_L12 (J46 : Int32 → (Nat → Int32) → Option (Int32 × (Nat → Int32))) : Nat → Int32 → (Nat → Int32) → Option (Int32 × (Nat → Int32))
  | 0, _, _ => none
  | n12 + 1, i1, x_undone =>
    (if (224 : Int32) ≤ i1 then
    (J46 (7 : Int32) x_undone) else
    (if i1 < 0 ∨ 224 ≤ i1.toNatClampNeg then none else
    (if (i1 - (28 : Int32)) < 0 ∨ 224 ≤ (i1 - (28 : Int32)).toNatClampNeg then none else
    ((S_X7_notes_L12 J46 n12) (i1 + (1 : Int32)) (upd x_undone (i1 - (28 : Int32)).toNatClampNeg (x_undone i1.toNatClampNeg))))))

def S_X7_notes (x_undos : Int32) (x_undone : Nat → Int32) (x_row : Nat → Int32) : Option (Int32 × (Nat → Int32)) :=
  (jn (fun (x_undos_46 : Int32) (x_undone_46 : Nat → Int32) => (S_X7_notes_L48 x_undos_46 x_row 300 (0 : Int32) x_undone_46)) (fun J46 =>
  (if x_undos = (8 : Int32) then
  (S_X7_notes_L12 J46 300 (28 : Int32) x_undone) else
  (J46 x_undos x_undone))))

def S_X7_come (i1 : Int32) (i2 : Int32) (i3 : Int32) (x_undos : Int32) (x_taped : Int32) (x_row : Nat → Int32) (x_undone : Nat → Int32) : Option (Int32 × Int32 × Int32 × (Nat → Int32) × (Nat → Int32)) :=
  (Option.bind (S_X7_in i1.toInt64 (0 : Int64) (3 : Int64)) (fun r6 =>
  (if r6 = 0 then
  some ((-1 : Int32), x_undos, x_taped, x_row, x_undone) else
  (Option.bind (S_X7_in i2.toInt64 (1 : Int64) (20 : Int64)) (fun r18 =>
  (if r18 = 0 then
  some ((-1 : Int32), x_undos, x_taped, x_row, x_undone) else
  (Option.bind (S_X7_in i3.toInt64 (1 : Int64) (9 : Int64)) (fun r30 =>
  (if r30 = 0 then
  some ((-1 : Int32), x_undos, x_taped, x_row, x_undone) else
  (if (x_row 0) = (8 : Int32) then
  some ((-3 : Int32), x_undos, x_taped, x_row, x_undone) else
  (Option.bind (S_X7_notes x_undos x_undone x_row) (fun (x_undos_o53, x_undone_o53) =>
  (Option.bind (S_X7_stands i1 i2 i3 x_row) (fun x_row_o60 =>
  some (x_row_o60 0, x_undos_o53, (0 : Int32), x_row_o60, x_undone_o53)))))))))))))))

def S_X7_leave (i1 : Int32) (x_undos : Int32) (x_taped : Int32) (x_row : Nat → Int32) (x_undone : Nat → Int32) : Option (Int32 × Int32 × Int32 × (Nat → Int32) × (Nat → Int32)) :=
  (Option.bind (S_X7_isPerson i1 x_row) (fun r2 =>
  (if r2 = 0 then
  some ((-1 : Int32), x_undos, x_taped, x_row, x_undone) else
  (Option.bind (S_X7_notes x_undos x_undone x_row) (fun (x_undos_o11, x_undone_o11) =>
  (Option.bind (S_X7_goesAway i1 x_row) (fun x_row_o16 =>
  some (x_row_o16 0, x_undos_o11, (0 : Int32), x_row_o16, x_undone_o11))))))))

def S_X7_goesBy_L11 : Nat → Int32 → Int32 → (Nat → Int32) → Option (Int32 × (Nat → Int32))
  | 0, _, _, _ => none
  | n11 + 1, i2, i3, x_row =>
    (jn ((jn (fun (s0_69 : Int32) => some (i3, upd x_row 5 ((x_row 5) - s0_69))) (fun J69 =>
    (if (x_row 0) ≤ 0 then
    (J69 (0 : Int32)) else
    (J69 i2))))) (fun J48 =>
    (if (x_row 0) ≤ 0 then
    J48 else
    (Option.bind (S_X7_things (0 : Int32) x_row) (fun r23 =>
    (if i2 < r23 then
    J48 else
    (Option.bind (S_X7_things (0 : Int32) x_row) (fun r32 =>
    (Option.bind (S_X7_goesAway (0 : Int32) x_row) (fun x_row_o39 =>
    ((S_X7_goesBy_L11 n11) (i2 - r32) (i3 + (1 : Int32)) x_row_o39)))))))))))

def S_X7_goesBy (i1 : Int32) (x_row : Nat → Int32) : Option (Int32 × (Nat → Int32)) :=
  (if (x_row 1) = 0 then none else
  (S_X7_goesBy_L11 300 (i1 / (x_row 1)) (0 : Int32) x_row))

def S_X7_pass (i1 : Int32) (x_undos : Int32) (x_taped : Int32) (x_undone : Nat → Int32) (x_row : Nat → Int32) : Option (Int32 × Int32 × Int32 × (Nat → Int32) × (Nat → Int32)) :=
  (Option.bind (S_X7_in i1.toInt64 (1 : Int64) (200 : Int64)) (fun r6 =>
  (if r6 = 0 then
  some ((-1 : Int32), x_undos, x_taped, x_undone, x_row) else
  (Option.bind (S_X7_notes x_undos x_undone x_row) (fun (x_undos_o15, x_undone_o15) =>
  (Option.bind (S_X7_goesBy i1 x_row) (fun (r20, x_row_o20) =>
  some (x_row_o20 0, x_undos_o15, (0 : Int32), x_undone_o15, x_row_o20))))))))

def S_X7_slow (i1 : Int32) (x_undos : Int32) (x_undone : Nat → Int32) (x_row : Nat → Int32) : Option (Int32 × Int32 × (Nat → Int32) × (Nat → Int32)) :=
  (Option.bind (S_X7_in i1.toInt64 (1 : Int64) (9 : Int64)) (fun r6 =>
  (if r6 = 0 then
  some ((-1 : Int32), x_undos, x_undone, x_row) else
  (Option.bind (S_X7_notes x_undos x_undone x_row) (fun (x_undos_o15, x_undone_o15) =>
  some (x_row 2, x_undos_o15, x_undone_o15, upd x_row 2 i1))))))

def S_X7_undo_L22 (x_undos : Int32) (x_undone : Nat → Int32) : Nat → Int32 → (Nat → Int32) → Option (Int32 × Int32 × Int32 × (Nat → Int32))
  | 0, _, _ => none
  | n22 + 1, i1, x_row =>
    (if (28 : Int32) ≤ i1 then
    some (x_undos, x_undos, (0 : Int32), x_row) else
    (if (((28 : Int32) * x_undos) + i1) < 0 ∨ 224 ≤ (((28 : Int32) * x_undos) + i1).toNatClampNeg then none else
    (if i1 < 0 ∨ 28 ≤ i1.toNatClampNeg then none else
    ((S_X7_undo_L22 x_undos x_undone n22) (i1 + (1 : Int32)) (upd x_row i1.toNatClampNeg (x_undone (((28 : Int32) * x_undos) + i1).toNatClampNeg))))))

def S_X7_undo (x_undos : Int32) (x_taped : Int32) (x_undone : Nat → Int32) (x_row : Nat → Int32) : Option (Int32 × Int32 × Int32 × (Nat → Int32)) :=
  (if x_undos = 0 then
  some ((-2 : Int32), x_undos, x_taped, x_row) else
  (S_X7_undo_L22 (x_undos - (1 : Int32)) x_undone 300 (0 : Int32) x_row))

def S_X7_orders_L16 (rc2 : Int32 → (Nat → Int32) → Option ((Nat → Int32))) (i1 : Int32) (x_order : Nat → Int32) (x_row : Nat → Int32) : Nat → Int32 → Int32 → Option ((Nat → Int32))
  | 0, _, _ => none
  | n16 + 1, i2, i3 =>
    (if (x_row 0) ≤ i3 then
    (if i2 < 0 ∨ 8 ≤ i2.toNatClampNeg then none else
    (rc2 (i1 + (1 : Int32)) (upd x_order i2.toNatClampNeg i1))) else
    (Option.bind (S_X7_walk i3 x_row) (fun r28 =>
    (Option.bind (S_X7_walk i1 x_row) (fun r33 =>
    (jn (fun (s0_62 : Int32) => (if s0_62 = 0 then
    ((S_X7_orders_L16 rc2 i1 x_order x_row n16) (i2 + (0 : Int32)) (i3 + (1 : Int32))) else
    ((S_X7_orders_L16 rc2 i1 x_order x_row n16) (i2 + (1 : Int32)) (i3 + (1 : Int32))))) (fun J62 =>
    (jn ((J62 (1 : Int32))) (fun J57 =>
    (if r28 < r33 then
    J57 else
    (Option.bind (S_X7_walk i3 x_row) (fun r41 =>
    (Option.bind (S_X7_walk i1 x_row) (fun r46 =>
    (if r41 = r46 then
    (if i3 ≤ i1 then
    (J62 (0 : Int32)) else
    J57) else
    (J62 (0 : Int32)))))))))))))))))

def S_X7_orders_L2 (x_row : Nat → Int32) : Nat → Int32 → (Nat → Int32) → Option ((Nat → Int32))
  | 0, _, _ => none
  | n2 + 1, i1, x_order =>
    (if (x_row 0) ≤ i1 then
    some x_order else
    (S_X7_orders_L16 (S_X7_orders_L2 x_row n2) i1 x_order x_row 300 (0 : Int32) (0 : Int32)))

def S_X7_orders (x_row : Nat → Int32) (x_order : Nat → Int32) : Option ((Nat → Int32)) :=
  (S_X7_orders_L2 x_row 300 (0 : Int32) x_order)

def S_X7_inRow_L9 (i1 : Int32) (i2 : Int32) (x_row : Nat → Int32) : Nat → Int32 → Int32 → Option (Int32)
  | 0, _, _ => none
  | n9 + 1, i3, i4 =>
    (if i1 ≤ i4 then
    some ((x_row 1) * i3) else
    (if ((i2 >>> (i4 &&& 31)) &&& (1 : Int32)) = 0 then
    (Option.bind (S_X7_things i4 x_row) (fun r28 =>
    ((S_X7_inRow_L9 i1 i2 x_row n9) (i3 + r28) (i4 + (1 : Int32))))) else
    ((S_X7_inRow_L9 i1 i2 x_row n9) (i3 + (0 : Int32)) (i4 + (1 : Int32)))))

def S_X7_inRow (i1 : Int32) (i2 : Int32) (x_row : Nat → Int32) : Option (Int32) :=
  (Option.bind (S_X7_things i1 x_row) (fun r2 =>
  (S_X7_inRow_L9 i1 i2 x_row 300 r2 (0 : Int32))))

def S_X7_there (i1 : Int32) (i2 : Int32) (x_row : Nat → Int32) : Option (Int32) :=
  (Option.bind (S_X7_walk i1 x_row) (fun r2 =>
  (jn (fun (s0_18 : Int32) => (Option.bind (S_X7_things i1 x_row) (fun r26 =>
  some (s0_18 + ((x_row 2) * r26))))) (fun J18 =>
  (if r2 ≤ i2 then
  (J18 i2) else
  (Option.bind (S_X7_walk i1 x_row) (fun r11 =>
  (J18 r11))))))))

def S_X7_many_L4 : Nat → Int32 → Int32 → Option (Int32)
  | 0, _, _ => none
  | n4 + 1, i1, i2 =>
    (if i2 = 0 then
    some i1 else
    ((S_X7_many_L4 n4) (i1 + (1 : Int32)) (i2 &&& (i2 - (1 : Int32)))))

def S_X7_many (i0 : Int32) : Option (Int32) :=
  (S_X7_many_L4 300 (0 : Int32) i0)

def S_X7_rests_L2 (x_away : Int32) (x_row : Nat → Int32) : Nat → Int32 → (Nat → Int32) → Option ((Nat → Int32))
  | 0, _, _ => none
  | n2 + 1, i1, x_dones =>
    (if (x_row 0) ≤ i1 then
    some x_dones else
    (jn (fun (s0_47 : Int32) => (if i1 < 0 ∨ 8 ≤ i1.toNatClampNeg then none else
    ((S_X7_rests_L2 x_away x_row n2) (i1 + (1 : Int32)) (upd x_dones i1.toNatClampNeg s0_47)))) (fun J47 =>
    (if ((x_away >>> (i1 &&& 31)) &&& (1 : Int32)) = (1 : Int32) then
    (if i1 < 0 ∨ 8 ≤ i1.toNatClampNeg then none else
    (J47 (x_dones i1.toNatClampNeg))) else
    (Option.bind (S_X7_inRow i1 x_away x_row) (fun r44 =>
    (J47 r44)))))))

def S_X7_rests (x_away : Int32) (x_row : Nat → Int32) (x_dones : Nat → Int32) : Option ((Nat → Int32)) :=
  (S_X7_rests_L2 x_away x_row 300 (0 : Int32) x_dones)

def S_X7_opens_L152 (x_order : Nat → Int32) (x_dones : Nat → Int32) (x_row : Nat → Int32) : Nat → Int32 → Int32 → Option (Int32 × (Nat → Int32) × (Nat → Int32))
  | 0, _, _ => none
  | n152 + 1, i2, x_away =>
    (if (x_row 0) ≤ i2 then
    (Option.bind (S_X7_rests x_away x_row x_dones) (fun x_dones_o236 =>
    some (x_away, x_order, x_dones_o236))) else
    (jn (fun (s0_179 : Int32) => (jn (fun (s0_225 : Int32) => ((S_X7_opens_L152 x_order x_dones x_row n152) (i2 + (1 : Int32)) (x_away &&& s0_225))) (fun J225 =>
    (jn ((J225 (-1 : Int32))) (fun J224 =>
    (if s0_179 = 0 then
    J224 else
    (Option.bind (S_X7_kind i2 x_row) (fun r191 =>
    (if r191 = (3 : Int32) then
    (Option.bind (S_X7_inRow i2 x_away x_row) (fun r204 =>
    (if i2 < 0 ∨ 8 ≤ i2.toNatClampNeg then none else
    (if (x_dones i2.toNatClampNeg) ≤ r204 then
    J224 else
    (J225 (((1 : Int32) <<< (i2 &&& 31)) ^^^ (-1 : Int32))))))) else
    J224))))))))) (fun J179 =>
    (if ((x_away >>> (i2 &&& 31)) &&& (1 : Int32)) = (1 : Int32) then
    (J179 (1 : Int32)) else
    (J179 (0 : Int32))))))

def S_X7_opens_L13 (x_order : Nat → Int32) (x_row : Nat → Int32) : Nat → Int32 → Int32 → Int32 → (Nat → Int32) → Option (Int32 × (Nat → Int32) × (Nat → Int32))
  | 0, _, _, _, _ => none
  | n13 + 1, i1, i2, x_away, x_dones =>
    (if (x_row 0) ≤ i2 then
    (S_X7_opens_L152 x_order x_dones x_row 300 (0 : Int32) x_away) else
    (if i2 < 0 ∨ 8 ≤ i2.toNatClampNeg then none else
    (Option.bind (S_X7_many ((((1 : Int32) <<< ((x_order i2.toNatClampNeg) &&& 31)) - (1 : Int32)) &&& (x_away ^^^ (-1 : Int32)))) (fun r42 =>
    (Option.bind (S_X7_many x_away) (fun r49 =>
    (jn (fun (s0_60 : Int32) => (Option.bind (S_X7_there (x_order i2.toNatClampNeg) i1 x_row) (fun r65 =>
    (Option.bind (S_X7_inRow (x_order i2.toNatClampNeg) x_away x_row) (fun r74 =>
    (jn (fun (s0_85 : Int32) => (Option.bind (S_X7_kind (x_order i2.toNatClampNeg) x_row) (fun r89 =>
    (jn ((Option.bind (S_X7_there (x_order i2.toNatClampNeg) i1 x_row) (fun r121 =>
    (if (x_order i2.toNatClampNeg) < 0 ∨ 8 ≤ (x_order i2.toNatClampNeg).toNatClampNeg then none else
    ((S_X7_opens_L13 x_order x_row n13) r121 (i2 + (1 : Int32)) (x_away ||| ((1 : Int32) <<< ((x_order i2.toNatClampNeg) &&& 31))) (upd x_dones (x_order i2.toNatClampNeg).toNatClampNeg r121)))))) (fun J118 =>
    (if r89 = (1 : Int32) then
    (if s0_60 = 0 then
    ((S_X7_opens_L13 x_order x_row n13) i1 (i2 + (1 : Int32)) x_away x_dones) else
    J118) else
    (Option.bind (S_X7_kind (x_order i2.toNatClampNeg) x_row) (fun r106 =>
    (if r106 ≤ (1 : Int32) then
    ((S_X7_opens_L13 x_order x_row n13) i1 (i2 + (1 : Int32)) x_away x_dones) else
    (if s0_85 = 0 then
    ((S_X7_opens_L13 x_order x_row n13) i1 (i2 + (1 : Int32)) x_away x_dones) else
    J118)))))))))) (fun J85 =>
    (if r74 ≤ r65 then
    (J85 (0 : Int32)) else
    (J85 (1 : Int32)))))))))) (fun J60 =>
    (if r42 ≤ r49 then
    (J60 (0 : Int32)) else
    (J60 (1 : Int32)))))))))))

def S_X7_opens (x_row : Nat → Int32) (x_order : Nat → Int32) (x_dones : Nat → Int32) : Option (Int32 × (Nat → Int32) × (Nat → Int32)) :=
  (Option.bind (S_X7_orders x_row x_order) (fun x_order_o1 =>
  (S_X7_opens_L13 x_order_o1 x_row 300 (0 : Int32) (0 : Int32) (0 : Int32) x_dones)))

def S_X7_sends_L13 (i1 : Int32) (x_away : Int32) (x_order : Nat → Int32) (x_row : Nat → Int32) : Nat → Int32 → Int32 → (Nat → Int32) → Option (Int32 × (Nat → Int32) × (Nat → Int32))
  | 0, _, _, _ => none
  | n13 + 1, i2, i3, x_dones =>
    (if (x_row 0) ≤ i3 then
    (Option.bind (S_X7_rests x_away x_row x_dones) (fun x_dones_o64 =>
    some (x_away, x_order, x_dones_o64))) else
    (if i3 < 0 ∨ 8 ≤ i3.toNatClampNeg then none else
    (if ((i1 >>> ((x_order i3.toNatClampNeg) &&& 31)) &&& (1 : Int32)) = (1 : Int32) then
    (Option.bind (S_X7_there (x_order i3.toNatClampNeg) i2 x_row) (fun r45 =>
    (if (x_order i3.toNatClampNeg) < 0 ∨ 8 ≤ (x_order i3.toNatClampNeg).toNatClampNeg then none else
    ((S_X7_sends_L13 i1 x_away x_order x_row n13) r45 (i3 + (1 : Int32)) (upd x_dones (x_order i3.toNatClampNeg).toNatClampNeg r45))))) else
    ((S_X7_sends_L13 i1 x_away x_order x_row n13) i2 (i3 + (1 : Int32)) x_dones))))

def S_X7_sends (i1 : Int32) (x_row : Nat → Int32) (x_order : Nat → Int32) (x_dones : Nat → Int32) : Option (Int32 × (Nat → Int32) × (Nat → Int32)) :=
  (Option.bind (S_X7_orders x_row x_order) (fun x_order_o1 =>
  (S_X7_sends_L13 i1 i1 x_order_o1 x_row 300 (0 : Int32) (0 : Int32) x_dones)))

def S_X7_sum_L4 (x_row : Nat → Int32) (x_dones : Nat → Int32) : Nat → Int32 → Int32 → Option (Int32)
  | 0, _, _ => none
  | n4 + 1, i1, i2 =>
    (if (x_row 0) ≤ i2 then
    some i1 else
    (if i2 < 0 ∨ 8 ≤ i2.toNatClampNeg then none else
    ((S_X7_sum_L4 x_row x_dones n4) (i1 + (x_dones i2.toNatClampNeg)) (i2 + (1 : Int32)))))

def S_X7_sum (x_row : Nat → Int32) (x_dones : Nat → Int32) : Option (Int32) :=
  (S_X7_sum_L4 x_row x_dones 300 (0 : Int32) (0 : Int32))

def S_X7_latest_L4 (x_row : Nat → Int32) (x_dones : Nat → Int32) : Nat → Int32 → Int32 → Option (Int32)
  | 0, _, _ => none
  | n4 + 1, i1, i2 =>
    (if (x_row 0) ≤ i2 then
    some i1 else
    (if i2 < 0 ∨ 8 ≤ i2.toNatClampNeg then none else
    (if (x_dones i2.toNatClampNeg) ≤ i1 then
    ((S_X7_latest_L4 x_row x_dones n4) i1 (i2 + (1 : Int32))) else
    (if i2 < 0 ∨ 8 ≤ i2.toNatClampNeg then none else
    ((S_X7_latest_L4 x_row x_dones n4) (x_dones i2.toNatClampNeg) (i2 + (1 : Int32)))))))

def S_X7_latest (x_row : Nat → Int32) (x_dones : Nat → Int32) : Option (Int32) :=
  (S_X7_latest_L4 x_row x_dones 300 (0 : Int32) (0 : Int32))

def S_X7_overtakes_L6 (i1 : Int32) (x_row : Nat → Int32) (x_dones : Nat → Int32) : Nat → Int32 → Int32 → Option (Int32)
  | 0, _, _ => none
  | n6 + 1, i2, i3 =>
    (if (x_row 0) ≤ i3 then
    some i2 else
    (if i3 < 0 ∨ 8 ≤ i3.toNatClampNeg then none else
    (if i1 < 0 ∨ 8 ≤ i1.toNatClampNeg then none else
    (if (x_dones i1.toNatClampNeg) ≤ (x_dones i3.toNatClampNeg) then
    ((S_X7_overtakes_L6 i1 x_row x_dones n6) (i2 ||| (0 : Int32)) (i3 + (1 : Int32))) else
    ((S_X7_overtakes_L6 i1 x_row x_dones n6) (i2 ||| ((1 : Int32) <<< (i3 &&& 31))) (i3 + (1 : Int32)))))))

def S_X7_overtakes (i1 : Int32) (x_row : Nat → Int32) (x_dones : Nat → Int32) : Option (Int32) :=
  (S_X7_overtakes_L6 i1 x_row x_dones 300 (0 : Int32) (i1 + (1 : Int32)))

def S_X7_overtakings_L4 (x_row : Nat → Int32) (x_dones : Nat → Int32) : Nat → Int32 → Int32 → Option (Int32)
  | 0, _, _ => none
  | n4 + 1, i1, i2 =>
    (if (x_row 0) ≤ i2 then
    some i1 else
    (Option.bind (S_X7_overtakes i2 x_row x_dones) (fun r17 =>
    (Option.bind (S_X7_many r17) (fun r20 =>
    ((S_X7_overtakings_L4 x_row x_dones n4) (i1 + r20) (i2 + (1 : Int32))))))))

def S_X7_overtakings (x_row : Nat → Int32) (x_dones : Nat → Int32) : Option (Int32) :=
  (S_X7_overtakings_L4 x_row x_dones 300 (0 : Int32) (0 : Int32))

def S_X7_goes_L37 (i1 : Int32) (x_away : Int32) (x_order : Nat → Int32) (x_dones : Nat → Int32) (x_row : Nat → Int32) : Nat → Int32 → Int32 → Int32 → Option (Int32 × Int32 × (Nat → Int32) × (Nat → Int32))
  | 0, _, _, _ => none
  | n37 + 1, i2, i3, i4 =>
    (if (x_row 0) ≤ i4 then
    some (i3, x_away, x_order, x_dones) else
    (if i4 < 0 ∨ 8 ≤ i4.toNatClampNeg then none else
    (jn (fun (s0_71 : Int32) => (jn (fun (s0_94 : Int32) => (if s0_71 = 0 then
    ((S_X7_goes_L37 i1 x_away x_order x_dones x_row n37) (i2 + (0 : Int32)) s0_94 (i4 + (1 : Int32))) else
    ((S_X7_goes_L37 i1 x_away x_order x_dones x_row n37) (i2 + (1 : Int32)) s0_94 (i4 + (1 : Int32))))) (fun J94 =>
    (jn ((J94 i3)) (fun J93 =>
    (if s0_71 = 0 then
    J93 else
    (if i2 = i1 then
    (if i4 < 0 ∨ 8 ≤ i4.toNatClampNeg then none else
    (J94 (x_order i4.toNatClampNeg))) else
    J93))))))) (fun J71 =>
    (if ((x_away >>> ((x_order i4.toNatClampNeg) &&& 31)) &&& (1 : Int32)) = (1 : Int32) then
    (J71 (1 : Int32)) else
    (J71 (0 : Int32)))))))

def S_X7_goes (i1 : Int32) (x_away : Int32) (x_row : Nat → Int32) (x_order : Nat → Int32) (x_dones : Nat → Int32) : Option (Int32 × Int32 × (Nat → Int32) × (Nat → Int32)) :=
  (Option.bind (S_X7_in i1.toInt64 (-1 : Int64) (7 : Int64)) (fun r8 =>
  (if r8 = 0 then
  some ((-1 : Int32), x_away, x_order, x_dones) else
  (Option.bind (S_X7_opens x_row x_order x_dones) (fun (x_away_o17, x_order_o17, x_dones_o17) =>
  (if 0 ≤ i1 then
  (S_X7_goes_L37 i1 x_away_o17 x_order_o17 x_dones_o17 x_row 300 (0 : Int32) (-4 : Int32) (0 : Int32)) else
  some (x_away_o17, x_away_o17, x_order_o17, x_dones_o17)))))))

def S_X7_isAsked (i1 : Int32) (x_row : Nat → Int32) : Option (Int32) :=
  (if i1 = (-1 : Int32) then
  some (1 : Int32) else
  (if i1 = (-2 : Int32) then
  some (1 : Int32) else
  (Option.bind (S_X7_isPerson i1 x_row) (fun r13 =>
  (if r13 = 0 then
  some (0 : Int32) else
  some (1 : Int32))))))

def S_X7_asked (i1 : Int32) (x_row : Nat → Int32) (x_dones : Nat → Int32) : Option (Int32) :=
  (if i1 = (-1 : Int32) then
  (Option.bind (S_X7_latest x_row x_dones) (fun r6 =>
  some r6)) else
  (if i1 = (-2 : Int32) then
  (Option.bind (S_X7_sum x_row x_dones) (fun r19 =>
  some r19)) else
  (if i1 < 0 ∨ 8 ≤ i1.toNatClampNeg then none else
  some (x_dones i1.toNatClampNeg))))

def S_X7_done (i1 : Int32) (i2 : Int32) (x_away : Int32) (x_row : Nat → Int32) (x_order : Nat → Int32) (x_dones : Nat → Int32) : Option (Int32 × Int32 × (Nat → Int32) × (Nat → Int32)) :=
  (Option.bind (S_X7_isAsked i1 x_row) (fun r2 =>
  (if r2 = 0 then
  some ((-1 : Int32), x_away, x_order, x_dones) else
  (Option.bind (S_X7_in i2.toInt64 (0 : Int64) (1 : Int64)) (fun r12 =>
  (if r12 = 0 then
  some ((-1 : Int32), x_away, x_order, x_dones) else
  (jn (fun (x_away_37 : Int32) (x_order_37 : Nat → Int32) (x_dones_37 : Nat → Int32) => (Option.bind (S_X7_asked i1 x_row x_dones_37) (fun r39 =>
  some (r39, x_away_37, x_order_37, x_dones_37)))) (fun J37 =>
  (if i2 = (1 : Int32) then
  (Option.bind (S_X7_opens x_row x_order x_dones) (fun (x_away_o26, x_order_o26, x_dones_o26) =>
  (J37 x_away_o26 x_order_o26 x_dones_o26))) else
  (Option.bind (S_X7_sends (0 : Int32) x_row x_order x_dones) (fun (x_away_o34, x_order_o34, x_dones_o34) =>
  (J37 x_away_o34 x_order_o34 x_dones_o34))))))))))))

def S_X7_overtaken (i1 : Int32) (x_away : Int32) (x_row : Nat → Int32) (x_order : Nat → Int32) (x_dones : Nat → Int32) : Option (Int32 × Int32 × (Nat → Int32) × (Nat → Int32)) :=
  (jn ((Option.bind (S_X7_opens x_row x_order x_dones) (fun (x_away_o16, x_order_o16, x_dones_o16) =>
  (if 0 ≤ i1 then
  (Option.bind (S_X7_overtakes i1 x_row x_dones_o16) (fun r32 =>
  some (r32, x_away_o16, x_order_o16, x_dones_o16))) else
  (Option.bind (S_X7_overtakings x_row x_dones_o16) (fun r24 =>
  some (r24, x_away_o16, x_order_o16, x_dones_o16))))))) (fun J15 =>
  (if i1 = (-1 : Int32) then
  J15 else
  (Option.bind (S_X7_isPerson i1 x_row) (fun r7 =>
  (if r7 = 0 then
  some ((-1 : Int32), x_away, x_order, x_dones) else
  J15))))))

def S_X7_leastOf_L5 (i1 : Int32) (i2 : Int32) (x_row : Nat → Int32) : Nat → Int32 → Int32 → Int32 → Int32 → (Nat → Int32) → (Nat → Int32) → Option (Int32 × Int32 × Int32 × (Nat → Int32) × (Nat → Int32))
  | 0, _, _, _, _, _, _ => none
  | n5 + 1, i3, i4, x_away, x_bestSet, x_order, x_dones =>
    (if ((1 : Int32) <<< ((x_row 0) &&& 31)) ≤ i4 then
    some (i3, x_away, x_bestSet, x_order, x_dones) else
    (Option.bind (S_X7_sends i4 x_row x_order x_dones) (fun (x_away_o21, x_order_o21, x_dones_o21) =>
    (jn (fun (s0_39 : Int32) => (jn ((jn (((S_X7_leastOf_L5 i1 i2 x_row n5) s0_39 (i4 + (1 : Int32)) x_away_o21 i4 x_order_o21 x_dones_o21)) (fun J62 =>
    (if i3 < 0 then
    J62 else
    (if i3 ≤ s0_39 then
    ((S_X7_leastOf_L5 i1 i2 x_row n5) i3 (i4 + (1 : Int32)) x_away_o21 x_bestSet x_order_o21 x_dones_o21) else
    J62))))) (fun J52 =>
    (if i2 = 0 then
    J52 else
    (Option.bind (S_X7_overtakings x_row x_dones_o21) (fun r46 =>
    (if r46 = 0 then
    J52 else
    ((S_X7_leastOf_L5 i1 i2 x_row n5) i3 (i4 + (1 : Int32)) x_away_o21 x_bestSet x_order_o21 x_dones_o21)))))))) (fun J39 =>
    (if i1 = 0 then
    (Option.bind (S_X7_latest x_row x_dones_o21) (fun r29 =>
    (J39 r29))) else
    (Option.bind (S_X7_sum x_row x_dones_o21) (fun r36 =>
    (J39 r36)))))))))

def S_X7_leastOf (i1 : Int32) (i2 : Int32) (x_away : Int32) (x_bestSet : Int32) (x_row : Nat → Int32) (x_order : Nat → Int32) (x_dones : Nat → Int32) : Option (Int32 × Int32 × Int32 × (Nat → Int32) × (Nat → Int32)) :=
  (S_X7_leastOf_L5 i1 i2 x_row 300 (-1 : Int32) (0 : Int32) x_away x_bestSet x_order x_dones)

def S_X7_best (i1 : Int32) (i2 : Int32) (x_away : Int32) (x_bestSet : Int32) (x_row : Nat → Int32) (x_order : Nat → Int32) (x_dones : Nat → Int32) : Option (Int32 × Int32 × Int32 × (Nat → Int32) × (Nat → Int32)) :=
  (Option.bind (S_X7_in i1.toInt64 (0 : Int64) (1 : Int64)) (fun r4 =>
  (if r4 = 0 then
  some ((-1 : Int32), x_away, x_bestSet, x_order, x_dones) else
  (Option.bind (S_X7_in i2.toInt64 (0 : Int64) (1 : Int64)) (fun r14 =>
  (if r14 = 0 then
  some ((-1 : Int32), x_away, x_bestSet, x_order, x_dones) else
  (Option.bind (S_X7_leastOf i1 (0 : Int32) x_away x_bestSet x_row x_order x_dones) (fun (r25, x_away_o25, x_bestSet_o25, x_order_o25, x_dones_o25) =>
  (if i2 = 0 then
  some (x_bestSet_o25, x_away_o25, x_bestSet_o25, x_order_o25, x_dones_o25) else
  some (r25, x_away_o25, x_bestSet_o25, x_order_o25, x_dones_o25))))))))))

def S_X7_fair (i1 : Int32) (x_away : Int32) (x_bestSet : Int32) (x_row : Nat → Int32) (x_order : Nat → Int32) (x_dones : Nat → Int32) : Option (Int32 × Int32 × Int32 × (Nat → Int32) × (Nat → Int32)) :=
  (Option.bind (S_X7_in i1.toInt64 (0 : Int64) (1 : Int64)) (fun r4 =>
  (if r4 = 0 then
  some ((-1 : Int32), x_away, x_bestSet, x_order, x_dones) else
  (Option.bind (S_X7_leastOf (1 : Int32) (1 : Int32) x_away x_bestSet x_row x_order x_dones) (fun (r15, x_away_o15, x_bestSet_o15, x_order_o15, x_dones_o15) =>
  (if i1 = 0 then
  some (x_bestSet_o15, x_away_o15, x_bestSet_o15, x_order_o15, x_dones_o15) else
  some (r15, x_away_o15, x_bestSet_o15, x_order_o15, x_dones_o15)))))))

def S_X7_oneRow_L17 (i1 : Int32) (x_row : Nat → Int32) : Nat → Int32 → Int32 → Int32 → (Nat → Int32) → Option (Int32 × (Nat → Int32))
  | 0, _, _, _, _ => none
  | n17 + 1, i2, i3, i4, x_dones =>
    (if (x_row 0) ≤ i4 then
    (Option.bind (S_X7_asked i1 x_row x_dones) (fun r115 =>
    some (r115, x_dones))) else
    (jn (fun (s0_38 : Int32) => (jn (fun (s0_63 : Int32) => (jn (fun (s0_88 : Int32) => (jn (fun (s0_106 : Int32) => (if i4 < 0 ∨ 8 ≤ i4.toNatClampNeg then none else
    ((S_X7_oneRow_L17 i1 x_row n17) (i2 + s0_63) (i3 + s0_88) (i4 + (1 : Int32)) (upd x_dones i4.toNatClampNeg s0_106)))) (fun J106 =>
    (if s0_38 = 0 then
    (J106 (i3 + s0_88)) else
    (J106 (i2 + s0_63)))))) (fun J88 =>
    (if s0_38 = 0 then
    (Option.bind (S_X7_things i4 x_row) (fun r84 =>
    (J88 ((x_row 2) * r84)))) else
    (J88 (0 : Int32)))))) (fun J63 =>
    (if s0_38 = 0 then
    (J63 (0 : Int32)) else
    (Option.bind (S_X7_things i4 x_row) (fun r55 =>
    (J63 ((x_row 1) * r55)))))))) (fun J38 =>
    (if i3 < i2 then
    (J38 (0 : Int32)) else
    (J38 (1 : Int32))))))

def S_X7_oneRow (i1 : Int32) (x_row : Nat → Int32) (x_dones : Nat → Int32) : Option (Int32 × (Nat → Int32)) :=
  (Option.bind (S_X7_isAsked i1 x_row) (fun r2 =>
  (if r2 = 0 then
  some ((-1 : Int32), x_dones) else
  (S_X7_oneRow_L17 i1 x_row 300 (0 : Int32) (0 : Int32) (0 : Int32) x_dones))))

def S_X7_called_L37 (i1 : Int32) (i2 : Int32) (i3 : Int32) (x_order : Nat → Int32) (x_dones : Nat → Int32) (x_row : Nat → Int32) : Nat → Int32 → Int32 → Option (Int32 × Int32 × (Nat → Int32) × (Nat → Int32))
  | 0, _, _ => none
  | n37 + 1, i4, i5 =>
    (if i3 ≤ i5 then
    (Option.bind (S_X7_sends i4 x_row x_order x_dones) (fun (x_away_o133, x_order_o133, x_dones_o133) =>
    (if i2 = 0 then
    (Option.bind (S_X7_latest x_row x_dones_o133) (fun r141 =>
    some (r141, x_away_o133, x_order_o133, x_dones_o133))) else
    (Option.bind (S_X7_sum x_row x_dones_o133) (fun r148 =>
    some (r148, x_away_o133, x_order_o133, x_dones_o133)))))) else
    (jn (fun (s0_104 : Int32) => (if s0_104 = 0 then
    ((S_X7_called_L37 i1 i2 i3 x_order x_dones x_row n37) (i4 ||| (0 : Int32)) (i5 + (1 : Int32))) else
    ((S_X7_called_L37 i1 i2 i3 x_order x_dones x_row n37) (i4 ||| ((1 : Int32) <<< (i5 &&& 31))) (i5 + (1 : Int32))))) (fun J104 =>
    (if i1 = 0 then
    (if (i5 - i5 / (2 : Int32) * (2 : Int32)) = (1 : Int32) then
    (J104 (1 : Int32)) else
    (J104 (0 : Int32))) else
    (if i1 = (1 : Int32) then
    (if i5 ≤ 0 then
    (J104 (0 : Int32)) else
    (if (i3 / (2 : Int32)) < i5 then
    (J104 (0 : Int32)) else
    (J104 (1 : Int32)))) else
    (if i5 < ((i3 + (1 : Int32)) / (2 : Int32)) then
    (J104 (0 : Int32)) else
    (J104 (1 : Int32))))))))

def S_X7_called (i1 : Int32) (i2 : Int32) (x_away : Int32) (x_row : Nat → Int32) (x_order : Nat → Int32) (x_dones : Nat → Int32) : Option (Int32 × Int32 × (Nat → Int32) × (Nat → Int32)) :=
  (Option.bind (S_X7_in i1.toInt64 (0 : Int64) (2 : Int64)) (fun r6 =>
  (if r6 = 0 then
  some ((-1 : Int32), x_away, x_order, x_dones) else
  (Option.bind (S_X7_in i2.toInt64 (0 : Int64) (1 : Int64)) (fun r16 =>
  (if r16 = 0 then
  some ((-1 : Int32), x_away, x_order, x_dones) else
  (S_X7_called_L37 i1 i2 (x_row 0) x_order x_dones x_row 300 (0 : Int32) (0 : Int32))))))))

def S_X7_asides_L2 (x_row : Nat → Int32) : Nat → Int32 → (Nat → Int32) → Option ((Nat → Int32))
  | 0, _, _ => none
  | n2 + 1, i1, x_aside =>
    (if (28 : Int32) ≤ i1 then
    some x_aside else
    (if i1 < 0 ∨ 28 ≤ i1.toNatClampNeg then none else
    (if i1 < 0 ∨ 28 ≤ i1.toNatClampNeg then none else
    ((S_X7_asides_L2 x_row n2) (i1 + (1 : Int32)) (upd x_aside i1.toNatClampNeg (x_row i1.toNatClampNeg))))))

def S_X7_asides (x_row : Nat → Int32) (x_aside : Nat → Int32) : Option ((Nat → Int32)) :=
  (S_X7_asides_L2 x_row 300 (0 : Int32) x_aside)

def S_X7_backs_L2 (x_aside : Nat → Int32) : Nat → Int32 → (Nat → Int32) → Option ((Nat → Int32))
  | 0, _, _ => none
  | n2 + 1, i1, x_row =>
    (if (28 : Int32) ≤ i1 then
    some x_row else
    (if i1 < 0 ∨ 28 ≤ i1.toNatClampNeg then none else
    (if i1 < 0 ∨ 28 ≤ i1.toNatClampNeg then none else
    ((S_X7_backs_L2 x_aside n2) (i1 + (1 : Int32)) (upd x_row i1.toNatClampNeg (x_aside i1.toNatClampNeg))))))

def S_X7_backs (x_aside : Nat → Int32) (x_row : Nat → Int32) : Option ((Nat → Int32)) :=
  (S_X7_backs_L2 x_aside 300 (0 : Int32) x_row)

def S_X7_open_L66 (rc36 : Int32 → Int32 → Int32 → Int32 → Int32 → (Nat → Int32) → (Nat → Int32) → (Nat → Int32) → Option (Int32 × Int32 × Int32 × (Nat → Int32) × (Nat → Int32) × (Nat → Int32) × (Nat → Int32))) (i3 : Int32) (i4 : Int32) (i5 : Int32) (i7 : Int32) (x_away : Int32) (x_bestSet : Int32) (x_row : Nat → Int32) (x_aside : Nat → Int32) (x_order : Nat → Int32) (x_dones : Nat → Int32) : Nat → Int32 → Int32 → Int32 → Option (Int32 × Int32 × Int32 × (Nat → Int32) × (Nat → Int32) × (Nat → Int32) × (Nat → Int32))
  | 0, _, _, _ => none
  | n66 + 1, i6, i8, i9 =>
    (if i7 ≤ i9 then
    (Option.bind (S_X7_leastOf (1 : Int32) (0 : Int32) x_away x_bestSet x_row x_order x_dones) (fun (r125, x_away_o125, x_bestSet_o125, x_order_o125, x_dones_o125) =>
    (Option.bind (S_X7_backs x_aside x_row) (fun x_row_o133 =>
    (jn (fun (s0_154 : Int32) => (if i4 < 0 then
    (rc36 s0_154 (i6 + ((i5 * (x_row 0)) + r125)) (i5 + (1 : Int32)) x_away_o125 x_bestSet_o125 x_row_o133 x_order_o125 x_dones_o125) else
    (if i4 ≤ (i6 + ((i5 * (x_row 0)) + r125)) then
    (rc36 s0_154 i4 (i5 + (1 : Int32)) x_away_o125 x_bestSet_o125 x_row_o133 x_order_o125 x_dones_o125) else
    (rc36 s0_154 (i6 + ((i5 * (x_row 0)) + r125)) (i5 + (1 : Int32)) x_away_o125 x_bestSet_o125 x_row_o133 x_order_o125 x_dones_o125)))) (fun J154 =>
    (jn ((J154 i5)) (fun J148 =>
    (if i4 < 0 then
    J148 else
    (if i4 ≤ (i6 + ((i5 * (x_row 0)) + r125)) then
    (J154 i3) else
    J148)))))))))) else
    (if (((4 : Int32) + ((3 : Int32) * i9)) + (1 : Int32)) < 0 ∨ 28 ≤ (((4 : Int32) + ((3 : Int32) * i9)) + (1 : Int32)).toNatClampNeg then none else
    (nm (i8 + (x_aside (((4 : Int32) + ((3 : Int32) * i9)) + (1 : Int32)).toNatClampNeg)) (fun (v89 : Int32) =>
    ((S_X7_open_L66 rc36 i3 i4 i5 i7 x_away x_bestSet x_row x_aside x_order x_dones n66) (i6 + (v89 * (x_row 1))) v89 (i9 + (1 : Int32)))))))

def S_X7_open_L36 (i1 : Int32) (i2 : Int32) (x_aside : Nat → Int32) : Nat → Int32 → Int32 → Int32 → Int32 → Int32 → (Nat → Int32) → (Nat → Int32) → (Nat → Int32) → Option (Int32 × Int32 × Int32 × (Nat → Int32) × (Nat → Int32) × (Nat → Int32) × (Nat → Int32))
  | 0, _, _, _, _, _, _, _, _ => none
  | n36 + 1, i3, i4, i5, x_away, x_bestSet, x_row, x_order, x_dones =>
    (if (31 : Int32) ≤ i5 then
    (if i2 = 0 then
    some (i3, x_away, x_bestSet, x_row, x_aside, x_order, x_dones) else
    some (i4, x_away, x_bestSet, x_row, x_aside, x_order, x_dones)) else
    (Option.bind (S_X7_goesBy i5 x_row) (fun (r55, x_row_o55) =>
    (S_X7_open_L66 (S_X7_open_L36 i1 i2 x_aside n36) i3 i4 i5 r55 x_away x_bestSet x_row_o55 x_aside x_order x_dones 300 (i1 * ((30 : Int32) - i5)) (0 : Int32) (0 : Int32)))))

def S_X7_open (i1 : Int32) (i2 : Int32) (x_away : Int32) (x_bestSet : Int32) (x_row : Nat → Int32) (x_aside : Nat → Int32) (x_order : Nat → Int32) (x_dones : Nat → Int32) : Option (Int32 × Int32 × Int32 × (Nat → Int32) × (Nat → Int32) × (Nat → Int32) × (Nat → Int32)) :=
  (Option.bind (S_X7_in i1.toInt64 (0 : Int64) (20 : Int64)) (fun r6 =>
  (if r6 = 0 then
  some ((-1 : Int32), x_away, x_bestSet, x_row, x_aside, x_order, x_dones) else
  (Option.bind (S_X7_in i2.toInt64 (0 : Int64) (1 : Int64)) (fun r16 =>
  (if r16 = 0 then
  some ((-1 : Int32), x_away, x_bestSet, x_row, x_aside, x_order, x_dones) else
  (Option.bind (S_X7_asides x_row x_aside) (fun x_aside_o25 =>
  (S_X7_open_L36 i1 i2 x_aside_o25 300 (0 : Int32) (-1 : Int32) (0 : Int32) x_away x_bestSet x_row x_order x_dones)))))))))

def S_X7_tape (i1 : Int32) (i2 : Int32) (x_taped : Int32) (x_row : Nat → Int32) (x_tapedWho : Nat → Int32) (x_tapedTill : Nat → Int32) : Option (Int32 × Int32 × (Nat → Int32) × (Nat → Int32)) :=
  (Option.bind (S_X7_isPerson i1 x_row) (fun r2 =>
  (if r2 = 0 then
  some ((-1 : Int32), x_taped, x_tapedWho, x_tapedTill) else
  (Option.bind (S_X7_in i2.toInt64 (0 : Int64) (1 : Int64)) (fun r12 =>
  (if r12 = 0 then
  some ((-1 : Int32), x_taped, x_tapedWho, x_tapedTill) else
  (if x_taped = (8 : Int32) then
  some ((-3 : Int32), x_taped, x_tapedWho, x_tapedTill) else
  (if x_taped < 0 ∨ 8 ≤ x_taped.toNatClampNeg then none else
  (if x_taped < 0 ∨ 8 ≤ x_taped.toNatClampNeg then none else
  some (x_taped + (1 : Int32), x_taped + (1 : Int32), upd x_tapedWho x_taped.toNatClampNeg i1, upd x_tapedTill x_taped.toNatClampNeg i2))))))))))

def S_X7_forget (x_taped : Int32) : Option (Int32 × Int32) :=
  some (x_taped, (0 : Int32))

def S_X7_kinds_L49 (rc21 : Int32 → Int32 → Int32 → (Nat → Int32) → (Nat → Int32) → (Nat → Int32) → Option (Int32 × Int32 × (Nat → Int32) × (Nat → Int32) × (Nat → Int32))) (i3 : Int32) (i4 : Int32) (x_away : Int32) (x_row : Nat → Int32) (x_order : Nat → Int32) (x_dones : Nat → Int32) (x_taped : Int32) (x_tapedWho : Nat → Int32) (x_tapedTill : Nat → Int32) : Nat → Int32 → Int32 → Option (Int32 × Int32 × (Nat → Int32) × (Nat → Int32) × (Nat → Int32))
  | 0, _, _ => none
  | n49 + 1, i5, i6 =>
    (if x_taped ≤ i6 then
    (if i5 = 0 then
    (rc21 (i3 ||| (0 : Int32)) (i4 + (1 : Int32)) x_away x_row x_order x_dones) else
    (rc21 (i3 ||| ((1 : Int32) <<< (i4 &&& 31))) (i4 + (1 : Int32)) x_away x_row x_order x_dones)) else
    (if i5 = 0 then
    ((S_X7_kinds_L49 rc21 i3 i4 x_away x_row x_order x_dones x_taped x_tapedWho x_tapedTill n49) (0 : Int32) (i6 + (1 : Int32))) else
    (if i6 < 0 ∨ 8 ≤ i6.toNatClampNeg then none else
    (if i6 < 0 ∨ 8 ≤ i6.toNatClampNeg then none else
    (if ((x_away >>> ((x_tapedWho i6.toNatClampNeg) &&& 31)) &&& (1 : Int32)) = (x_tapedTill i6.toNatClampNeg) then
    ((S_X7_kinds_L49 rc21 i3 i4 x_away x_row x_order x_dones x_taped x_tapedWho x_tapedTill n49) (1 : Int32) (i6 + (1 : Int32))) else
    ((S_X7_kinds_L49 rc21 i3 i4 x_away x_row x_order x_dones x_taped x_tapedWho x_tapedTill n49) (0 : Int32) (i6 + (1 : Int32))))))))

def S_X7_kinds_L21 (i1 : Int32) (i2 : Int32) (x_taped : Int32) (x_tapedWho : Nat → Int32) (x_tapedTill : Nat → Int32) : Nat → Int32 → Int32 → Int32 → (Nat → Int32) → (Nat → Int32) → (Nat → Int32) → Option (Int32 × Int32 × (Nat → Int32) × (Nat → Int32) × (Nat → Int32))
  | 0, _, _, _, _, _, _ => none
  | n21 + 1, i3, i4, x_away, x_row, x_order, x_dones =>
    (if (4 : Int32) ≤ i4 then
    (if ((4 : Int32) + ((3 : Int32) * i1)) < 0 ∨ 28 ≤ ((4 : Int32) + ((3 : Int32) * i1)).toNatClampNeg then none else
    some (i3, x_away, upd x_row ((4 : Int32) + ((3 : Int32) * i1)).toNatClampNeg i2, x_order, x_dones)) else
    (if ((4 : Int32) + ((3 : Int32) * i1)) < 0 ∨ 28 ≤ ((4 : Int32) + ((3 : Int32) * i1)).toNatClampNeg then none else
    (Option.bind (S_X7_opens (upd x_row ((4 : Int32) + ((3 : Int32) * i1)).toNatClampNeg i4) x_order x_dones) (fun (x_away_o40, x_order_o40, x_dones_o40) =>
    (S_X7_kinds_L49 (S_X7_kinds_L21 i1 i2 x_taped x_tapedWho x_tapedTill n21) i3 i4 x_away_o40 (upd x_row ((4 : Int32) + ((3 : Int32) * i1)).toNatClampNeg i4) x_order_o40 x_dones_o40 x_taped x_tapedWho x_tapedTill 300 (1 : Int32) (0 : Int32))))))

def S_X7_kinds (i1 : Int32) (x_away : Int32) (x_taped : Int32) (x_row : Nat → Int32) (x_order : Nat → Int32) (x_dones : Nat → Int32) (x_tapedWho : Nat → Int32) (x_tapedTill : Nat → Int32) : Option (Int32 × Int32 × (Nat → Int32) × (Nat → Int32) × (Nat → Int32)) :=
  (Option.bind (S_X7_isPerson i1 x_row) (fun r2 =>
  (if r2 = 0 then
  some ((-1 : Int32), x_away, x_row, x_order, x_dones) else
  (Option.bind (S_X7_kind i1 x_row) (fun r12 =>
  (S_X7_kinds_L21 i1 r12 x_taped x_tapedWho x_tapedTill 300 (0 : Int32) (0 : Int32) x_away x_row x_order x_dones))))))

def S_X7_beaten_L86 (i3 : Int32) (i4 : Int32) (i5 : Int32) (x_order : Nat → Int32) : Nat → Int32 → Int32 → Option (Int32 × (Nat → Int32))
  | 0, _, _ => none
  | n86 + 1, i6, i7 =>
    (if i7 = 0 then
    (if i3 = 0 then
    (if i6 = 0 then none else
    some (i4 / i6, x_order)) else
    (if i6 = 0 then none else
    some (i5 / i6, x_order))) else
    (if i7 = 0 then none else
    ((S_X7_beaten_L86 i3 i4 i5 x_order n86) i7 (i6 - i6 / i7 * i7))))

def S_X7_beaten_L45 (i1 : Int32) (i2 : Int32) (i3 : Int32) (x_order : Nat → Int32) : Nat → Int32 → Int32 → Int32 → Option (Int32 × (Nat → Int32))
  | 0, _, _, _ => none
  | n45 + 1, i4, i5, i6 =>
    (if i6 < 0 ∨ 8 ≤ i6.toNatClampNeg then none else
    (if (x_order i6.toNatClampNeg) = i1 then
    (S_X7_beaten_L86 i3 i4 i5 x_order 300 i4 i5) else
    ((S_X7_beaten_L45 i1 i2 i3 x_order n45) (i4 * ((10 : Int32) - i2)) (i5 * (10 : Int32)) (i6 + (1 : Int32)))))

def S_X7_beaten (i1 : Int32) (i2 : Int32) (i3 : Int32) (x_row : Nat → Int32) (x_order : Nat → Int32) : Option (Int32 × (Nat → Int32)) :=
  (Option.bind (S_X7_isPerson i1 x_row) (fun r2 =>
  (if r2 = 0 then
  some ((-1 : Int32), x_order) else
  (Option.bind (S_X7_in i2.toInt64 (0 : Int64) (10 : Int64)) (fun r14 =>
  (if r14 = 0 then
  some ((-1 : Int32), x_order) else
  (Option.bind (S_X7_in i3.toInt64 (0 : Int64) (1 : Int64)) (fun r24 =>
  (if r24 = 0 then
  some ((-1 : Int32), x_order) else
  (Option.bind (S_X7_orders x_row x_order) (fun x_order_o33 =>
  (S_X7_beaten_L45 i1 i2 i3 x_order_o33 300 (1 : Int32) (1 : Int32) (0 : Int32)))))))))))))

def S_X7_learner_L12 (i1 : Int32) : Nat → Int32 → Int32 → Int32 → Int32 → (Nat → Int32) → (Nat → Int32) → (Nat → Int32) → Option (Int32 × Int32 × Int32 × (Nat → Int32) × (Nat → Int32) × (Nat → Int32))
  | 0, _, _, _, _, _, _, _ => none
  | n12 + 1, i2, i3, x_away, x_bestSet, x_row, x_order, x_dones =>
    (if (10 : Int32) ≤ i3 then
    some (i2, x_away, x_bestSet, upd x_row 2 i1, x_order, x_dones) else
    (Option.bind (S_X7_sends (0 : Int32) (upd x_row 2 i3) x_order x_dones) (fun (x_away_o27, x_order_o27, x_dones_o27) =>
    (Option.bind (S_X7_sum (upd x_row 2 i3) x_dones_o27) (fun r31 =>
    (Option.bind (S_X7_leastOf (1 : Int32) (0 : Int32) x_away_o27 x_bestSet (upd x_row 2 i3) x_order_o27 x_dones_o27) (fun (r39, x_away_o39, x_bestSet_o39, x_order_o39, x_dones_o39) =>
    (if r31 ≤ r39 then
    ((S_X7_learner_L12 i1 n12) i2 (i3 + (1 : Int32)) x_away_o39 x_bestSet_o39 (upd x_row 2 i3) x_order_o39 x_dones_o39) else
    ((S_X7_learner_L12 i1 n12) i3 (i3 + (1 : Int32)) x_away_o39 x_bestSet_o39 (upd x_row 2 i3) x_order_o39 x_dones_o39)))))))))

def S_X7_learner (x_away : Int32) (x_bestSet : Int32) (x_row : Nat → Int32) (x_order : Nat → Int32) (x_dones : Nat → Int32) : Option (Int32 × Int32 × Int32 × (Nat → Int32) × (Nat → Int32) × (Nat → Int32)) :=
  (S_X7_learner_L12 (x_row 2) 300 (-4 : Int32) (1 : Int32) x_away x_bestSet x_row x_order x_dones)

def S_X7_day_L46 (i1 : Int32) (i2 : Int32) (i3 : Int32) (x_aside : Nat → Int32) : Nat → Int32 → Int32 → (Nat → Int32) → Option (Int32 × (Nat → Int32) × (Nat → Int32))
  | 0, _, _, _ => none
  | n46 + 1, i4, i5, x_row =>
    (if i2 ≤ i5 then
    (Option.bind (S_X7_backs x_aside x_row) (fun x_row_o151 =>
    (if i3 = 0 then
    some (i4, x_row_o151, x_aside) else
    some (x_row 0, x_row_o151, x_aside)))) else
    (nm ((((7919 : Int64) * i1.toInt64) + ((6151 : Int64) * i5.toInt64)) + (1 : Int64)) (fun (v68 : Int64) =>
    (nm (((v68 * v68) - (v68 * v68) / (65521 : Int64) * (65521 : Int64)).toInt32) (fun (v80 : Int32) =>
    (jn (fun (x_row_119 : Nat → Int32) => (Option.bind (S_X7_goesBy ((v80 / (16 : Int32)) - (v80 / (16 : Int32)) / (20 : Int32) * (20 : Int32)) x_row_119) (fun (r130, x_row_o130) =>
    ((S_X7_day_L46 i1 i2 i3 x_aside n46) (i4 + r130) (i5 + (1 : Int32)) x_row_o130)))) (fun J119 =>
    (if (8 : Int32) ≤ (x_row 0) then
    (J119 x_row) else
    (Option.bind (S_X7_stands (v80 - v80 / (4 : Int32) * (4 : Int32)) (((v80 / (4 : Int32)) - (v80 / (4 : Int32)) / (9 : Int32) * (9 : Int32)) + (1 : Int32)) (((v80 / (64 : Int32)) - (v80 / (64 : Int32)) / (5 : Int32) * (5 : Int32)) + (1 : Int32)) x_row) (fun x_row_o116 =>
    (J119 x_row_o116)))))))))))

def S_X7_day (i1 : Int32) (i2 : Int32) (i3 : Int32) (x_row : Nat → Int32) (x_aside : Nat → Int32) : Option (Int32 × (Nat → Int32) × (Nat → Int32)) :=
  (Option.bind (S_X7_in i1.toInt64 (0 : Int64) (9999 : Int64)) (fun r6 =>
  (if r6 = 0 then
  some ((-1 : Int32), x_row, x_aside) else
  (Option.bind (S_X7_in i2.toInt64 (1 : Int64) (30 : Int64)) (fun r18 =>
  (if r18 = 0 then
  some ((-1 : Int32), x_row, x_aside) else
  (Option.bind (S_X7_in i3.toInt64 (0 : Int64) (1 : Int64)) (fun r28 =>
  (if r28 = 0 then
  some ((-1 : Int32), x_row, x_aside) else
  (Option.bind (S_X7_asides x_row x_aside) (fun x_aside_o37 =>
  (S_X7_day_L46 i1 i2 i3 x_aside_o37 300 (0 : Int32) (0 : Int32) x_row))))))))))))

def S_X7_keep_L13 (x_keeps : Int32) (x_row : Nat → Int32) : Nat → Int32 → (Nat → Int32) → Option (Int32 × Int32 × (Nat → Int32))
  | 0, _, _ => none
  | n13 + 1, i1, x_kept =>
    (if (28 : Int32) ≤ i1 then
    some (x_keeps + (1 : Int32), x_keeps + (1 : Int32), x_kept) else
    (if i1 < 0 ∨ 28 ≤ i1.toNatClampNeg then none else
    (if (((28 : Int32) * x_keeps) + i1) < 0 ∨ 56 ≤ (((28 : Int32) * x_keeps) + i1).toNatClampNeg then none else
    ((S_X7_keep_L13 x_keeps x_row n13) (i1 + (1 : Int32)) (upd x_kept (((28 : Int32) * x_keeps) + i1).toNatClampNeg (x_row i1.toNatClampNeg))))))

def S_X7_keep (x_keeps : Int32) (x_row : Nat → Int32) (x_kept : Nat → Int32) : Option (Int32 × Int32 × (Nat → Int32)) :=
  (if x_keeps = (2 : Int32) then
  some ((-3 : Int32), x_keeps, x_kept) else
  (S_X7_keep_L13 x_keeps x_row 300 (0 : Int32) x_kept))

def S_X7_back_L22 (x_keeps : Int32) (x_kept : Nat → Int32) : Nat → Int32 → (Nat → Int32) → Option (Int32 × Int32 × Int32 × Int32 × (Nat → Int32))
  | 0, _, _ => none
  | n22 + 1, i1, x_row =>
    (if (28 : Int32) ≤ i1 then
    some (x_keeps, (0 : Int32), (0 : Int32), x_keeps, x_row) else
    (if (((28 : Int32) * x_keeps) + i1) < 0 ∨ 56 ≤ (((28 : Int32) * x_keeps) + i1).toNatClampNeg then none else
    (if i1 < 0 ∨ 28 ≤ i1.toNatClampNeg then none else
    ((S_X7_back_L22 x_keeps x_kept n22) (i1 + (1 : Int32)) (upd x_row i1.toNatClampNeg (x_kept (((28 : Int32) * x_keeps) + i1).toNatClampNeg))))))

def S_X7_back (x_undos : Int32) (x_taped : Int32) (x_keeps : Int32) (x_kept : Nat → Int32) (x_row : Nat → Int32) : Option (Int32 × Int32 × Int32 × Int32 × (Nat → Int32)) :=
  (if x_keeps = 0 then
  some ((-2 : Int32), x_undos, x_taped, x_keeps, x_row) else
  (S_X7_back_L22 (x_keeps - (1 : Int32)) x_kept 300 (0 : Int32) x_row))

def S_X7_count (i1 : Int32) (x_letters : Int32) (x_undos : Int32) (x_taped : Int32) (x_keeps : Int32) (x_row : Nat → Int32) : Option (Int32) :=
  (if i1 = 0 then
  (if i1 < 0 ∨ 28 ≤ i1.toNatClampNeg then none else
  some (x_row i1.toNatClampNeg)) else
  (if i1 = 1 then
  (if i1 < 0 ∨ 28 ≤ i1.toNatClampNeg then none else
  some (x_row i1.toNatClampNeg)) else
  (if i1 = 2 then
  (if i1 < 0 ∨ 28 ≤ i1.toNatClampNeg then none else
  some (x_row i1.toNatClampNeg)) else
  (if i1 = 3 then
  (if i1 < 0 ∨ 28 ≤ i1.toNatClampNeg then none else
  some (x_row i1.toNatClampNeg)) else
  (if i1 = 4 then
  some x_taped else
  (if i1 = 5 then
  some x_undos else
  (if i1 = 6 then
  some x_keeps else
  (if i1 = 7 then
  some x_letters else
  some (-1 : Int32)))))))))

def S_X6_write (i1 : Int32) (x_text_length : Int32) (x_text_letters : Nat → Int32) : Option (Int32 × Int32 × (Nat → Int32)) :=
  (Option.bind (S_X6_within i1 (32 : Int32) (126 : Int32)) (fun r5 =>
  (if r5 = 0 then
  some ((-1 : Int32), x_text_length, x_text_letters) else
  (Option.bind (S_X5_append ((i1.toUInt32 % 65536).toInt32) x_text_length x_text_letters) (fun (r19, x_text_length_o19, x_text_letters_o19) =>
  (if r19 = 0 then
  some ((-3 : Int32), x_text_length_o19, x_text_letters_o19) else
  some (x_text_length_o19, x_text_length_o19, x_text_letters_o19)))))))

def S_X6_wipe (x_text_length : Int32) : Option (Int32 × Int32) :=
  some (x_text_length, (0 : Int32))

def S_X6_fault (x_text_length : Int32) (x_text_letters : Nat → Int32) (x_text_numbers : Nat → Int32) (x_spare_kind : Nat → Int32) (x_spare_things : Nat → Int32) (x_spare_feet : Nat → Int32) : Option (Int32 × Int32 × Int32 × Int32 × Int32 × (Nat → Int32) × (Nat → Int32) × (Nat → Int32) × (Nat → Int32)) :=
  (Option.bind (S_X5_readInto x_text_length x_text_letters x_text_numbers x_spare_kind x_spare_things x_spare_feet) (fun (r8, x_spare_people_o8, x_spare_firstPace_o8, x_spare_secondPace_o8, x_spare_steps_o8, x_text_numbers_o8, x_spare_kind_o8, x_spare_things_o8, x_spare_feet_o8) =>
  some (r8, x_spare_people_o8, x_spare_firstPace_o8, x_spare_secondPace_o8, x_spare_steps_o8, x_text_numbers_o8, x_spare_kind_o8, x_spare_things_o8, x_spare_feet_o8)))

def S_X6_lay (x_text_length : Int32) (x_text_letters : Nat → Int32) (x_text_numbers : Nat → Int32) (x_spare_kind : Nat → Int32) (x_spare_things : Nat → Int32) (x_spare_feet : Nat → Int32) (x_shop_people : Int32) (x_shop_firstPace : Int32) (x_shop_secondPace : Int32) (x_shop_steps : Int32) (x_shop_kind : Nat → Int32) (x_shop_things : Nat → Int32) (x_shop_feet : Nat → Int32) (x_roll_length : Int32) (x_past_height : Int32) (x_shelf_height : Int32) : Option (Int32 × Int32 × Int32 × Int32 × Int32 × (Nat → Int32) × (Nat → Int32) × (Nat → Int32) × (Nat → Int32) × Int32 × Int32 × Int32 × Int32 × (Nat → Int32) × (Nat → Int32) × (Nat → Int32) × Int32 × Int32 × Int32) :=
  (Option.bind (S_X5_readInto x_text_length x_text_letters x_text_numbers x_spare_kind x_spare_things x_spare_feet) (fun (r8, x_spare_people_o8, x_spare_firstPace_o8, x_spare_secondPace_o8, x_spare_steps_o8, x_text_numbers_o8, x_spare_kind_o8, x_spare_things_o8, x_spare_feet_o8) =>
  (if r8 = (-4 : Int32) then
  (if x_spare_people_o8 = 0 then
  some ((-2 : Int32), x_spare_people_o8, x_spare_firstPace_o8, x_spare_secondPace_o8, x_spare_steps_o8, x_text_numbers_o8, x_spare_kind_o8, x_spare_things_o8, x_spare_feet_o8, x_shop_people, x_shop_firstPace, x_shop_secondPace, x_shop_steps, x_shop_kind, x_shop_things, x_shop_feet, x_roll_length, x_past_height, x_shelf_height) else
  (Option.bind (S_X3_becomeLike x_spare_people_o8 x_spare_firstPace_o8 x_spare_secondPace_o8 x_spare_steps_o8 x_spare_kind_o8 x_shop_kind x_spare_things_o8 x_shop_things x_spare_feet_o8 x_shop_feet) (fun (x_shop_people_o37, x_shop_firstPace_o37, x_shop_secondPace_o37, x_shop_steps_o37, x_shop_kind_o37, x_shop_things_o37, x_shop_feet_o37) =>
  some (x_shop_people_o37, x_spare_people_o8, x_spare_firstPace_o8, x_spare_secondPace_o8, x_spare_steps_o8, x_text_numbers_o8, x_spare_kind_o8, x_spare_things_o8, x_spare_feet_o8, x_shop_people_o37, x_shop_firstPace_o37, x_shop_secondPace_o37, x_shop_steps_o37, x_shop_kind_o37, x_shop_things_o37, x_shop_feet_o37, (0 : Int32), (0 : Int32), (0 : Int32))))) else
  some ((-2 : Int32), x_spare_people_o8, x_spare_firstPace_o8, x_spare_secondPace_o8, x_spare_steps_o8, x_text_numbers_o8, x_spare_kind_o8, x_spare_things_o8, x_spare_feet_o8, x_shop_people, x_shop_firstPace, x_shop_secondPace, x_shop_steps, x_shop_kind, x_shop_things, x_shop_feet, x_roll_length, x_past_height, x_shelf_height))))

def S_X6_person (i1 : Int32) (i2 : Int32) (x_shop_people : Int32) (x_shop_steps : Int32) (x_shop_kind : Nat → Int32) (x_shop_things : Nat → Int32) (x_shop_feet : Nat → Int32) : Option (Int32) :=
  (Option.bind (S_X3_has i1 x_shop_people) (fun r5 =>
  (if r5 = 0 then
  some (-1 : Int32) else
  (if i2 = 0 then
  (if i1 < 0 ∨ 8 ≤ i1.toNatClampNeg then none else
  some (x_shop_kind i1.toNatClampNeg)) else
  (if i2 = 1 then
  (if i1 < 0 ∨ 8 ≤ i1.toNatClampNeg then none else
  some (x_shop_things i1.toNatClampNeg)) else
  (if i2 = 2 then
  (if i1 < 0 ∨ 8 ≤ i1.toNatClampNeg then none else
  some (x_shop_feet i1.toNatClampNeg)) else
  (if i2 = 3 then
  (Option.bind (S_X3_walk i1 x_shop_people x_shop_steps x_shop_feet) (fun r79 =>
  some r79)) else
  some (-1 : Int32))))))))

def S_X6_isPersonOrSum (i1 : Int32) (x_shop_people : Int32) : Option (Int32) :=
  (if i1 = (-1 : Int32) then
  some (1 : Int32) else
  (if i1 = (-2 : Int32) then
  some (1 : Int32) else
  (Option.bind (S_X3_has i1 x_shop_people) (fun r16 =>
  (if r16 = 0 then
  some (0 : Int32) else
  some (1 : Int32))))))

def S_X6_goes (i1 : Int32) (x_crossing_people : Int32) (x_crossing_away : Int32) (x_shop_people : Int32) (x_shop_firstPace : Int32) (x_shop_secondPace : Int32) (x_shop_steps : Int32) (x_shop_kind : Nat → Int32) (x_crossing_kind : Nat → Int32) (x_shop_feet : Nat → Int32) (x_crossing_walk : Nat → Int32) (x_shop_things : Nat → Int32) (x_crossing_first : Nat → Int32) (x_crossing_second : Nat → Int32) (x_crossing_order : Nat → Int32) (x_crossing_ready : Nat → Int32) : Option (Int32 × Int32 × Int32 × (Nat → Int32) × (Nat → Int32) × (Nat → Int32) × (Nat → Int32) × (Nat → Int32) × (Nat → Int32)) :=
  (Option.bind (S_X6_within i1 (-1 : Int32) (7 : Int32)) (fun r4 =>
  (if r4 = 0 then
  some ((-1 : Int32), x_crossing_people, x_crossing_away, x_crossing_kind, x_crossing_walk, x_crossing_first, x_crossing_second, x_crossing_order, x_crossing_ready) else
  (Option.bind (S_X0_lookAt x_shop_people x_shop_firstPace x_shop_secondPace x_shop_steps x_shop_kind x_crossing_kind x_shop_feet x_crossing_walk x_shop_things x_crossing_first x_crossing_second x_crossing_order) (fun (x_crossing_people_o20, x_crossing_kind_o20, x_crossing_walk_o20, x_crossing_first_o20, x_crossing_second_o20, x_crossing_order_o20) =>
  (Option.bind (S_X0_letDecide x_crossing_people_o20 x_crossing_order_o20 x_crossing_walk_o20 x_crossing_second_o20 x_crossing_kind_o20 x_crossing_first_o20 x_crossing_ready) (fun (x_crossing_away_o27, x_crossing_ready_o27) =>
  (if i1 = (-1 : Int32) then
  some (x_crossing_away_o27, x_crossing_people_o20, x_crossing_away_o27, x_crossing_kind_o20, x_crossing_walk_o20, x_crossing_first_o20, x_crossing_second_o20, x_crossing_order_o20, x_crossing_ready_o27) else
  (Option.bind (S_X0_servedThere i1 x_crossing_people_o20 x_crossing_away_o27 x_crossing_order_o20) (fun r50 =>
  some (r50, x_crossing_people_o20, x_crossing_away_o27, x_crossing_kind_o20, x_crossing_walk_o20, x_crossing_first_o20, x_crossing_second_o20, x_crossing_order_o20, x_crossing_ready_o27)))))))))))

def S_X6_done (i1 : Int32) (i2 : Int32) (x_shop_people : Int32) (x_shop_firstPace : Int32) (x_shop_secondPace : Int32) (x_shop_steps : Int32) (x_crossing_people : Int32) (x_crossing_away : Int32) (x_shop_kind : Nat → Int32) (x_crossing_kind : Nat → Int32) (x_shop_feet : Nat → Int32) (x_crossing_walk : Nat → Int32) (x_shop_things : Nat → Int32) (x_crossing_first : Nat → Int32) (x_crossing_second : Nat → Int32) (x_crossing_order : Nat → Int32) (x_crossing_ready : Nat → Int32) : Option (Int32 × Int32 × Int32 × (Nat → Int32) × (Nat → Int32) × (Nat → Int32) × (Nat → Int32) × (Nat → Int32) × (Nat → Int32)) :=
  (Option.bind (S_X6_isPersonOrSum i1 x_shop_people) (fun r2 =>
  (if r2 = 0 then
  some ((-1 : Int32), x_crossing_people, x_crossing_away, x_crossing_kind, x_crossing_walk, x_crossing_first, x_crossing_second, x_crossing_order, x_crossing_ready) else
  (Option.bind (S_X6_within i2 (0 : Int32) (1 : Int32)) (fun r11 =>
  (if r11 = 0 then
  some ((-1 : Int32), x_crossing_people, x_crossing_away, x_crossing_kind, x_crossing_walk, x_crossing_first, x_crossing_second, x_crossing_order, x_crossing_ready) else
  (Option.bind (S_X0_lookAt x_shop_people x_shop_firstPace x_shop_secondPace x_shop_steps x_shop_kind x_crossing_kind x_shop_feet x_crossing_walk x_shop_things x_crossing_first x_crossing_second x_crossing_order) (fun (x_crossing_people_o27, x_crossing_kind_o27, x_crossing_walk_o27, x_crossing_first_o27, x_crossing_second_o27, x_crossing_order_o27) =>
  (jn (fun (x_crossing_away_53 : Int32) (x_crossing_ready_53 : Nat → Int32) => (Option.bind (S_X0_readyOf i1 x_crossing_people_o27 x_crossing_ready_53) (fun r58 =>
  some (r58, x_crossing_people_o27, x_crossing_away_53, x_crossing_kind_o27, x_crossing_walk_o27, x_crossing_first_o27, x_crossing_second_o27, x_crossing_order_o27, x_crossing_ready_53)))) (fun J53 =>
  (if i2 = (1 : Int32) then
  (Option.bind (S_X0_letDecide x_crossing_people_o27 x_crossing_order_o27 x_crossing_walk_o27 x_crossing_second_o27 x_crossing_kind_o27 x_crossing_first_o27 x_crossing_ready) (fun (x_crossing_away_o39, x_crossing_ready_o39) =>
  (J53 x_crossing_away_o39 x_crossing_ready_o39))) else
  (Option.bind (S_X0_send (0 : Int32) x_crossing_people_o27 x_crossing_order_o27 x_crossing_walk_o27 x_crossing_second_o27 x_crossing_ready x_crossing_first_o27) (fun (x_crossing_away_o50, x_crossing_ready_o50) =>
  (J53 x_crossing_away_o50 x_crossing_ready_o50))))))))))))))

def S_X6_overtaken (i1 : Int32) (x_shop_people : Int32) (x_shop_firstPace : Int32) (x_shop_secondPace : Int32) (x_shop_steps : Int32) (x_crossing_people : Int32) (x_crossing_away : Int32) (x_shop_kind : Nat → Int32) (x_crossing_kind : Nat → Int32) (x_shop_feet : Nat → Int32) (x_crossing_walk : Nat → Int32) (x_shop_things : Nat → Int32) (x_crossing_first : Nat → Int32) (x_crossing_second : Nat → Int32) (x_crossing_order : Nat → Int32) (x_crossing_ready : Nat → Int32) : Option (Int32 × Int32 × Int32 × (Nat → Int32) × (Nat → Int32) × (Nat → Int32) × (Nat → Int32) × (Nat → Int32) × (Nat → Int32)) :=
  (jn ((Option.bind (S_X0_lookAt x_shop_people x_shop_firstPace x_shop_secondPace x_shop_steps x_shop_kind x_crossing_kind x_shop_feet x_crossing_walk x_shop_things x_crossing_first x_crossing_second x_crossing_order) (fun (x_crossing_people_o26, x_crossing_kind_o26, x_crossing_walk_o26, x_crossing_first_o26, x_crossing_second_o26, x_crossing_order_o26) =>
  (Option.bind (S_X0_letDecide x_crossing_people_o26 x_crossing_order_o26 x_crossing_walk_o26 x_crossing_second_o26 x_crossing_kind_o26 x_crossing_first_o26 x_crossing_ready) (fun (x_crossing_away_o33, x_crossing_ready_o33) =>
  (if i1 = (-1 : Int32) then
  (Option.bind (S_X0_overtakings x_crossing_people_o26 x_crossing_ready_o33) (fun r45 =>
  some (r45, x_crossing_people_o26, x_crossing_away_o33, x_crossing_kind_o26, x_crossing_walk_o26, x_crossing_first_o26, x_crossing_second_o26, x_crossing_order_o26, x_crossing_ready_o33))) else
  (Option.bind (S_X0_overtakersOf i1 x_crossing_people_o26 x_crossing_ready_o33) (fun r56 =>
  some (r56, x_crossing_people_o26, x_crossing_away_o33, x_crossing_kind_o26, x_crossing_walk_o26, x_crossing_first_o26, x_crossing_second_o26, x_crossing_order_o26, x_crossing_ready_o33))))))))) (fun J18 =>
  (if i1 = (-1 : Int32) then
  J18 else
  (Option.bind (S_X3_has i1 x_shop_people) (fun r10 =>
  (if r10 = 0 then
  some ((-1 : Int32), x_crossing_people, x_crossing_away, x_crossing_kind, x_crossing_walk, x_crossing_first, x_crossing_second, x_crossing_order, x_crossing_ready) else
  J18))))))

def S_X6_best (i1 : Int32) (i2 : Int32) (x_search_set : Int32) (x_search_least : Int32) (x_search_trial_people : Int32) (x_search_trial_away : Int32) (x_shop_people : Int32) (x_shop_firstPace : Int32) (x_shop_secondPace : Int32) (x_shop_steps : Int32) (x_shop_kind : Nat → Int32) (x_search_trial_kind : Nat → Int32) (x_shop_feet : Nat → Int32) (x_search_trial_walk : Nat → Int32) (x_shop_things : Nat → Int32) (x_search_trial_first : Nat → Int32) (x_search_trial_second : Nat → Int32) (x_search_trial_order : Nat → Int32) (x_search_trial_ready : Nat → Int32) : Option (Int32 × Int32 × Int32 × Int32 × Int32 × (Nat → Int32) × (Nat → Int32) × (Nat → Int32) × (Nat → Int32) × (Nat → Int32) × (Nat → Int32)) :=
  (Option.bind (S_X6_within i1 (0 : Int32) (1 : Int32)) (fun r3 =>
  (if r3 = 0 then
  some ((-1 : Int32), x_search_set, x_search_least, x_search_trial_people, x_search_trial_away, x_search_trial_kind, x_search_trial_walk, x_search_trial_first, x_search_trial_second, x_search_trial_order, x_search_trial_ready) else
  (Option.bind (S_X6_within i2 (0 : Int32) (1 : Int32)) (fun r12 =>
  (if r12 = 0 then
  some ((-1 : Int32), x_search_set, x_search_least, x_search_trial_people, x_search_trial_away, x_search_trial_kind, x_search_trial_walk, x_search_trial_first, x_search_trial_second, x_search_trial_order, x_search_trial_ready) else
  (jn (fun (s0_37 : Int32) => (Option.bind (S_X2_findLeast s0_37 x_shop_people x_shop_firstPace x_shop_secondPace x_shop_steps x_shop_kind x_search_trial_kind x_shop_feet x_search_trial_walk x_shop_things x_search_trial_first x_search_trial_second x_search_trial_order x_search_trial_ready) (fun (x_search_set_o37, x_search_least_o37, x_search_trial_people_o37, x_search_trial_away_o37, x_search_trial_kind_o37, x_search_trial_walk_o37, x_search_trial_first_o37, x_search_trial_second_o37, x_search_trial_order_o37, x_search_trial_ready_o37) =>
  (if i2 = 0 then
  some (x_search_set_o37, x_search_set_o37, x_search_least_o37, x_search_trial_people_o37, x_search_trial_away_o37, x_search_trial_kind_o37, x_search_trial_walk_o37, x_search_trial_first_o37, x_search_trial_second_o37, x_search_trial_order_o37, x_search_trial_ready_o37) else
  some (x_search_least_o37, x_search_set_o37, x_search_least_o37, x_search_trial_people_o37, x_search_trial_away_o37, x_search_trial_kind_o37, x_search_trial_walk_o37, x_search_trial_first_o37, x_search_trial_second_o37, x_search_trial_order_o37, x_search_trial_ready_o37))))) (fun J37 =>
  (if i1 = 0 then
  (J37 (0 : Int32)) else
  (J37 (1 : Int32)))))))))))

def S_X6_fair (i1 : Int32) (x_search_set : Int32) (x_search_least : Int32) (x_search_trial_people : Int32) (x_search_trial_away : Int32) (x_shop_people : Int32) (x_shop_firstPace : Int32) (x_shop_secondPace : Int32) (x_shop_steps : Int32) (x_shop_kind : Nat → Int32) (x_search_trial_kind : Nat → Int32) (x_shop_feet : Nat → Int32) (x_search_trial_walk : Nat → Int32) (x_shop_things : Nat → Int32) (x_search_trial_first : Nat → Int32) (x_search_trial_second : Nat → Int32) (x_search_trial_order : Nat → Int32) (x_search_trial_ready : Nat → Int32) : Option (Int32 × Int32 × Int32 × Int32 × Int32 × (Nat → Int32) × (Nat → Int32) × (Nat → Int32) × (Nat → Int32) × (Nat → Int32) × (Nat → Int32)) :=
  (Option.bind (S_X6_within i1 (0 : Int32) (1 : Int32)) (fun r3 =>
  (if r3 = 0 then
  some ((-1 : Int32), x_search_set, x_search_least, x_search_trial_people, x_search_trial_away, x_search_trial_kind, x_search_trial_walk, x_search_trial_first, x_search_trial_second, x_search_trial_order, x_search_trial_ready) else
  (Option.bind (S_X2_findLeast (2 : Int32) x_shop_people x_shop_firstPace x_shop_secondPace x_shop_steps x_shop_kind x_search_trial_kind x_shop_feet x_search_trial_walk x_shop_things x_search_trial_first x_search_trial_second x_search_trial_order x_search_trial_ready) (fun (x_search_set_o20, x_search_least_o20, x_search_trial_people_o20, x_search_trial_away_o20, x_search_trial_kind_o20, x_search_trial_walk_o20, x_search_trial_first_o20, x_search_trial_second_o20, x_search_trial_order_o20, x_search_trial_ready_o20) =>
  (if i1 = 0 then
  some (x_search_set_o20, x_search_set_o20, x_search_least_o20, x_search_trial_people_o20, x_search_trial_away_o20, x_search_trial_kind_o20, x_search_trial_walk_o20, x_search_trial_first_o20, x_search_trial_second_o20, x_search_trial_order_o20, x_search_trial_ready_o20) else
  some (x_search_least_o20, x_search_set_o20, x_search_least_o20, x_search_trial_people_o20, x_search_trial_away_o20, x_search_trial_kind_o20, x_search_trial_walk_o20, x_search_trial_first_o20, x_search_trial_second_o20, x_search_trial_order_o20, x_search_trial_ready_o20)))))))

def S_X6_oneRow (i1 : Int32) (x_shop_people : Int32) (x_shop_firstPace : Int32) (x_shop_secondPace : Int32) (x_shop_steps : Int32) (x_crossing_people : Int32) (x_shop_kind : Nat → Int32) (x_crossing_kind : Nat → Int32) (x_shop_feet : Nat → Int32) (x_crossing_walk : Nat → Int32) (x_shop_things : Nat → Int32) (x_crossing_first : Nat → Int32) (x_crossing_second : Nat → Int32) (x_crossing_order : Nat → Int32) (x_crossing_ready : Nat → Int32) : Option (Int32 × Int32 × (Nat → Int32) × (Nat → Int32) × (Nat → Int32) × (Nat → Int32) × (Nat → Int32) × (Nat → Int32)) :=
  (Option.bind (S_X6_isPersonOrSum i1 x_shop_people) (fun r2 =>
  (if r2 = 0 then
  some ((-1 : Int32), x_crossing_people, x_crossing_kind, x_crossing_walk, x_crossing_first, x_crossing_second, x_crossing_order, x_crossing_ready) else
  (Option.bind (S_X0_lookAt x_shop_people x_shop_firstPace x_shop_secondPace x_shop_steps x_shop_kind x_crossing_kind x_shop_feet x_crossing_walk x_shop_things x_crossing_first x_crossing_second x_crossing_order) (fun (x_crossing_people_o18, x_crossing_kind_o18, x_crossing_walk_o18, x_crossing_first_o18, x_crossing_second_o18, x_crossing_order_o18) =>
  (Option.bind (S_X0_shareOneRow x_crossing_people_o18 x_crossing_first_o18 x_crossing_ready x_crossing_second_o18) (fun x_crossing_ready_o25 =>
  (Option.bind (S_X0_readyOf i1 x_crossing_people_o18 x_crossing_ready_o25) (fun r33 =>
  some (r33, x_crossing_people_o18, x_crossing_kind_o18, x_crossing_walk_o18, x_crossing_first_o18, x_crossing_second_o18, x_crossing_order_o18, x_crossing_ready_o25))))))))))

def S_X6_isCalled (i0 : Int32) (i1 : Int32) (i2 : Int32) : Option (Int32) :=
  (if i0 = 0 then
  (if (i1 - i1 / (2 : Int32) * (2 : Int32)) = (1 : Int32) then
  some (1 : Int32) else
  some (0 : Int32)) else
  (if i0 = 1 then
  (if i1 < (1 : Int32) then
  some (0 : Int32) else
  (if (i2 / (2 : Int32)) < i1 then
  some (0 : Int32) else
  some (1 : Int32))) else
  (if i1 < ((i2 + (1 : Int32)) / (2 : Int32)) then
  some (0 : Int32) else
  some (1 : Int32))))

def S_X6_setByRule_L4 (i0 : Int32) (i1 : Int32) : Nat → Int32 → Int32 → Option (Int32)
  | 0, _, _ => none
  | n4 + 1, i2, i3 =>
    (if i1 ≤ i3 then
    some i2 else
    (Option.bind (S_X6_isCalled i0 i3 i1) (fun r12 =>
    (if r12 = 0 then
    ((S_X6_setByRule_L4 i0 i1 n4) i2 (i3 + (1 : Int32))) else
    ((S_X6_setByRule_L4 i0 i1 n4) (i2 ||| ((1 : Int32) <<< (i3 &&& 31))) (i3 + (1 : Int32)))))))

def S_X6_setByRule (i0 : Int32) (i1 : Int32) : Option (Int32) :=
  (S_X6_setByRule_L4 i0 i1 300 (0 : Int32) (0 : Int32))

def S_X6_called (i1 : Int32) (i2 : Int32) (x_crossing_people : Int32) (x_crossing_away : Int32) (x_shop_people : Int32) (x_shop_firstPace : Int32) (x_shop_secondPace : Int32) (x_shop_steps : Int32) (x_shop_kind : Nat → Int32) (x_crossing_kind : Nat → Int32) (x_shop_feet : Nat → Int32) (x_crossing_walk : Nat → Int32) (x_shop_things : Nat → Int32) (x_crossing_first : Nat → Int32) (x_crossing_second : Nat → Int32) (x_crossing_order : Nat → Int32) (x_crossing_ready : Nat → Int32) : Option (Int32 × Int32 × Int32 × (Nat → Int32) × (Nat → Int32) × (Nat → Int32) × (Nat → Int32) × (Nat → Int32) × (Nat → Int32)) :=
  (Option.bind (S_X6_within i1 (0 : Int32) (2 : Int32)) (fun r3 =>
  (if r3 = 0 then
  some ((-1 : Int32), x_crossing_people, x_crossing_away, x_crossing_kind, x_crossing_walk, x_crossing_first, x_crossing_second, x_crossing_order, x_crossing_ready) else
  (Option.bind (S_X6_within i2 (0 : Int32) (1 : Int32)) (fun r12 =>
  (if r12 = 0 then
  some ((-1 : Int32), x_crossing_people, x_crossing_away, x_crossing_kind, x_crossing_walk, x_crossing_first, x_crossing_second, x_crossing_order, x_crossing_ready) else
  (Option.bind (S_X0_lookAt x_shop_people x_shop_firstPace x_shop_secondPace x_shop_steps x_shop_kind x_crossing_kind x_shop_feet x_crossing_walk x_shop_things x_crossing_first x_crossing_second x_crossing_order) (fun (x_crossing_people_o28, x_crossing_kind_o28, x_crossing_walk_o28, x_crossing_first_o28, x_crossing_second_o28, x_crossing_order_o28) =>
  (Option.bind (S_X6_setByRule i1 x_shop_people) (fun r43 =>
  (Option.bind (S_X0_send r43 x_crossing_people_o28 x_crossing_order_o28 x_crossing_walk_o28 x_crossing_second_o28 x_crossing_ready x_crossing_first_o28) (fun (x_crossing_away_o46, x_crossing_ready_o46) =>
  (if i2 = 0 then
  (Option.bind (S_X0_latest x_crossing_people_o28 x_crossing_ready_o46) (fun r57 =>
  some (r57, x_crossing_people_o28, x_crossing_away_o46, x_crossing_kind_o28, x_crossing_walk_o28, x_crossing_first_o28, x_crossing_second_o28, x_crossing_order_o28, x_crossing_ready_o46))) else
  (Option.bind (S_X0_sum x_crossing_people_o28 x_crossing_ready_o46) (fun r67 =>
  some (r67, x_crossing_people_o28, x_crossing_away_o46, x_crossing_kind_o28, x_crossing_walk_o28, x_crossing_first_o28, x_crossing_second_o28, x_crossing_order_o28, x_crossing_ready_o46))))))))))))))))

def S_X6_secondsIfOpenedBehind (i1 : Int32) (x_shop_people : Int32) (x_shop_firstPace : Int32) (x_shop_secondPace : Int32) (x_shop_steps : Int32) (x_shop_kind : Nat → Int32) (x_spare_kind : Nat → Int32) (x_shop_things : Nat → Int32) (x_spare_things : Nat → Int32) (x_shop_feet : Nat → Int32) (x_spare_feet : Nat → Int32) (x_search_set : Int32) (x_search_least : Int32) (x_search_trial_people : Int32) (x_search_trial_away : Int32) (x_search_trial_kind : Nat → Int32) (x_search_trial_walk : Nat → Int32) (x_search_trial_first : Nat → Int32) (x_search_trial_second : Nat → Int32) (x_search_trial_order : Nat → Int32) (x_search_trial_ready : Nat → Int32) (x_crossing_people : Int32) (x_crossing_ready : Nat → Int32) : Option (Int32 × Int32 × Int32 × Int32 × Int32 × (Nat → Int32) × (Nat → Int32) × (Nat → Int32) × Int32 × Int32 × Int32 × Int32 × (Nat → Int32) × (Nat → Int32) × (Nat → Int32) × (Nat → Int32) × (Nat → Int32) × (Nat → Int32)) :=
  (Option.bind (S_X3_becomeLike x_shop_people x_shop_firstPace x_shop_secondPace x_shop_steps x_shop_kind x_spare_kind x_shop_things x_spare_things x_shop_feet x_spare_feet) (fun (x_spare_people_o8, x_spare_firstPace_o8, x_spare_secondPace_o8, x_spare_steps_o8, x_spare_kind_o8, x_spare_things_o8, x_spare_feet_o8) =>
  (Option.bind (S_X3_letGoBy i1 x_spare_people_o8 x_spare_firstPace_o8 x_spare_things_o8 x_spare_kind_o8 x_spare_feet_o8) (fun (r16, x_spare_people_o16, x_spare_things_o16, x_spare_kind_o16, x_spare_feet_o16) =>
  (jn (fun (x_search_set_57 : Int32) (x_search_least_57 : Int32) (x_search_trial_people_57 : Int32) (x_search_trial_away_57 : Int32) (x_search_trial_kind_57 : Nat → Int32) (x_search_trial_walk_57 : Nat → Int32) (x_search_trial_first_57 : Nat → Int32) (x_search_trial_second_57 : Nat → Int32) (x_search_trial_order_57 : Nat → Int32) (x_search_trial_ready_57 : Nat → Int32) => (Option.bind (S_X0_sumOfHead r16 x_crossing_people x_crossing_ready) (fun r62 =>
  some ((r62 + (i1 * x_spare_people_o16)) + x_search_least_57, x_spare_people_o16, x_spare_firstPace_o8, x_spare_secondPace_o8, x_spare_steps_o8, x_spare_kind_o16, x_spare_things_o16, x_spare_feet_o16, x_search_set_57, x_search_least_57, x_search_trial_people_57, x_search_trial_away_57, x_search_trial_kind_57, x_search_trial_walk_57, x_search_trial_first_57, x_search_trial_second_57, x_search_trial_order_57, x_search_trial_ready_57)))) (fun J57 =>
  (jn ((Option.bind (S_X2_findLeast (1 : Int32) x_spare_people_o16 x_spare_firstPace_o8 x_spare_secondPace_o8 x_spare_steps_o8 x_spare_kind_o16 x_search_trial_kind x_spare_feet_o16 x_search_trial_walk x_spare_things_o16 x_search_trial_first x_search_trial_second x_search_trial_order x_search_trial_ready) (fun (x_search_set_o54, x_search_least_o54, x_search_trial_people_o54, x_search_trial_away_o54, x_search_trial_kind_o54, x_search_trial_walk_o54, x_search_trial_first_o54, x_search_trial_second_o54, x_search_trial_order_o54, x_search_trial_ready_o54) =>
  (J57 x_search_set_o54 x_search_least_o54 x_search_trial_people_o54 x_search_trial_away_o54 x_search_trial_kind_o54 x_search_trial_walk_o54 x_search_trial_first_o54 x_search_trial_second_o54 x_search_trial_order_o54 x_search_trial_ready_o54)))) (fun J45 =>
  (if i1 = 0 then
  J45 else
  (Option.bind (S_X3_thingsThrough i1 x_shop_firstPace) (fun r29 =>
  (Option.bind (S_X3_thingsThrough (i1 - (1 : Int32)) x_shop_firstPace) (fun r39 =>
  (if r29 = r39 then
  (J57 x_search_set x_search_least x_search_trial_people x_search_trial_away x_search_trial_kind x_search_trial_walk x_search_trial_first x_search_trial_second x_search_trial_order x_search_trial_ready) else
  J45))))))))))))))

def S_X6_open_L48 (i1 : Int32) (i2 : Int32) (x_crossing_people : Int32) (x_crossing_away : Int32) (x_crossing_kind : Nat → Int32) (x_crossing_walk : Nat → Int32) (x_crossing_first : Nat → Int32) (x_crossing_second : Nat → Int32) (x_crossing_order : Nat → Int32) (x_crossing_ready : Nat → Int32) (x_shop_people : Int32) (x_shop_firstPace : Int32) (x_shop_secondPace : Int32) (x_shop_steps : Int32) (x_shop_kind : Nat → Int32) (x_shop_feet : Nat → Int32) (x_shop_things : Nat → Int32) : Nat → Int32 → Int32 → Int32 → Int32 → Int32 → Int32 → Int32 → (Nat → Int32) → (Nat → Int32) → (Nat → Int32) → Int32 → Int32 → Int32 → Int32 → (Nat → Int32) → (Nat → Int32) → (Nat → Int32) → (Nat → Int32) → (Nat → Int32) → (Nat → Int32) → Option (Int32 × Int32 × Int32 × (Nat → Int32) × (Nat → Int32) × (Nat → Int32) × (Nat → Int32) × (Nat → Int32) × (Nat → Int32) × Int32 × Int32 × Int32 × Int32 × (Nat → Int32) × (Nat → Int32) × (Nat → Int32) × Int32 × Int32 × Int32 × Int32 × (Nat → Int32) × (Nat → Int32) × (Nat → Int32) × (Nat → Int32) × (Nat → Int32) × (Nat → Int32))
  | 0, _, _, _, _, _, _, _, _, _, _, _, _, _, _, _, _, _, _, _, _ => none
  | n48 + 1, i3, i4, i5, x_spare_people, x_spare_firstPace, x_spare_secondPace, x_spare_steps, x_spare_kind, x_spare_things, x_spare_feet, x_search_set, x_search_least, x_search_trial_people, x_search_trial_away, x_search_trial_kind, x_search_trial_walk, x_search_trial_first, x_search_trial_second, x_search_trial_order, x_search_trial_ready =>
    (if (30 : Int32) < i5 then
    (if i2 = 0 then
    some (i3, x_crossing_people, x_crossing_away, x_crossing_kind, x_crossing_walk, x_crossing_first, x_crossing_second, x_crossing_order, x_crossing_ready, x_spare_people, x_spare_firstPace, x_spare_secondPace, x_spare_steps, x_spare_kind, x_spare_things, x_spare_feet, x_search_set, x_search_least, x_search_trial_people, x_search_trial_away, x_search_trial_kind, x_search_trial_walk, x_search_trial_first, x_search_trial_second, x_search_trial_order, x_search_trial_ready) else
    some (i4, x_crossing_people, x_crossing_away, x_crossing_kind, x_crossing_walk, x_crossing_first, x_crossing_second, x_crossing_order, x_crossing_ready, x_spare_people, x_spare_firstPace, x_spare_secondPace, x_spare_steps, x_spare_kind, x_spare_things, x_spare_feet, x_search_set, x_search_least, x_search_trial_people, x_search_trial_away, x_search_trial_kind, x_search_trial_walk, x_search_trial_first, x_search_trial_second, x_search_trial_order, x_search_trial_ready)) else
    (Option.bind (S_X6_secondsIfOpenedBehind i5 x_shop_people x_shop_firstPace x_shop_secondPace x_shop_steps x_shop_kind x_spare_kind x_shop_things x_spare_things x_shop_feet x_spare_feet x_search_set x_search_least x_search_trial_people x_search_trial_away x_search_trial_kind x_search_trial_walk x_search_trial_first x_search_trial_second x_search_trial_order x_search_trial_ready x_crossing_people x_crossing_ready) (fun (r58, x_spare_people_o58, x_spare_firstPace_o58, x_spare_secondPace_o58, x_spare_steps_o58, x_spare_kind_o58, x_spare_things_o58, x_spare_feet_o58, x_search_set_o58, x_search_least_o58, x_search_trial_people_o58, x_search_trial_away_o58, x_search_trial_kind_o58, x_search_trial_walk_o58, x_search_trial_first_o58, x_search_trial_second_o58, x_search_trial_order_o58, x_search_trial_ready_o58) =>
    (jn (((S_X6_open_L48 i1 i2 x_crossing_people x_crossing_away x_crossing_kind x_crossing_walk x_crossing_first x_crossing_second x_crossing_order x_crossing_ready x_shop_people x_shop_firstPace x_shop_secondPace x_shop_steps x_shop_kind x_shop_feet x_shop_things n48) i5 (r58 + (i1 * ((30 : Int32) - i5))) (i5 + (1 : Int32)) x_spare_people_o58 x_spare_firstPace_o58 x_spare_secondPace_o58 x_spare_steps_o58 x_spare_kind_o58 x_spare_things_o58 x_spare_feet_o58 x_search_set_o58 x_search_least_o58 x_search_trial_people_o58 x_search_trial_away_o58 x_search_trial_kind_o58 x_search_trial_walk_o58 x_search_trial_first_o58 x_search_trial_second_o58 x_search_trial_order_o58 x_search_trial_ready_o58)) (fun J83 =>
    (if i5 = 0 then
    J83 else
    (if i4 ≤ (r58 + (i1 * ((30 : Int32) - i5))) then
    ((S_X6_open_L48 i1 i2 x_crossing_people x_crossing_away x_crossing_kind x_crossing_walk x_crossing_first x_crossing_second x_crossing_order x_crossing_ready x_shop_people x_shop_firstPace x_shop_secondPace x_shop_steps x_shop_kind x_shop_feet x_shop_things n48) i3 i4 (i5 + (1 : Int32)) x_spare_people_o58 x_spare_firstPace_o58 x_spare_secondPace_o58 x_spare_steps_o58 x_spare_kind_o58 x_spare_things_o58 x_spare_feet_o58 x_search_set_o58 x_search_least_o58 x_search_trial_people_o58 x_search_trial_away_o58 x_search_trial_kind_o58 x_search_trial_walk_o58 x_search_trial_first_o58 x_search_trial_second_o58 x_search_trial_order_o58 x_search_trial_ready_o58) else
    J83)))))))

def S_X6_open (i1 : Int32) (i2 : Int32) (x_crossing_people : Int32) (x_crossing_away : Int32) (x_shop_people : Int32) (x_shop_firstPace : Int32) (x_shop_secondPace : Int32) (x_shop_steps : Int32) (x_shop_kind : Nat → Int32) (x_crossing_kind : Nat → Int32) (x_shop_feet : Nat → Int32) (x_crossing_walk : Nat → Int32) (x_shop_things : Nat → Int32) (x_crossing_first : Nat → Int32) (x_crossing_second : Nat → Int32) (x_crossing_order : Nat → Int32) (x_crossing_ready : Nat → Int32) (x_spare_people : Int32) (x_spare_firstPace : Int32) (x_spare_secondPace : Int32) (x_spare_steps : Int32) (x_spare_kind : Nat → Int32) (x_spare_things : Nat → Int32) (x_spare_feet : Nat → Int32) (x_search_set : Int32) (x_search_least : Int32) (x_search_trial_people : Int32) (x_search_trial_away : Int32) (x_search_trial_kind : Nat → Int32) (x_search_trial_walk : Nat → Int32) (x_search_trial_first : Nat → Int32) (x_search_trial_second : Nat → Int32) (x_search_trial_order : Nat → Int32) (x_search_trial_ready : Nat → Int32) : Option (Int32 × Int32 × Int32 × (Nat → Int32) × (Nat → Int32) × (Nat → Int32) × (Nat → Int32) × (Nat → Int32) × (Nat → Int32) × Int32 × Int32 × Int32 × Int32 × (Nat → Int32) × (Nat → Int32) × (Nat → Int32) × Int32 × Int32 × Int32 × Int32 × (Nat → Int32) × (Nat → Int32) × (Nat → Int32) × (Nat → Int32) × (Nat → Int32) × (Nat → Int32)) :=
  (Option.bind (S_X6_within i1 (0 : Int32) (20 : Int32)) (fun r4 =>
  (if r4 = 0 then
  some ((-1 : Int32), x_crossing_people, x_crossing_away, x_crossing_kind, x_crossing_walk, x_crossing_first, x_crossing_second, x_crossing_order, x_crossing_ready, x_spare_people, x_spare_firstPace, x_spare_secondPace, x_spare_steps, x_spare_kind, x_spare_things, x_spare_feet, x_search_set, x_search_least, x_search_trial_people, x_search_trial_away, x_search_trial_kind, x_search_trial_walk, x_search_trial_first, x_search_trial_second, x_search_trial_order, x_search_trial_ready) else
  (Option.bind (S_X6_within i2 (0 : Int32) (1 : Int32)) (fun r13 =>
  (if r13 = 0 then
  some ((-1 : Int32), x_crossing_people, x_crossing_away, x_crossing_kind, x_crossing_walk, x_crossing_first, x_crossing_second, x_crossing_order, x_crossing_ready, x_spare_people, x_spare_firstPace, x_spare_secondPace, x_spare_steps, x_spare_kind, x_spare_things, x_spare_feet, x_search_set, x_search_least, x_search_trial_people, x_search_trial_away, x_search_trial_kind, x_search_trial_walk, x_search_trial_first, x_search_trial_second, x_search_trial_order, x_search_trial_ready) else
  (Option.bind (S_X0_lookAt x_shop_people x_shop_firstPace x_shop_secondPace x_shop_steps x_shop_kind x_crossing_kind x_shop_feet x_crossing_walk x_shop_things x_crossing_first x_crossing_second x_crossing_order) (fun (x_crossing_people_o29, x_crossing_kind_o29, x_crossing_walk_o29, x_crossing_first_o29, x_crossing_second_o29, x_crossing_order_o29) =>
  (Option.bind (S_X0_send (0 : Int32) x_crossing_people_o29 x_crossing_order_o29 x_crossing_walk_o29 x_crossing_second_o29 x_crossing_ready x_crossing_first_o29) (fun (x_crossing_away_o37, x_crossing_ready_o37) =>
  (S_X6_open_L48 i1 i2 x_crossing_people_o29 x_crossing_away_o37 x_crossing_kind_o29 x_crossing_walk_o29 x_crossing_first_o29 x_crossing_second_o29 x_crossing_order_o29 x_crossing_ready_o37 x_shop_people x_shop_firstPace x_shop_secondPace x_shop_steps x_shop_kind x_shop_feet x_shop_things 300 (0 : Int32) (0 : Int32) (0 : Int32) x_spare_people x_spare_firstPace x_spare_secondPace x_spare_steps x_spare_kind x_spare_things x_spare_feet x_search_set x_search_least x_search_trial_people x_search_trial_away x_search_trial_kind x_search_trial_walk x_search_trial_first x_search_trial_second x_search_trial_order x_search_trial_ready)))))))))))

def S_X6_tape (i1 : Int32) (i2 : Int32) (x_shop_people : Int32) (x_roll_length : Int32) (x_roll_who : Nat → Int32) (x_roll_where : Nat → Int32) : Option (Int32 × Int32 × (Nat → Int32) × (Nat → Int32)) :=
  (Option.bind (S_X3_has i1 x_shop_people) (fun r5 =>
  (if r5 = 0 then
  some ((-1 : Int32), x_roll_length, x_roll_who, x_roll_where) else
  (Option.bind (S_X6_within i2 (0 : Int32) (1 : Int32)) (fun r14 =>
  (if r14 = 0 then
  some ((-1 : Int32), x_roll_length, x_roll_who, x_roll_where) else
  (Option.bind (S_X4_append i1 i2 x_roll_length x_roll_who x_roll_where) (fun (r28, x_roll_length_o28, x_roll_who_o28, x_roll_where_o28) =>
  (if r28 = 0 then
  some ((-3 : Int32), x_roll_length_o28, x_roll_who_o28, x_roll_where_o28) else
  some (x_roll_length_o28, x_roll_length_o28, x_roll_who_o28, x_roll_where_o28))))))))))

def S_X6_forget (x_roll_length : Int32) : Option (Int32 × Int32) :=
  some (x_roll_length, (0 : Int32))

def S_X6_kinds_L28 (i1 : Int32) (x_spare_people : Int32) (x_spare_firstPace : Int32) (x_spare_secondPace : Int32) (x_spare_steps : Int32) (x_spare_things : Nat → Int32) (x_spare_feet : Nat → Int32) (x_roll_length : Int32) (x_roll_who : Nat → Int32) (x_roll_where : Nat → Int32) : Nat → Int32 → Int32 → (Nat → Int32) → Int32 → Int32 → (Nat → Int32) → (Nat → Int32) → (Nat → Int32) → (Nat → Int32) → (Nat → Int32) → (Nat → Int32) → Option (Int32 × Int32 × Int32 × Int32 × Int32 × (Nat → Int32) × (Nat → Int32) × (Nat → Int32) × Int32 × Int32 × (Nat → Int32) × (Nat → Int32) × (Nat → Int32) × (Nat → Int32) × (Nat → Int32) × (Nat → Int32))
  | 0, _, _, _, _, _, _, _, _, _, _, _ => none
  | n28 + 1, i2, i3, x_spare_kind, x_crossing_people, x_crossing_away, x_crossing_kind, x_crossing_walk, x_crossing_first, x_crossing_second, x_crossing_order, x_crossing_ready =>
    (if (4 : Int32) ≤ i3 then
    some (i2, x_spare_people, x_spare_firstPace, x_spare_secondPace, x_spare_steps, x_spare_kind, x_spare_things, x_spare_feet, x_crossing_people, x_crossing_away, x_crossing_kind, x_crossing_walk, x_crossing_first, x_crossing_second, x_crossing_order, x_crossing_ready) else
    (if i1 < 0 ∨ 8 ≤ i1.toNatClampNeg then none else
    (Option.bind (S_X0_lookAt x_spare_people x_spare_firstPace x_spare_secondPace x_spare_steps (upd x_spare_kind i1.toNatClampNeg i3) x_crossing_kind x_spare_feet x_crossing_walk x_spare_things x_crossing_first x_crossing_second x_crossing_order) (fun (x_crossing_people_o51, x_crossing_kind_o51, x_crossing_walk_o51, x_crossing_first_o51, x_crossing_second_o51, x_crossing_order_o51) =>
    (Option.bind (S_X0_letDecide x_crossing_people_o51 x_crossing_order_o51 x_crossing_walk_o51 x_crossing_second_o51 x_crossing_kind_o51 x_crossing_first_o51 x_crossing_ready) (fun (x_crossing_away_o58, x_crossing_ready_o58) =>
    (Option.bind (S_X4_agreesWith x_crossing_away_o58 x_roll_length x_roll_who x_roll_where) (fun r72 =>
    (if r72 = 0 then
    ((S_X6_kinds_L28 i1 x_spare_people x_spare_firstPace x_spare_secondPace x_spare_steps x_spare_things x_spare_feet x_roll_length x_roll_who x_roll_where n28) i2 (i3 + (1 : Int32)) (upd x_spare_kind i1.toNatClampNeg i3) x_crossing_people_o51 x_crossing_away_o58 x_crossing_kind_o51 x_crossing_walk_o51 x_crossing_first_o51 x_crossing_second_o51 x_crossing_order_o51 x_crossing_ready_o58) else
    ((S_X6_kinds_L28 i1 x_spare_people x_spare_firstPace x_spare_secondPace x_spare_steps x_spare_things x_spare_feet x_roll_length x_roll_who x_roll_where n28) (i2 ||| ((1 : Int32) <<< (i3 &&& 31))) (i3 + (1 : Int32)) (upd x_spare_kind i1.toNatClampNeg i3) x_crossing_people_o51 x_crossing_away_o58 x_crossing_kind_o51 x_crossing_walk_o51 x_crossing_first_o51 x_crossing_second_o51 x_crossing_order_o51 x_crossing_ready_o58))))))))))

def S_X6_kinds (i1 : Int32) (x_shop_people : Int32) (x_shop_firstPace : Int32) (x_shop_secondPace : Int32) (x_shop_steps : Int32) (x_spare_people : Int32) (x_spare_firstPace : Int32) (x_spare_secondPace : Int32) (x_spare_steps : Int32) (x_shop_kind : Nat → Int32) (x_spare_kind : Nat → Int32) (x_shop_things : Nat → Int32) (x_spare_things : Nat → Int32) (x_shop_feet : Nat → Int32) (x_spare_feet : Nat → Int32) (x_crossing_people : Int32) (x_crossing_away : Int32) (x_crossing_kind : Nat → Int32) (x_crossing_walk : Nat → Int32) (x_crossing_first : Nat → Int32) (x_crossing_second : Nat → Int32) (x_crossing_order : Nat → Int32) (x_crossing_ready : Nat → Int32) (x_roll_length : Int32) (x_roll_who : Nat → Int32) (x_roll_where : Nat → Int32) : Option (Int32 × Int32 × Int32 × Int32 × Int32 × (Nat → Int32) × (Nat → Int32) × (Nat → Int32) × Int32 × Int32 × (Nat → Int32) × (Nat → Int32) × (Nat → Int32) × (Nat → Int32) × (Nat → Int32) × (Nat → Int32)) :=
  (Option.bind (S_X3_has i1 x_shop_people) (fun r5 =>
  (if r5 = 0 then
  some ((-1 : Int32), x_spare_people, x_spare_firstPace, x_spare_secondPace, x_spare_steps, x_spare_kind, x_spare_things, x_spare_feet, x_crossing_people, x_crossing_away, x_crossing_kind, x_crossing_walk, x_crossing_first, x_crossing_second, x_crossing_order, x_crossing_ready) else
  (Option.bind (S_X3_becomeLike x_shop_people x_shop_firstPace x_shop_secondPace x_shop_steps x_shop_kind x_spare_kind x_shop_things x_spare_things x_shop_feet x_spare_feet) (fun (x_spare_people_o23, x_spare_firstPace_o23, x_spare_secondPace_o23, x_spare_steps_o23, x_spare_kind_o23, x_spare_things_o23, x_spare_feet_o23) =>
  (S_X6_kinds_L28 i1 x_spare_people_o23 x_spare_firstPace_o23 x_spare_secondPace_o23 x_spare_steps_o23 x_spare_things_o23 x_spare_feet_o23 x_roll_length x_roll_who x_roll_where 300 (0 : Int32) (0 : Int32) x_spare_kind_o23 x_crossing_people x_crossing_away x_crossing_kind x_crossing_walk x_crossing_first x_crossing_second x_crossing_order x_crossing_ready))))))

def S_X6_greatestDivisorWithTen_L3 (i0 : Int32) : Nat → Int32 → Option (Int32)
  | 0, _ => none
  | n3 + 1, i1 =>
    (if i1 ≤ (1 : Int32) then
    some (1 : Int32) else
    (if i1 = 0 then none else
    (if (i0 - i0 / i1 * i1) = 0 then
    (if i1 = 0 then none else
    (if ((10 : Int32) - (10 : Int32) / i1 * i1) = 0 then
    some i1 else
    ((S_X6_greatestDivisorWithTen_L3 i0 n3) (i1 + (-1 : Int32))))) else
    ((S_X6_greatestDivisorWithTen_L3 i0 n3) (i1 + (-1 : Int32))))))

def S_X6_greatestDivisorWithTen (i0 : Int32) : Option (Int32) :=
  (S_X6_greatestDivisorWithTen_L3 i0 300 (10 : Int32))

def S_X6_power_L4 (i0 : Int32) (i1 : Int32) : Nat → Int32 → Int32 → Option (Int32)
  | 0, _, _ => none
  | n4 + 1, i2, i3 =>
    (if i1 ≤ i3 then
    some i2 else
    ((S_X6_power_L4 i0 i1 n4) (i2 * i0) (i3 + (1 : Int32))))

def S_X6_power (i0 : Int32) (i1 : Int32) : Option (Int32) :=
  (S_X6_power_L4 i0 i1 300 (1 : Int32) (0 : Int32))

def S_X6_beaten (i1 : Int32) (i2 : Int32) (i3 : Int32) (x_shop_people : Int32) (x_shop_firstPace : Int32) (x_shop_secondPace : Int32) (x_shop_steps : Int32) (x_crossing_people : Int32) (x_shop_kind : Nat → Int32) (x_crossing_kind : Nat → Int32) (x_shop_feet : Nat → Int32) (x_crossing_walk : Nat → Int32) (x_shop_things : Nat → Int32) (x_crossing_first : Nat → Int32) (x_crossing_second : Nat → Int32) (x_crossing_order : Nat → Int32) : Option (Int32 × Int32 × (Nat → Int32) × (Nat → Int32) × (Nat → Int32) × (Nat → Int32) × (Nat → Int32)) :=
  (Option.bind (S_X3_has i1 x_shop_people) (fun r5 =>
  (if r5 = 0 then
  some ((-1 : Int32), x_crossing_people, x_crossing_kind, x_crossing_walk, x_crossing_first, x_crossing_second, x_crossing_order) else
  (Option.bind (S_X6_within i2 (0 : Int32) (10 : Int32)) (fun r15 =>
  (if r15 = 0 then
  some ((-1 : Int32), x_crossing_people, x_crossing_kind, x_crossing_walk, x_crossing_first, x_crossing_second, x_crossing_order) else
  (Option.bind (S_X6_within i3 (0 : Int32) (1 : Int32)) (fun r24 =>
  (if r24 = 0 then
  some ((-1 : Int32), x_crossing_people, x_crossing_kind, x_crossing_walk, x_crossing_first, x_crossing_second, x_crossing_order) else
  (Option.bind (S_X0_lookAt x_shop_people x_shop_firstPace x_shop_secondPace x_shop_steps x_shop_kind x_crossing_kind x_shop_feet x_crossing_walk x_shop_things x_crossing_first x_crossing_second x_crossing_order) (fun (x_crossing_people_o40, x_crossing_kind_o40, x_crossing_walk_o40, x_crossing_first_o40, x_crossing_second_o40, x_crossing_order_o40) =>
  (Option.bind (S_X6_greatestDivisorWithTen ((10 : Int32) - i2)) (fun r47 =>
  (jn (fun (s0_65 : Int32) => (if r47 = 0 then none else
  (Option.bind (S_X0_turnOf i1 x_crossing_people_o40 x_crossing_order_o40) (fun r77 =>
  (Option.bind (S_X6_power (s0_65 / r47) r77) (fun r80 =>
  some (r80, x_crossing_people_o40, x_crossing_kind_o40, x_crossing_walk_o40, x_crossing_first_o40, x_crossing_second_o40, x_crossing_order_o40))))))) (fun J65 =>
  (if i3 = 0 then
  (J65 ((10 : Int32) - i2)) else
  (J65 (10 : Int32))))))))))))))))))

def S_X6_learner_L41 (i1 : Int32) (x_crossing_people : Int32) (x_crossing_away : Int32) (x_crossing_kind : Nat → Int32) (x_crossing_walk : Nat → Int32) (x_crossing_first : Nat → Int32) (x_crossing_second : Nat → Int32) (x_crossing_order : Nat → Int32) (x_crossing_ready : Nat → Int32) (x_spare_people : Int32) (x_spare_firstPace : Int32) (x_spare_steps : Int32) (x_spare_kind : Nat → Int32) (x_spare_things : Nat → Int32) (x_spare_feet : Nat → Int32) : Nat → Int32 → Int32 → Int32 → Int32 → Int32 → Int32 → (Nat → Int32) → (Nat → Int32) → (Nat → Int32) → (Nat → Int32) → (Nat → Int32) → (Nat → Int32) → Option (Int32 × Int32 × Int32 × (Nat → Int32) × (Nat → Int32) × (Nat → Int32) × (Nat → Int32) × (Nat → Int32) × (Nat → Int32) × Int32 × Int32 × Int32 × Int32 × (Nat → Int32) × (Nat → Int32) × (Nat → Int32) × Int32 × Int32 × Int32 × Int32 × (Nat → Int32) × (Nat → Int32) × (Nat → Int32) × (Nat → Int32) × (Nat → Int32) × (Nat → Int32))
  | 0, _, _, _, _, _, _, _, _, _, _, _, _ => none
  | n41 + 1, i2, x_spare_secondPace, x_search_set, x_search_least, x_search_trial_people, x_search_trial_away, x_search_trial_kind, x_search_trial_walk, x_search_trial_first, x_search_trial_second, x_search_trial_order, x_search_trial_ready =>
    (if i2 < (1 : Int32) then
    some ((-4 : Int32), x_crossing_people, x_crossing_away, x_crossing_kind, x_crossing_walk, x_crossing_first, x_crossing_second, x_crossing_order, x_crossing_ready, x_spare_people, x_spare_firstPace, x_spare_secondPace, x_spare_steps, x_spare_kind, x_spare_things, x_spare_feet, x_search_set, x_search_least, x_search_trial_people, x_search_trial_away, x_search_trial_kind, x_search_trial_walk, x_search_trial_first, x_search_trial_second, x_search_trial_order, x_search_trial_ready) else
    (Option.bind (S_X2_findLeast (1 : Int32) x_spare_people x_spare_firstPace i2 x_spare_steps x_spare_kind x_search_trial_kind x_spare_feet x_search_trial_walk x_spare_things x_search_trial_first x_search_trial_second x_search_trial_order x_search_trial_ready) (fun (x_search_set_o63, x_search_least_o63, x_search_trial_people_o63, x_search_trial_away_o63, x_search_trial_kind_o63, x_search_trial_walk_o63, x_search_trial_first_o63, x_search_trial_second_o63, x_search_trial_order_o63, x_search_trial_ready_o63) =>
    (if i1 ≤ x_search_least_o63 then
    ((S_X6_learner_L41 i1 x_crossing_people x_crossing_away x_crossing_kind x_crossing_walk x_crossing_first x_crossing_second x_crossing_order x_crossing_ready x_spare_people x_spare_firstPace x_spare_steps x_spare_kind x_spare_things x_spare_feet n41) (i2 + (-1 : Int32)) i2 x_search_set_o63 x_search_least_o63 x_search_trial_people_o63 x_search_trial_away_o63 x_search_trial_kind_o63 x_search_trial_walk_o63 x_search_trial_first_o63 x_search_trial_second_o63 x_search_trial_order_o63 x_search_trial_ready_o63) else
    some (i2, x_crossing_people, x_crossing_away, x_crossing_kind, x_crossing_walk, x_crossing_first, x_crossing_second, x_crossing_order, x_crossing_ready, x_spare_people, x_spare_firstPace, i2, x_spare_steps, x_spare_kind, x_spare_things, x_spare_feet, x_search_set_o63, x_search_least_o63, x_search_trial_people_o63, x_search_trial_away_o63, x_search_trial_kind_o63, x_search_trial_walk_o63, x_search_trial_first_o63, x_search_trial_second_o63, x_search_trial_order_o63, x_search_trial_ready_o63)))))

def S_X6_learner (x_shop_people : Int32) (x_shop_firstPace : Int32) (x_shop_secondPace : Int32) (x_shop_steps : Int32) (x_shop_kind : Nat → Int32) (x_crossing_kind : Nat → Int32) (x_shop_feet : Nat → Int32) (x_crossing_walk : Nat → Int32) (x_shop_things : Nat → Int32) (x_crossing_first : Nat → Int32) (x_crossing_second : Nat → Int32) (x_crossing_order : Nat → Int32) (x_crossing_ready : Nat → Int32) (x_spare_kind : Nat → Int32) (x_spare_things : Nat → Int32) (x_spare_feet : Nat → Int32) (x_search_set : Int32) (x_search_least : Int32) (x_search_trial_people : Int32) (x_search_trial_away : Int32) (x_search_trial_kind : Nat → Int32) (x_search_trial_walk : Nat → Int32) (x_search_trial_first : Nat → Int32) (x_search_trial_second : Nat → Int32) (x_search_trial_order : Nat → Int32) (x_search_trial_ready : Nat → Int32) : Option (Int32 × Int32 × Int32 × (Nat → Int32) × (Nat → Int32) × (Nat → Int32) × (Nat → Int32) × (Nat → Int32) × (Nat → Int32) × Int32 × Int32 × Int32 × Int32 × (Nat → Int32) × (Nat → Int32) × (Nat → Int32) × Int32 × Int32 × Int32 × Int32 × (Nat → Int32) × (Nat → Int32) × (Nat → Int32) × (Nat → Int32) × (Nat → Int32) × (Nat → Int32)) :=
  (Option.bind (S_X0_lookAt x_shop_people x_shop_firstPace x_shop_secondPace x_shop_steps x_shop_kind x_crossing_kind x_shop_feet x_crossing_walk x_shop_things x_crossing_first x_crossing_second x_crossing_order) (fun (x_crossing_people_o8, x_crossing_kind_o8, x_crossing_walk_o8, x_crossing_first_o8, x_crossing_second_o8, x_crossing_order_o8) =>
  (Option.bind (S_X0_send (0 : Int32) x_crossing_people_o8 x_crossing_order_o8 x_crossing_walk_o8 x_crossing_second_o8 x_crossing_ready x_crossing_first_o8) (fun (x_crossing_away_o16, x_crossing_ready_o16) =>
  (Option.bind (S_X0_sum x_crossing_people_o8 x_crossing_ready_o16) (fun r23 =>
  (Option.bind (S_X3_becomeLike x_shop_people x_shop_firstPace x_shop_secondPace x_shop_steps x_shop_kind x_spare_kind x_shop_things x_spare_things x_shop_feet x_spare_feet) (fun (x_spare_people_o35, x_spare_firstPace_o35, x_spare_secondPace_o35, x_spare_steps_o35, x_spare_kind_o35, x_spare_things_o35, x_spare_feet_o35) =>
  (S_X6_learner_L41 r23 x_crossing_people_o8 x_crossing_away_o16 x_crossing_kind_o8 x_crossing_walk_o8 x_crossing_first_o8 x_crossing_second_o8 x_crossing_order_o8 x_crossing_ready_o16 x_spare_people_o35 x_spare_firstPace_o35 x_spare_steps_o35 x_spare_kind_o35 x_spare_things_o35 x_spare_feet_o35 300 (9 : Int32) x_spare_secondPace_o35 x_search_set x_search_least x_search_trial_people x_search_trial_away x_search_trial_kind x_search_trial_walk x_search_trial_first x_search_trial_second x_search_trial_order x_search_trial_ready)))))))))

def S_X6_drawOf (i0 : Int32) (i1 : Int32) : Option (Int32) :=
  (nm ((((7919 : Int64) * i0.toInt64) + ((6151 : Int64) * i1.toInt64)) + (1 : Int64)) (fun (v15 : Int64) =>
  some (((v15 * v15) - (v15 * v15) / (65521 : Int64) * (65521 : Int64)).toInt32)))

def S_X6_day_L49 (i1 : Int32) (i2 : Int32) (i3 : Int32) (x_spare_firstPace : Int32) (x_spare_secondPace : Int32) (x_spare_steps : Int32) : Nat → Int32 → Int32 → Int32 → (Nat → Int32) → (Nat → Int32) → (Nat → Int32) → Option (Int32 × Int32 × Int32 × Int32 × Int32 × (Nat → Int32) × (Nat → Int32) × (Nat → Int32))
  | 0, _, _, _, _, _, _ => none
  | n49 + 1, i4, i5, x_spare_people, x_spare_kind, x_spare_things, x_spare_feet =>
    (if i2 ≤ i5 then
    (if i3 = 0 then
    some (i4, x_spare_people, x_spare_firstPace, x_spare_secondPace, x_spare_steps, x_spare_kind, x_spare_things, x_spare_feet) else
    some (x_spare_people, x_spare_people, x_spare_firstPace, x_spare_secondPace, x_spare_steps, x_spare_kind, x_spare_things, x_spare_feet)) else
    (Option.bind (S_X6_drawOf i1 i5) (fun r58 =>
    (Option.bind (S_X3_append (r58 - r58 / (4 : Int32) * (4 : Int32)) (((r58 / (4 : Int32)) - (r58 / (4 : Int32)) / (9 : Int32) * (9 : Int32)) + (1 : Int32)) (((r58 / (64 : Int32)) - (r58 / (64 : Int32)) / (5 : Int32) * (5 : Int32)) + (1 : Int32)) x_spare_people x_spare_kind x_spare_things x_spare_feet) (fun (r89, x_spare_people_o89, x_spare_kind_o89, x_spare_things_o89, x_spare_feet_o89) =>
    (Option.bind (S_X3_letGoBy ((r58 / (16 : Int32)) - (r58 / (16 : Int32)) / (20 : Int32) * (20 : Int32)) x_spare_people_o89 x_spare_firstPace x_spare_things_o89 x_spare_kind_o89 x_spare_feet_o89) (fun (r107, x_spare_people_o107, x_spare_things_o107, x_spare_kind_o107, x_spare_feet_o107) =>
    ((S_X6_day_L49 i1 i2 i3 x_spare_firstPace x_spare_secondPace x_spare_steps n49) (i4 + r107) (i5 + (1 : Int32)) x_spare_people_o107 x_spare_kind_o107 x_spare_things_o107 x_spare_feet_o107))))))))

def S_X6_day (i1 : Int32) (i2 : Int32) (i3 : Int32) (x_spare_people : Int32) (x_spare_firstPace : Int32) (x_spare_secondPace : Int32) (x_spare_steps : Int32) (x_shop_people : Int32) (x_shop_firstPace : Int32) (x_shop_secondPace : Int32) (x_shop_steps : Int32) (x_shop_kind : Nat → Int32) (x_spare_kind : Nat → Int32) (x_shop_things : Nat → Int32) (x_spare_things : Nat → Int32) (x_shop_feet : Nat → Int32) (x_spare_feet : Nat → Int32) : Option (Int32 × Int32 × Int32 × Int32 × Int32 × (Nat → Int32) × (Nat → Int32) × (Nat → Int32)) :=
  (Option.bind (S_X6_within i1 (0 : Int32) (9999 : Int32)) (fun r5 =>
  (if r5 = 0 then
  some ((-1 : Int32), x_spare_people, x_spare_firstPace, x_spare_secondPace, x_spare_steps, x_spare_kind, x_spare_things, x_spare_feet) else
  (Option.bind (S_X6_within i2 (1 : Int32) (30 : Int32)) (fun r15 =>
  (if r15 = 0 then
  some ((-1 : Int32), x_spare_people, x_spare_firstPace, x_spare_secondPace, x_spare_steps, x_spare_kind, x_spare_things, x_spare_feet) else
  (Option.bind (S_X6_within i3 (0 : Int32) (1 : Int32)) (fun r24 =>
  (if r24 = 0 then
  some ((-1 : Int32), x_spare_people, x_spare_firstPace, x_spare_secondPace, x_spare_steps, x_spare_kind, x_spare_things, x_spare_feet) else
  (Option.bind (S_X3_becomeLike x_shop_people x_shop_firstPace x_shop_secondPace x_shop_steps x_shop_kind x_spare_kind x_shop_things x_spare_things x_shop_feet x_spare_feet) (fun (x_spare_people_o40, x_spare_firstPace_o40, x_spare_secondPace_o40, x_spare_steps_o40, x_spare_kind_o40, x_spare_things_o40, x_spare_feet_o40) =>
  (S_X6_day_L49 i1 i2 i3 x_spare_firstPace_o40 x_spare_secondPace_o40 x_spare_steps_o40 300 (0 : Int32) (0 : Int32) x_spare_people_o40 x_spare_kind_o40 x_spare_things_o40 x_spare_feet_o40))))))))))))

def S_X6_count (i1 : Int32) (x_shop_people : Int32) (x_shop_firstPace : Int32) (x_shop_secondPace : Int32) (x_shop_steps : Int32) (x_roll_length : Int32) (x_past_height : Int32) (x_shelf_height : Int32) (x_text_length : Int32) : Option (Int32) :=
  (if i1 = 0 then
  some x_shop_people else
  (if i1 = 1 then
  some x_shop_firstPace else
  (if i1 = 2 then
  some x_shop_secondPace else
  (if i1 = 3 then
  some x_shop_steps else
  (if i1 = 4 then
  some x_roll_length else
  (if i1 = 5 then
  some x_past_height else
  (if i1 = 6 then
  some x_shelf_height else
  (if i1 = 7 then
  some x_text_length else
  some (-1 : Int32)))))))))

def S_X6_beforeRowChanges (x_past_height : Int32) (x_past_pf : Nat → Option Nat) (x_past_ad : Nat → Nat) (x_past_a1 : Nat → Nat) (x_past_a2 : Nat → Nat) (x_past_a3 : Nat → Nat) (x_past_pp : Nat → Int32) (x_past_fp : Nat → Int32) (x_past_sp : Nat → Int32) (x_past_st : Nat → Int32) (x_past_kd : Nat → Nat → Int32) (x_past_th : Nat → Nat → Int32) (x_past_ft : Nat → Nat → Int32) (x_shop_people : Int32) (x_shop_firstPace : Int32) (x_shop_secondPace : Int32) (x_shop_steps : Int32) (x_shop_kind : Nat → Int32) (x_shop_things : Nat → Int32) (x_shop_feet : Nat → Int32) : Option (Int32 × (Nat → Option Nat) × (Nat → Nat) × (Nat → Nat) × (Nat → Nat) × (Nat → Nat) × (Nat → Int32) × (Nat → Int32) × (Nat → Int32) × (Nat → Int32) × (Nat → Nat → Int32) × (Nat → Nat → Int32) × (Nat → Nat → Int32) × Int32) :=
  (Option.bind (S_X1_putDroppingOldest8 x_past_height x_past_pf x_past_ad x_past_a1 x_past_a2 x_past_a3 x_past_pp x_past_fp x_past_sp x_past_st x_past_kd x_past_th x_past_ft x_shop_people x_shop_firstPace x_shop_secondPace x_shop_steps x_shop_kind x_shop_things x_shop_feet) (fun (x_past_height_o8, x_past_pf_o8, x_past_ad_o8, x_past_a1_o8, x_past_a2_o8, x_past_a3_o8, x_past_pp_o8, x_past_fp_o8, x_past_sp_o8, x_past_st_o8, x_past_kd_o8, x_past_th_o8, x_past_ft_o8) =>
  some (x_past_height_o8, x_past_pf_o8, x_past_ad_o8, x_past_a1_o8, x_past_a2_o8, x_past_a3_o8, x_past_pp_o8, x_past_fp_o8, x_past_sp_o8, x_past_st_o8, x_past_kd_o8, x_past_th_o8, x_past_ft_o8, (0 : Int32))))

def S_X6_come (i1 : Int32) (i2 : Int32) (i3 : Int32) (x_shop_people : Int32) (x_shop_firstPace : Int32) (x_shop_secondPace : Int32) (x_shop_steps : Int32) (x_past_height : Int32) (x_past_pf : Nat → Option Nat) (x_past_ad : Nat → Nat) (x_past_a1 : Nat → Nat) (x_past_a2 : Nat → Nat) (x_past_a3 : Nat → Nat) (x_past_pp : Nat → Int32) (x_past_fp : Nat → Int32) (x_past_sp : Nat → Int32) (x_past_st : Nat → Int32) (x_past_kd : Nat → Nat → Int32) (x_past_th : Nat → Nat → Int32) (x_past_ft : Nat → Nat → Int32) (x_shop_kind : Nat → Int32) (x_shop_things : Nat → Int32) (x_shop_feet : Nat → Int32) (x_roll_length : Int32) : Option (Int32 × Int32 × Int32 × (Nat → Option Nat) × (Nat → Nat) × (Nat → Nat) × (Nat → Nat) × (Nat → Nat) × (Nat → Int32) × (Nat → Int32) × (Nat → Int32) × (Nat → Int32) × (Nat → Nat → Int32) × (Nat → Nat → Int32) × (Nat → Nat → Int32) × (Nat → Int32) × (Nat → Int32) × (Nat → Int32) × Int32) :=
  (Option.bind (S_X6_isPerson i1 i2 i3) (fun r3 =>
  (if r3 = 0 then
  some ((-1 : Int32), x_shop_people, x_past_height, x_past_pf, x_past_ad, x_past_a1, x_past_a2, x_past_a3, x_past_pp, x_past_fp, x_past_sp, x_past_st, x_past_kd, x_past_th, x_past_ft, x_shop_kind, x_shop_things, x_shop_feet, x_roll_length) else
  (if x_shop_people < (8 : Int32) then
  (Option.bind (S_X6_beforeRowChanges x_past_height x_past_pf x_past_ad x_past_a1 x_past_a2 x_past_a3 x_past_pp x_past_fp x_past_sp x_past_st x_past_kd x_past_th x_past_ft x_shop_people x_shop_firstPace x_shop_secondPace x_shop_steps x_shop_kind x_shop_things x_shop_feet) (fun (x_past_height_o27, x_past_pf_o27, x_past_ad_o27, x_past_a1_o27, x_past_a2_o27, x_past_a3_o27, x_past_pp_o27, x_past_fp_o27, x_past_sp_o27, x_past_st_o27, x_past_kd_o27, x_past_th_o27, x_past_ft_o27, x_roll_length_o27) =>
  (Option.bind (S_X3_append i1 i2 i3 x_shop_people x_shop_kind x_shop_things x_shop_feet) (fun (r37, x_shop_people_o37, x_shop_kind_o37, x_shop_things_o37, x_shop_feet_o37) =>
  some (x_shop_people_o37, x_shop_people_o37, x_past_height_o27, x_past_pf_o27, x_past_ad_o27, x_past_a1_o27, x_past_a2_o27, x_past_a3_o27, x_past_pp_o27, x_past_fp_o27, x_past_sp_o27, x_past_st_o27, x_past_kd_o27, x_past_th_o27, x_past_ft_o27, x_shop_kind_o37, x_shop_things_o37, x_shop_feet_o37, x_roll_length_o27))))) else
  some ((-3 : Int32), x_shop_people, x_past_height, x_past_pf, x_past_ad, x_past_a1, x_past_a2, x_past_a3, x_past_pp, x_past_fp, x_past_sp, x_past_st, x_past_kd, x_past_th, x_past_ft, x_shop_kind, x_shop_things, x_shop_feet, x_roll_length)))))

def S_X6_leave (i1 : Int32) (x_shop_people : Int32) (x_shop_firstPace : Int32) (x_shop_secondPace : Int32) (x_shop_steps : Int32) (x_past_height : Int32) (x_past_pf : Nat → Option Nat) (x_past_ad : Nat → Nat) (x_past_a1 : Nat → Nat) (x_past_a2 : Nat → Nat) (x_past_a3 : Nat → Nat) (x_past_pp : Nat → Int32) (x_past_fp : Nat → Int32) (x_past_sp : Nat → Int32) (x_past_st : Nat → Int32) (x_past_kd : Nat → Nat → Int32) (x_past_th : Nat → Nat → Int32) (x_past_ft : Nat → Nat → Int32) (x_shop_kind : Nat → Int32) (x_shop_things : Nat → Int32) (x_shop_feet : Nat → Int32) (x_roll_length : Int32) : Option (Int32 × Int32 × Int32 × (Nat → Option Nat) × (Nat → Nat) × (Nat → Nat) × (Nat → Nat) × (Nat → Nat) × (Nat → Int32) × (Nat → Int32) × (Nat → Int32) × (Nat → Int32) × (Nat → Nat → Int32) × (Nat → Nat → Int32) × (Nat → Nat → Int32) × (Nat → Int32) × (Nat → Int32) × (Nat → Int32) × Int32) :=
  (Option.bind (S_X3_has i1 x_shop_people) (fun r5 =>
  (if r5 = 0 then
  some ((-1 : Int32), x_shop_people, x_past_height, x_past_pf, x_past_ad, x_past_a1, x_past_a2, x_past_a3, x_past_pp, x_past_fp, x_past_sp, x_past_st, x_past_kd, x_past_th, x_past_ft, x_shop_kind, x_shop_things, x_shop_feet, x_roll_length) else
  (Option.bind (S_X6_beforeRowChanges x_past_height x_past_pf x_past_ad x_past_a1 x_past_a2 x_past_a3 x_past_pp x_past_fp x_past_sp x_past_st x_past_kd x_past_th x_past_ft x_shop_people x_shop_firstPace x_shop_secondPace x_shop_steps x_shop_kind x_shop_things x_shop_feet) (fun (x_past_height_o14, x_past_pf_o14, x_past_ad_o14, x_past_a1_o14, x_past_a2_o14, x_past_a3_o14, x_past_pp_o14, x_past_fp_o14, x_past_sp_o14, x_past_st_o14, x_past_kd_o14, x_past_th_o14, x_past_ft_o14, x_roll_length_o14) =>
  (Option.bind (S_X3_removeAt i1 x_shop_people x_shop_kind x_shop_things x_shop_feet) (fun (x_shop_people_o22, x_shop_kind_o22, x_shop_things_o22, x_shop_feet_o22) =>
  some (x_shop_people_o22, x_shop_people_o22, x_past_height_o14, x_past_pf_o14, x_past_ad_o14, x_past_a1_o14, x_past_a2_o14, x_past_a3_o14, x_past_pp_o14, x_past_fp_o14, x_past_sp_o14, x_past_st_o14, x_past_kd_o14, x_past_th_o14, x_past_ft_o14, x_shop_kind_o22, x_shop_things_o22, x_shop_feet_o22, x_roll_length_o14))))))))

def S_X6_pass (i1 : Int32) (x_past_height : Int32) (x_past_pf : Nat → Option Nat) (x_past_ad : Nat → Nat) (x_past_a1 : Nat → Nat) (x_past_a2 : Nat → Nat) (x_past_a3 : Nat → Nat) (x_past_pp : Nat → Int32) (x_past_fp : Nat → Int32) (x_past_sp : Nat → Int32) (x_past_st : Nat → Int32) (x_past_kd : Nat → Nat → Int32) (x_past_th : Nat → Nat → Int32) (x_past_ft : Nat → Nat → Int32) (x_shop_people : Int32) (x_shop_firstPace : Int32) (x_shop_secondPace : Int32) (x_shop_steps : Int32) (x_shop_kind : Nat → Int32) (x_shop_things : Nat → Int32) (x_shop_feet : Nat → Int32) (x_roll_length : Int32) : Option (Int32 × Int32 × (Nat → Option Nat) × (Nat → Nat) × (Nat → Nat) × (Nat → Nat) × (Nat → Nat) × (Nat → Int32) × (Nat → Int32) × (Nat → Int32) × (Nat → Int32) × (Nat → Nat → Int32) × (Nat → Nat → Int32) × (Nat → Nat → Int32) × Int32 × (Nat → Int32) × (Nat → Int32) × (Nat → Int32) × Int32) :=
  (Option.bind (S_X6_within i1 (1 : Int32) (200 : Int32)) (fun r5 =>
  (if r5 = 0 then
  some ((-1 : Int32), x_past_height, x_past_pf, x_past_ad, x_past_a1, x_past_a2, x_past_a3, x_past_pp, x_past_fp, x_past_sp, x_past_st, x_past_kd, x_past_th, x_past_ft, x_shop_people, x_shop_kind, x_shop_things, x_shop_feet, x_roll_length) else
  (Option.bind (S_X6_beforeRowChanges x_past_height x_past_pf x_past_ad x_past_a1 x_past_a2 x_past_a3 x_past_pp x_past_fp x_past_sp x_past_st x_past_kd x_past_th x_past_ft x_shop_people x_shop_firstPace x_shop_secondPace x_shop_steps x_shop_kind x_shop_things x_shop_feet) (fun (x_past_height_o14, x_past_pf_o14, x_past_ad_o14, x_past_a1_o14, x_past_a2_o14, x_past_a3_o14, x_past_pp_o14, x_past_fp_o14, x_past_sp_o14, x_past_st_o14, x_past_kd_o14, x_past_th_o14, x_past_ft_o14, x_roll_length_o14) =>
  (Option.bind (S_X3_letGoBy i1 x_shop_people x_shop_firstPace x_shop_things x_shop_kind x_shop_feet) (fun (r22, x_shop_people_o22, x_shop_things_o22, x_shop_kind_o22, x_shop_feet_o22) =>
  some (x_shop_people_o22, x_past_height_o14, x_past_pf_o14, x_past_ad_o14, x_past_a1_o14, x_past_a2_o14, x_past_a3_o14, x_past_pp_o14, x_past_fp_o14, x_past_sp_o14, x_past_st_o14, x_past_kd_o14, x_past_th_o14, x_past_ft_o14, x_shop_people_o22, x_shop_kind_o22, x_shop_things_o22, x_shop_feet_o22, x_roll_length_o14))))))))

def S_X6_slow (i1 : Int32) (x_shop_people : Int32) (x_shop_firstPace : Int32) (x_shop_secondPace : Int32) (x_shop_steps : Int32) (x_past_height : Int32) (x_past_pf : Nat → Option Nat) (x_past_ad : Nat → Nat) (x_past_a1 : Nat → Nat) (x_past_a2 : Nat → Nat) (x_past_a3 : Nat → Nat) (x_past_pp : Nat → Int32) (x_past_fp : Nat → Int32) (x_past_sp : Nat → Int32) (x_past_st : Nat → Int32) (x_past_kd : Nat → Nat → Int32) (x_past_th : Nat → Nat → Int32) (x_past_ft : Nat → Nat → Int32) (x_shop_kind : Nat → Int32) (x_shop_things : Nat → Int32) (x_shop_feet : Nat → Int32) : Option (Int32 × Int32 × Int32 × (Nat → Option Nat) × (Nat → Nat) × (Nat → Nat) × (Nat → Nat) × (Nat → Nat) × (Nat → Int32) × (Nat → Int32) × (Nat → Int32) × (Nat → Int32) × (Nat → Nat → Int32) × (Nat → Nat → Int32) × (Nat → Nat → Int32)) :=
  (Option.bind (S_X6_within i1 (1 : Int32) (9 : Int32)) (fun r4 =>
  (if r4 = 0 then
  some ((-1 : Int32), x_shop_secondPace, x_past_height, x_past_pf, x_past_ad, x_past_a1, x_past_a2, x_past_a3, x_past_pp, x_past_fp, x_past_sp, x_past_st, x_past_kd, x_past_th, x_past_ft) else
  (Option.bind (S_X1_putDroppingOldest8 x_past_height x_past_pf x_past_ad x_past_a1 x_past_a2 x_past_a3 x_past_pp x_past_fp x_past_sp x_past_st x_past_kd x_past_th x_past_ft x_shop_people x_shop_firstPace x_shop_secondPace x_shop_steps x_shop_kind x_shop_things x_shop_feet) (fun (x_past_height_o28, x_past_pf_o28, x_past_ad_o28, x_past_a1_o28, x_past_a2_o28, x_past_a3_o28, x_past_pp_o28, x_past_fp_o28, x_past_sp_o28, x_past_st_o28, x_past_kd_o28, x_past_th_o28, x_past_ft_o28) =>
  some (x_shop_secondPace, i1, x_past_height_o28, x_past_pf_o28, x_past_ad_o28, x_past_a1_o28, x_past_a2_o28, x_past_a3_o28, x_past_pp_o28, x_past_fp_o28, x_past_sp_o28, x_past_st_o28, x_past_kd_o28, x_past_th_o28, x_past_ft_o28))))))

def S_X6_undo (x_past_height : Int32) (x_past_pf : Nat → Option Nat) (x_past_ad : Nat → Nat) (x_past_pp : Nat → Int32) (x_past_fp : Nat → Int32) (x_past_sp : Nat → Int32) (x_past_st : Nat → Int32) (x_past_kd : Nat → Nat → Int32) (x_past_th : Nat → Nat → Int32) (x_past_ft : Nat → Nat → Int32) (x_shop_people : Int32) (x_shop_firstPace : Int32) (x_shop_secondPace : Int32) (x_shop_steps : Int32) (x_shop_kind : Nat → Int32) (x_shop_things : Nat → Int32) (x_shop_feet : Nat → Int32) (x_roll_length : Int32) : Option (Int32 × Int32 × Int32 × Int32 × Int32 × Int32 × (Nat → Int32) × (Nat → Int32) × (Nat → Int32) × Int32) :=
  (Option.bind (S_X1_takeInto8 x_past_height x_past_pf x_past_ad x_past_pp x_past_fp x_past_sp x_past_st x_past_kd x_past_th x_past_ft x_shop_people x_shop_firstPace x_shop_secondPace x_shop_steps x_shop_kind x_shop_things x_shop_feet) (fun (r8, x_past_height_o8, x_shop_people_o8, x_shop_firstPace_o8, x_shop_secondPace_o8, x_shop_steps_o8, x_shop_kind_o8, x_shop_things_o8, x_shop_feet_o8) =>
  (if r8 = 0 then
  some ((-2 : Int32), x_past_height_o8, x_shop_people_o8, x_shop_firstPace_o8, x_shop_secondPace_o8, x_shop_steps_o8, x_shop_kind_o8, x_shop_things_o8, x_shop_feet_o8, x_roll_length) else
  some (x_past_height_o8, x_past_height_o8, x_shop_people_o8, x_shop_firstPace_o8, x_shop_secondPace_o8, x_shop_steps_o8, x_shop_kind_o8, x_shop_things_o8, x_shop_feet_o8, (0 : Int32)))))

def S_X6_keep (x_shelf_height : Int32) (x_shelf_pf : Nat → Option Nat) (x_shelf_ad : Nat → Nat) (x_shelf_pp : Nat → Int32) (x_shelf_fp : Nat → Int32) (x_shelf_sp : Nat → Int32) (x_shelf_st : Nat → Int32) (x_shelf_kd : Nat → Nat → Int32) (x_shelf_th : Nat → Nat → Int32) (x_shelf_ft : Nat → Nat → Int32) (x_shop_people : Int32) (x_shop_firstPace : Int32) (x_shop_secondPace : Int32) (x_shop_steps : Int32) (x_shop_kind : Nat → Int32) (x_shop_things : Nat → Int32) (x_shop_feet : Nat → Int32) : Option (Int32 × Int32 × (Nat → Int32) × (Nat → Int32) × (Nat → Int32) × (Nat → Int32) × (Nat → Nat → Int32) × (Nat → Nat → Int32) × (Nat → Nat → Int32)) :=
  (Option.bind (S_X1_put2 x_shelf_height x_shelf_pf x_shelf_ad x_shelf_pp x_shelf_fp x_shelf_sp x_shelf_st x_shelf_kd x_shelf_th x_shelf_ft x_shop_people x_shop_firstPace x_shop_secondPace x_shop_steps x_shop_kind x_shop_things x_shop_feet) (fun (r8, x_shelf_height_o8, x_shelf_pp_o8, x_shelf_fp_o8, x_shelf_sp_o8, x_shelf_st_o8, x_shelf_kd_o8, x_shelf_th_o8, x_shelf_ft_o8) =>
  (if r8 = 0 then
  some ((-3 : Int32), x_shelf_height_o8, x_shelf_pp_o8, x_shelf_fp_o8, x_shelf_sp_o8, x_shelf_st_o8, x_shelf_kd_o8, x_shelf_th_o8, x_shelf_ft_o8) else
  some (x_shelf_height_o8, x_shelf_height_o8, x_shelf_pp_o8, x_shelf_fp_o8, x_shelf_sp_o8, x_shelf_st_o8, x_shelf_kd_o8, x_shelf_th_o8, x_shelf_ft_o8))))

def S_X6_back (x_shelf_height : Int32) (x_shelf_pf : Nat → Option Nat) (x_shelf_ad : Nat → Nat) (x_shelf_pp : Nat → Int32) (x_shelf_fp : Nat → Int32) (x_shelf_sp : Nat → Int32) (x_shelf_st : Nat → Int32) (x_shelf_kd : Nat → Nat → Int32) (x_shelf_th : Nat → Nat → Int32) (x_shelf_ft : Nat → Nat → Int32) (x_shop_people : Int32) (x_shop_firstPace : Int32) (x_shop_secondPace : Int32) (x_shop_steps : Int32) (x_shop_kind : Nat → Int32) (x_shop_things : Nat → Int32) (x_shop_feet : Nat → Int32) (x_roll_length : Int32) (x_past_height : Int32) : Option (Int32 × Int32 × Int32 × Int32 × Int32 × Int32 × (Nat → Int32) × (Nat → Int32) × (Nat → Int32) × Int32 × Int32) :=
  (Option.bind (S_X1_takeInto2 x_shelf_height x_shelf_pf x_shelf_ad x_shelf_pp x_shelf_fp x_shelf_sp x_shelf_st x_shelf_kd x_shelf_th x_shelf_ft x_shop_people x_shop_firstPace x_shop_secondPace x_shop_steps x_shop_kind x_shop_things x_shop_feet) (fun (r8, x_shelf_height_o8, x_shop_people_o8, x_shop_firstPace_o8, x_shop_secondPace_o8, x_shop_steps_o8, x_shop_kind_o8, x_shop_things_o8, x_shop_feet_o8) =>
  (if r8 = 0 then
  some ((-2 : Int32), x_shelf_height_o8, x_shop_people_o8, x_shop_firstPace_o8, x_shop_secondPace_o8, x_shop_steps_o8, x_shop_kind_o8, x_shop_things_o8, x_shop_feet_o8, x_roll_length, x_past_height) else
  some (x_shelf_height_o8, x_shelf_height_o8, x_shop_people_o8, x_shop_firstPace_o8, x_shop_secondPace_o8, x_shop_steps_o8, x_shop_kind_o8, x_shop_things_o8, x_shop_feet_o8, (0 : Int32), (0 : Int32)))))

