/-! the start -/
def s0l (t : Int32 × Int32 × Int32 × Int32 × Int32 × (Nat → Int32) × (Nat → Int32) × (Nat → Int32) × (Nat → Int32)) : List Int32 :=
  [t.2.1, t.2.2.1, t.2.2.2.1, t.2.2.2.2.1, t.2.2.2.2.2.2.1 0, t.2.2.2.2.2.2.1 1, t.2.2.2.2.2.2.1 2, t.2.2.2.2.2.2.1 3, t.2.2.2.2.2.2.1 4, t.2.2.2.2.2.2.1 5,
   t.2.2.2.2.2.2.2.1 0, t.2.2.2.2.2.2.2.1 1, t.2.2.2.2.2.2.2.1 2, t.2.2.2.2.2.2.2.1 3, t.2.2.2.2.2.2.2.1 4, t.2.2.2.2.2.2.2.1 5,
   t.2.2.2.2.2.2.2.2 0, t.2.2.2.2.2.2.2.2 1, t.2.2.2.2.2.2.2.2 2, t.2.2.2.2.2.2.2.2 3, t.2.2.2.2.2.2.2.2 4, t.2.2.2.2.2.2.2.2 5]
theorem shop0_v : Option.map s0l shop0 = some [6, 2, 3, 3, 0, 1, 2, 3, 1, 2, 6, 4, 9, 2, 7, 3, 2, 3, 2, 4, 1, 2] := by decide +kernel
theorem rel0 {n8pf : Nat → Option Nat} {n8ad : Nat → Nat} {n10pf : Nat → Option Nat} {n10ad : Nat → Nat} {r0 pp fp sp stp : Int32} {nu kd th ft : Nat → Int32} (h8 : ∀ j, j < 8 → n8pf j = some (n8ad j)) (h2 : ∀ j, j < 2 → n10pf j = some (n10ad j)) (hq : shop0 = some (r0, pp, fp, sp, stp, nu, kd, th, ft)) : Rel 0 (letF 50) pp fp sp stp kd th ft 0 n8pf n8ad (fun _ => 0) (fun _ => 2) (fun _ => 2) (fun _ => 2) (fun _ _ => 0) (fun _ _ => 0) (fun _ _ => 0) 0 n10pf n10ad (fun _ => 0) (fun _ => 2) (fun _ => 2) (fun _ => 2) (fun _ _ => 0) (fun _ _ => 0) (fun _ _ => 0) 0 (fun _ => 0) (fun _ => 0) 0 (fun _ => 0) (upd (upd (upd (stR (stR (stR (stR (stR (stR (fun _ => 0) 0 0 6 2) 1 1 4 3) 2 2 9 2) 3 3 2 4) 4 1 7 1) 5 2 3 2) 1 2) 2 3) 3 3) 0 (fun _ => 0) 0 (fun _ => 0) (fun _ => 0) 0 (fun _ => 0) := by
  have e := shop0_v
  rw [hq] at e
  simp only [Option.map_some, s0l, Option.some.injEq, List.cons.injEq, and_true] at e
  obtain ⟨e0, e1, e2, e3, k0, k1, k2, k3, k4, k5, t0, t1, t2, t3, t4, t5, f0, f1, f2, f3, f4, f5⟩ := e
  refine ⟨⟨0, by omega, rfl, rfl, fun j h => absurd h (by omega)⟩, ?_, ⟨h8, 0, by omega, rfl, rfl, fun j h => absurd h (by omega)⟩, ⟨h2, 0, by omega, rfl, rfl, fun j h => absurd h (by omega)⟩, tape0⟩
  refine ⟨6, ⟨by omega, e0, ⟨2, by omega, by omega, e1⟩, ⟨3, by omega, by omega, e2⟩, ⟨3, by omega, e3⟩, fun i hi => ?_⟩, ?_, ?_, ?_, ?_, fun i hi => ?_⟩
  · have q : i = 0 ∨ i = 1 ∨ i = 2 ∨ i = 3 ∨ i = 4 ∨ i = 5 := by omega
    rcases q with rfl | rfl | rfl | rfl | rfl | rfl
    · exact ⟨⟨0, by omega, k0⟩, ⟨6, by omega, by omega, t0⟩, ⟨2, by omega, by omega, f0⟩⟩
    · exact ⟨⟨1, by omega, k1⟩, ⟨4, by omega, by omega, t1⟩, ⟨3, by omega, by omega, f1⟩⟩
    · exact ⟨⟨2, by omega, k2⟩, ⟨9, by omega, by omega, t2⟩, ⟨2, by omega, by omega, f2⟩⟩
    · exact ⟨⟨3, by omega, k3⟩, ⟨2, by omega, by omega, t3⟩, ⟨4, by omega, by omega, f3⟩⟩
    · exact ⟨⟨1, by omega, k4⟩, ⟨7, by omega, by omega, t4⟩, ⟨1, by omega, by omega, f4⟩⟩
    · exact ⟨⟨2, by omega, k5⟩, ⟨3, by omega, by omega, t5⟩, ⟨2, by omega, by omega, f5⟩⟩
  · rw [e0]; decide +kernel
  · rw [e1]; decide +kernel
  · rw [e2]; decide +kernel
  · rw [e3]; decide +kernel
  · have q : i = 0 ∨ i = 1 ∨ i = 2 ∨ i = 3 ∨ i = 4 ∨ i = 5 := by omega
    rcases q with rfl | rfl | rfl | rfl | rfl | rfl
    · rw [k0, t0, f0]; decide +kernel
    · rw [k1, t1, f1]; decide +kernel
    · rw [k2, t2, f2]; decide +kernel
    · rw [k3, t3, f3]; decide +kernel
    · rw [k4, t4, f4]; decide +kernel
    · rw [k5, t5, f5]; decide +kernel
