/-! the first states of both sides agree -/
def R0 : Nat → Nat → Int32 := fun k => if k = 3 ∨ k = 19 then upd (fun _ => 0) 0 (-1) else fun _ => 0
theorem v_first : qSv 0 vSt0 R0 := by
  have z : ∀ {i : Nat} {P : Prop}, i < 0 → P := fun h => absurd h (by omega)
  refine ⟨0, 0, 0, 0, 0, 0, 0, 0, fun _ => 0, fun _ => 0, fun _ => 0, fun _ => 0, fun _ => 0, fun _ => 0, fun _ => [], fun _ => [], fun _ => [], rfl, rfl, rfl, rfl, rfl, rfl, rfl, rfl, ⟨by omega, rfl, fun i _ => ?_, fun i h => z h⟩, rfl, rfl, ⟨⟨by omega, ⟨fun i h => z h, fun i j h => z h⟩, ⟨fun i h => z h, fun i j h => z h⟩, fun i h => z h, fun i h => z h⟩, fun i h => z h, fun i h => z h, fun i h => z h, fun i h => z h⟩, ⟨rfl, fun i h => z h, fun i h => z h⟩, ⟨by omega, rfl, fun i h => z h⟩, ⟨by omega, rfl, fun i h => z h⟩, ⟨by omega, by omega, by omega, by omega, Or.inl rfl, rfl, rfl, rfl, rfl, rfl, fun i h => z h, fun i h => z h, fun i h => z h⟩⟩
  show (0 : Int32).toInt8.toInt32 = 0
  decide
theorem v_firstT : qTN 0 0 0 0 0 (fun _ => 0) (fun _ => 0) (fun _ => 0) (fun _ => 0) (fun _ => 0) (fun _ => 0) (fun _ => 0) := Or.inl rfl
