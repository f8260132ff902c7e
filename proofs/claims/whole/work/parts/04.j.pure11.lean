/-- a message with its mill: 0, 1, 2 mill, 3 message, 4 lock, 5 inner, 6 Bytes, 7 its room -/
def skMg : Nat → wK := fun i => match i with
  | 3 => .inl (4, [some 0, some 4, some 5, none, none, none, none])
  | 4 => .inr (1, 64, fun _ => none)
  | 5 => .inr (1, 32, fun _ => none)
  | 6 => .inl (3, [some 7, none])
  | 7 => .inr (1, 200, fun _ => none)
  | i => skMi 0 i
theorem hM_mg : hasM skMg := ⟨rfl, rfl, rfl⟩
