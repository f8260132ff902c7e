/-- a message with its mill: 0, 1, 2 mill, 3 message, 4 lock, 5 inner, 6 Bytes, 7 its room -/
def skMg : Nat → wK := fun i => match i with
  | 3 => .inl (4, [some 0, some 4, some 5, none, none, none, none])
  | 4 => .inr (1, 64, fun _ => none)
  | 5 => .inr (1, 32, fun _ => none)
  | 6 => .inl (3, [some 7, none])
  | 7 => .inr (1, 200, fun _ => none)
  | i => skMi 0 i
theorem hM_mg : hasM skMg := ⟨rfl, rfl, rfl⟩
/-- the lock, emptied -/
def mlZ (S : wS) : wS := sB S 4 (cps (S.2.1 4) (fun _ => (nI (0)).toInt8.toInt32) 64)
/-- what makeLock leaves -/
def mlP (S : wS) (ks bl : Nat) (S' : wS) : Prop := (ks ≤ 64 ∧ S' = sB (mlZ S) 4 (va_cpy (S.2.1 7) (cps (S.2.1 4) (fun _ => (nI (0)).toInt8.toInt32) 64) 0 0 ks)) ∨ (64 < ks ∧ ∃ T, oth (mlZ S) T ∧ MI T wC0 (padM (ub (S.2.1 7)) (0 + ks)) (padL (0 + ks)) ∧ S' = sI (sB T 4 (cps (T.2.1 4) (sbH (T.2.1 1)) 32)) 3 6 (nI (bl + padL (0 + ks) / 64)))
