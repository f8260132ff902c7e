/-- 1 where 0 ≤ x < c -/
def hsF (x c : Int32) : Int32 := if x < 0 then 0 else if c ≤ x then 0 else 1
theorem hsF_nar (a b : Int32) : narrow .boolean (.int (hsF a b)) = .int (hsF a b) := by
  unfold hsF; split
  · rfl
  · split <;> rfl
theorem hsF_nz {v : Int32} {b : Nat} (h : ¬ hsF v (nI b) = 0) (hb : b < 2 ^ 31) : ∃ k, k < b ∧ v = nI k := by
  unfold hsF at h
  by_cases h1 : v < 0
  · rw [if_pos h1] at h; exact absurd rfl h
  · rw [if_neg h1] at h
    by_cases h2 : nI b ≤ v
    · rw [if_pos h2] at h; exact absurd rfl h
    · obtain ⟨k, hk, rfl⟩ := nI_of h1
      exact ⟨k, Nat.not_le.mp fun h4 => h2 ((nI_leI hb hk).mpr h4), rfl⟩
/-- a byte array -/
def skB (len : Nat) : Nat → wK := fun _ => .inr (1, len, fun _ => none)
/-- a shelf, its five arrays behind it -/
def skSh : Nat → wK := fun i => match i with
  | 0 => .inl (7, [some 1, some 2, some 3, some 4, some 5, none])
  | 1 => .inr (5, 60, fun j => some (6 + j))
  | 2 => .inr (6, 60, fun j => some (66 + j))
  | 3 => .inr (0, 60, fun _ => none)
  | 4 => .inr (0, 60, fun _ => none)
  | 5 => .inr (0, 64, fun _ => none)
  | i => if i < 66 then .inr (1, 32, fun _ => none) else .inr (0, 16, fun _ => none)
/-- a tree, its two arrays behind it -/
def skTr : Nat → wK := fun i => match i with
  | 0 => .inl (9, [some 1, some 2, none])
  | 1 => .inr (0, 12, fun _ => none)
  | 2 => .inr (5, 24, fun j => some (3 + j))
  | _ => .inr (1, 32, fun _ => none)
/-- what width w makes of a long -/
def cvC (w : Nat) (v : Int64) : Int64 := match w with
  | 0 => v.toInt32.toInt8.toInt32.toInt64
  | 1 => v.toInt32.toInt16.toInt32.toInt64
  | 2 => (v.toInt32.toUInt32 % 65536).toInt32.toInt64
  | 3 => v.toInt32.toInt64
  | _ => v
def skB2 (len len2 : Nat) : Nat → wK := fun i => match i with
  | 0 => .inr (1, len, fun _ => none)
  | _ => .inr (1, len2, fun _ => none)
