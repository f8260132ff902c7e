theorem inF_nzb {v : Int32} {b : Nat} (h : ¬ inF v (nI 0) (nI b) = 0) (hb : b < 2 ^ 31) : ∃ k, k ≤ b ∧ v = nI k := by
  obtain ⟨k, _, h2, rfl⟩ := inF_nz h (Nat.zero_le b) hb
  exact ⟨k, h2, rfl⟩
def rdv (f : Nat → Int32) : Nat → Int64
  | 0 => 0
  | k + 1 => (rdv f k <<< ((nI 8).toInt64 &&& 63)) ||| (f k).toInt64
/-- how many bytes a width has -/
def wn : Nat → Nat
  | 0 => 1
  | 1 => 2
  | 2 => 2
  | 3 => 4
  | _ => 8
def cvL (w : Nat) (v : Int64) : Int64 := match w with
  | 0 => v.toInt32.toInt8.toInt32.toInt64
  | 1 => v.toInt32.toInt16.toInt32.toInt64
  | 2 => v
  | 3 => v.toInt32.toInt64
  | _ => v
