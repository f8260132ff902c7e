/-- a leaf laid at at0 -/
def lyS (S : wS) (at0 : Nat) (x : Int32) (t : Nat) : wS := sI (sB (sB (sB S 23 (upd (S.2.1 23) at0 x)) 24 (upd (S.2.1 24) at0 (nI t))) 25 (pts (S.2.1 25) (40 * at0) (S.2.1 10) t)) 0 12 (nI 0)
/-- the tape stands as row i -/
def rowIs (S : wS) (rz : Nat → Nat) (i t : Nat) : Prop := rz i = t ∧ ∀ q, q < t → S.2.1 29 (40 * i + q) = S.2.1 10 q
/-- how many of the first k hold x -/
def cnt (f : Nat → Int32) (x : Int32) : Nat → Nat
  | 0 => 0
  | k + 1 => if f k = x then cnt f x k + 1 else cnt f x k
/-- how many of the first b are as the a-th -/
def pin (f : Nat → Int32) (a : Nat) : Nat → Nat
  | 0 => 0
  | b + 1 => if f a = f b then pin f a b + 1 else pin f a b
def pout (f : Nat → Int32) : Nat → Nat
  | 0 => 0
  | a + 1 => pout f a + pin f a a
/-- behind spotOfTape() -/
def spS (S : wS) (t q : Nat) : wS := wrk S (nI 0) (cps (S.2.1 7) (S.2.1 10) t) t q
def spX (S : wS) (t : Nat) : Int32 := byH (shaS S (nI 0) (cps (S.2.1 7) (S.2.1 10) t) t).1 31 &&& nI 15
theorem sw_in (x : Int32) (n : Nat) (hn : n < 2 ^ 31) : (∃ k, k ≤ n ∧ x = nI k) ∨ (x.toInt < 0 ∨ (n : Int) < x.toInt) := by
  by_cases h : x < 0
  · right; left
    rw [Int32.lt_iff_toInt_lt] at h
    have : (0 : Int32).toInt = 0 := by decide
    omega
  · obtain ⟨k, hk, rfl⟩ := nI_of h
    by_cases h2 : k ≤ n
    · exact Or.inl ⟨k, h2, rfl⟩
    · right; right
      rw [nI_toInt hk]
      omega
