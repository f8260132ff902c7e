/-- the store, its arrays behind it -/
def skSt : Nat → wK := fun i => match i with
  | 0 => .inl (8, [some 1, some 2, some 3, none, none, none])
  | 1 => .inr (5, 40, fun j => some (4 + j))
  | 2 => .inr (0, 40, fun _ => none)
  | 3 => .inr (0, 40, fun _ => none)
  | _ => .inr (1, 40, fun _ => none)
/-- how many of the next b behind i are as it -/
def pjn (f : Nat → Int32) (i : Nat) : Nat → Nat
  | 0 => 0
  | b + 1 => if f i = f (i + 1 + b) then pjn f i b + 1 else pjn f i b
def pjo (f : Nat → Int32) (n : Nat) : Nat → Nat
  | 0 => 0
  | a + 1 => pjo f n a + pjn f a (n - (a + 1))
