/-- the store, its arrays behind it -/
def skSt : Nat → wK := fun i => match i with
  | 0 => .inl (8, [some 1, some 2, some 3, none, none, none])
  | 1 => .inr (5, 40, fun j => some (4 + j))
  | 2 => .inr (0, 40, fun _ => none)
  | 3 => .inr (0, 40, fun _ => none)
  | _ => .inr (1, 40, fun _ => none)
/-- how many of the next b behind i are as it -/
def pjn (f : Nat → Int32) (i : Nat) : Nat → Nat
  | 0 => 0
  | b + 1 => if f i = f (i + 1 + b) then pjn f i b + 1 else pjn f i b
def pjo (f : Nat → Int32) (n : Nat) : Nat → Nat
  | 0 => 0
  | a + 1 => pjo f n a + pjn f a (n - (a + 1))
theorem xor1 : ∀ a : Fin 16, nI a.val ^^^ nI 1 = nI (bsd a.val) := by decide
theorem bsd_le (a : Nat) : bsd a ≤ a + 1 := by
  unfold bsd; split <;> omega
/-- how many stand beside leaf a of n on its way up -/
def dueF : Nat → Nat → Nat → Nat
  | 0, _, _ => 0
  | g + 1, n, a => if n ≤ 1 then 0 else (if bsd a < n then 1 else 0) + dueF g ((n + 1) / 2) (a / 2)
theorem dueF_1 (g n a : Nat) (h : n ≤ 1) : dueF g n a = 0 := by
  cases g with
  | zero => rfl
  | succ g => simp only [dueF]; rw [if_pos h]
theorem dueF_s (g n a : Nat) (h : 1 < n) : dueF (g + 1) n a = (if bsd a < n then 1 else 0) + dueF g ((n + 1) / 2) (a / 2) := by
  simp only [dueF]; rw [if_neg (by omega)]
theorem pvL_len (K h0 : Nat → Int32) : ∀ (g n a : Nat) (f : Nat → Nat → Int32), (pvL K h0 g n a f).length = dueF g n a
  | 0, _, _, _ => rfl
  | g + 1, n, a, f => by
    by_cases h : n ≤ 1
    · rw [pvL_1 _ _ _ _ _ _ h, dueF_1 _ _ _ h]; rfl
    · by_cases hb : bsd a < n
      · rw [pvL_y _ _ _ _ _ _ (by omega) hb, dueF_s _ _ _ (by omega), if_pos hb, List.length_append, pvL_len K h0 g]; rfl
      · rw [pvL_n _ _ _ _ _ _ (by omega) hb, dueF_s _ _ _ (by omega), if_neg hb, pvL_len K h0 g, Nat.zero_add]
