/-! The whole object: 0.. mills (3 cells each), 15.. messages (3 each), 30 streams, 31 shelf and its arrays, 37 trees, 38.. trees (3 each), 50 proof, 51 beside, 52 store and its arrays, 56 node, 57 the object, 58 tape, 60 secret; rows from 62 on -/
def skD : Nat → wK := fun i => match i with
  | 0 => .inl (5, [some 1, some 2, none, none, none])
  | 1 => .inr (0, 8, fun _ => none)
  | 2 => .inr (0, 64, fun _ => none)
  | 3 => .inl (5, [some 4, some 5, none, none, none])
  | 4 => .inr (0, 8, fun _ => none)
  | 5 => .inr (0, 64, fun _ => none)
  | 6 => .inl (5, [some 7, some 8, none, none, none])
  | 7 => .inr (0, 8, fun _ => none)
  | 8 => .inr (0, 64, fun _ => none)
  | 9 => .inl (5, [some 10, some 11, none, none, none])
  | 10 => .inr (0, 8, fun _ => none)
  | 11 => .inr (0, 64, fun _ => none)
  | 12 => .inl (5, [some 13, some 14, none, none, none])
  | 13 => .inr (0, 8, fun _ => none)
  | 14 => .inr (0, 64, fun _ => none)
  | 15 => .inl (4, [some 0, some 16, some 17, none, none, none, none])
  | 16 => .inr (1, 64, fun _ => none)
  | 17 => .inr (1, 32, fun _ => none)
  | 18 => .inl (4, [some 3, some 19, some 20, none, none, none, none])
  | 19 => .inr (1, 64, fun _ => none)
  | 20 => .inr (1, 32, fun _ => none)
  | 21 => .inl (4, [some 6, some 22, some 23, none, none, none, none])
  | 22 => .inr (1, 64, fun _ => none)
  | 23 => .inr (1, 32, fun _ => none)
  | 24 => .inl (4, [some 9, some 25, some 26, none, none, none, none])
  | 25 => .inr (1, 64, fun _ => none)
  | 26 => .inr (1, 32, fun _ => none)
  | 27 => .inl (4, [some 12, some 28, some 29, none, none, none, none])
  | 28 => .inr (1, 64, fun _ => none)
  | 29 => .inr (1, 32, fun _ => none)
  | 30 => .inr (3, 4, fun j => some (15 + 3 * (j + 1)))
  | 31 => .inl (7, [some 32, some 33, some 34, some 35, some 36, none])
  | 32 => .inr (5, 60, fun j => some (62 + j))
  | 33 => .inr (6, 60, fun j => some (122 + j))
  | 34 => .inr (0, 60, fun _ => none)
  | 35 => .inr (0, 60, fun _ => none)
  | 36 => .inr (0, 64, fun _ => none)
  | 37 => .inr (4, 4, fun j => some (38 + 3 * j))
  | 38 => .inl (9, [some 39, some 40, none])
  | 39 => .inr (0, 12, fun _ => none)
  | 40 => .inr (5, 24, fun j => some (182 + j))
  | 41 => .inl (9, [some 42, some 43, none])
  | 42 => .inr (0, 12, fun _ => none)
  | 43 => .inr (5, 24, fun j => some (206 + j))
  | 44 => .inl (9, [some 45, some 46, none])
  | 45 => .inr (0, 12, fun _ => none)
  | 46 => .inr (5, 24, fun j => some (230 + j))
  | 47 => .inl (9, [some 48, some 49, none])
  | 48 => .inr (0, 12, fun _ => none)
  | 49 => .inr (5, 24, fun j => some (254 + j))
  | 50 => .inl (6, [some 51, none])
  | 51 => .inr (5, 4, fun j => if j < 4 then some (278 + j) else none)
  | 52 => .inl (8, [some 53, some 54, some 55, none, none, none])
  | 53 => .inr (5, 40, fun j => some (282 + j))
  | 54 => .inr (0, 40, fun _ => none)
  | 55 => .inr (0, 40, fun _ => none)
  | 56 => .inr (1, 32, fun _ => none)
  | 57 => .inl (10, [some 58, some 60, some 0, some 15, some 30, some 31, some 37, some 50, some 52, some 56])
  | 58 => .inl (3, [some 59, none])
  | 59 => .inr (1, 200, fun _ => none)
  | 60 => .inl (3, [some 61, none])
  | 61 => .inr (1, 200, fun _ => none)
  | i => if i < 122 then .inr (1, 32, fun _ => none) else if i < 182 then .inr (0, 16, fun _ => none) else if i < 282 then .inr (1, 32, fun _ => none) else .inr (1, 40, fun _ => none)
theorem skD_hi (e : Nat) : skD (e + 62) = if e + 62 < 122 then .inr (1, 32, fun _ => none) else if e + 62 < 182 then .inr (0, 16, fun _ => none) else if e + 62 < 282 then .inr (1, 32, fun _ => none) else .inr (1, 40, fun _ => none) := rfl
theorem skD_b (e : Nat) (h : e < 60) : skD (62 + e) = .inr (1, 32, fun _ => none) := by rw [Nat.add_comm, skD_hi, if_pos (by omega)]
theorem skD_l (e : Nat) (h : e < 60) : skD (122 + e) = .inr (0, 16, fun _ => none) := by rw [show 122 + e = (60 + e) + 62 by omega, skD_hi, if_neg (by omega), if_pos (by omega)]
theorem skD_n (e : Nat) (h : e < 100) : skD (182 + e) = .inr (1, 32, fun _ => none) := by rw [show 182 + e = (120 + e) + 62 by omega, skD_hi, if_neg (by omega), if_neg (by omega), if_pos (by omega)]
theorem skD_p (e : Nat) (h : e < 4) : skD (278 + e) = .inr (1, 32, fun _ => none) := by rw [show 278 + e = 182 + (96 + e) by omega]; exact skD_n _ (by omega)
theorem skD_s (e : Nat) (h : e < 40) : skD (282 + e) = .inr (1, 40, fun _ => none) := by rw [show 282 + e = (220 + e) + 62 by omega, skD_hi, if_neg (by omega), if_neg (by omega), if_neg (by omega)]
theorem skD_t (k e : Nat) (hk : k < 4) (h : e < 24) : skD (182 + 24 * k + e) = .inr (1, 32, fun _ => none) := by rw [show 182 + 24 * k + e = 182 + (24 * k + e) by omega]; exact skD_n _ (by omega)
theorem skD_M (j : Nat) (h : j < 4) : skD (15 + 3 * (j + 1)) = .inl (4, [some (3 * (j + 1)), some (16 + 3 * (j + 1)), some (17 + 3 * (j + 1)), none, none, none, none]) := by
  rcases (show j = 0 ∨ j = 1 ∨ j = 2 ∨ j = 3 by omega) with rfl | rfl | rfl | rfl <;> rfl
theorem skD_T (k : Nat) (h : k < 4) : skD (38 + 3 * k) = .inl (9, [some (39 + 3 * k), some (40 + 3 * k), none]) := by
  rcases (show k = 0 ∨ k = 1 ∨ k = 2 ∨ k = 3 by omega) with rfl | rfl | rfl | rfl <;> rfl
theorem skD_Tk (k : Nat) (h : k < 4) : skD (39 + 3 * k) = .inr (0, 12, fun _ => none) := by
  rcases (show k = 0 ∨ k = 1 ∨ k = 2 ∨ k = 3 by omega) with rfl | rfl | rfl | rfl <;> rfl
theorem skD_Tn (k : Nat) (h : k < 4) : skD (40 + 3 * k) = .inr (5, 24, fun j => some (182 + 24 * k + j)) := by
  rcases (show k = 0 ∨ k = 1 ∨ k = 2 ∨ k = 3 by omega) with rfl | rfl | rfl | rfl <;> rfl
theorem hM_D : hasM skD := ⟨rfl, rfl, rfl⟩
