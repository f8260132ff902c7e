/-- a mill (0, 1, 2), then a shelf (3) with its arrays -/
def skSA : Nat → wK := fun i => match i with
  | 3 => .inl (7, [some 4, some 5, some 6, some 7, some 8, none])
  | 4 => .inr (5, 60, fun j => some (9 + j))
  | 5 => .inr (6, 60, fun j => some (69 + j))
  | 6 => .inr (0, 60, fun _ => none)
  | 7 => .inr (0, 60, fun _ => none)
  | 8 => .inr (0, 64, fun _ => none)
  | i => if i < 3 then skMi 0 i else if i < 69 then .inr (1, 32, fun _ => none) else .inr (0, 16, fun _ => none)
theorem hM_sa : hasM skSA := ⟨rfl, rfl, rfl⟩
theorem skSA_b (e : Nat) (h : e < 60) : skSA (9 + e) = .inr (1, 32, fun _ => none) := by
  have h1 : skSA (9 + e) = if 9 + e < 3 then skMi 0 (9 + e) else if 9 + e < 69 then .inr (1, 32, fun _ => none) else .inr (0, 16, fun _ => none) := by
    rw [Nat.add_comm]; rfl
  rw [h1, if_neg (by omega), if_pos (by omega)]
theorem skSA_l (e : Nat) : skSA (69 + e) = .inr (0, 16, fun _ => none) := by
  have h1 : skSA (69 + e) = if 69 + e < 3 then skMi 0 (69 + e) else if 69 + e < 69 then .inr (1, 32, fun _ => none) else .inr (0, 16, fun _ => none) := by
    rw [Nat.add_comm]; rfl
  rw [h1, if_neg (by omega), if_neg (by omega)]
/-- the state behind a write of a mill into row c -/
theorem wrt_T {n : Nat} {cy : Nat → ClassId} {ad : Nat → Nat} {sk : Nat → wK} {S : wS} {c len k : Nat} (hm : hasM sk) (hc3 : 3 ≤ c) {g : Nat → Option Nat} (hc : sk c = .inr (1, len, g)) : SubT n cy ad sk S 4 (fun k => ad (fM c k)) (skMi len) (sB (sM S c) 3 (cps ((sM S c).2.1 3) (sbH ((sM S c).2.1 1)) k)) (fM c) (sB S c (cps (S.2.1 c) (sbH (S.2.1 1)) k)) := by
  refine sub4T hm hc3 hc (fun k hk => ?_) (fun k hk => ?_) ?_ (fun i hi hci => ⟨rfl, by simp [sB, va_up, hci], rfl⟩)
  · show S.1 (fM c k) = S.1 k
    rw [show fM c k = k from if_pos hk]
  · show va_up (fun k => S.2.1 (fM c k)) 3 _ k = va_up S.2.1 c _ k
    rw [va_up_ne _ _ (by omega), va_up_ne _ _ (by omega)]
    show S.2.1 (fM c k) = S.2.1 k
    rw [show fM c k = k from if_pos hk]
  · simp only [sB, up_at]
    rfl
