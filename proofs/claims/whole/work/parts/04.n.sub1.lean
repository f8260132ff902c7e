/-! one array of a larger world as a world of its own; the class's kinds of arrays -/
def tyC (cy : Nat → ClassId) : List (ClassId × FieldType) := [(cy 0, .int), (cy 1, .byte), (cy 2, .long), (cy 3, .object "DigestTrees$Message"), (cy 4, .object "DigestTrees$Tree"), (cy 5, .array .byte), (cy 6, .array .int)]
def shS (S : wS) (c : Nat) : wS := ((fun k => S.1 (k + c)), (fun k => S.2.1 (k + c)), (fun k => S.2.2 (k + c)))
section S1
variable {n : Nat} {cy : Nat → ClassId} {ad : Nat → Nat} {sk sk2 : Nat → wK} {S : wS} {kd len c : Nat} {g g2 : Nat → Option Nat}
theorem one_A (hcn : c < n) (hc : sk c = .inr (kd, len, g)) (hk : kd < 2) (h2 : sk2 0 = .inr (kd, len, g2)) : SubA n cy ad sk S 1 (fun k => ad (k + c)) sk2 (shS S c) (fun k => k + c) := by
  refine ⟨fun k hk1 => ?_, fun k k' a b _ => by omega⟩
  obtain rfl : k = 0 := by omega
  have e : 0 + c = c := Nat.zero_add c
  refine ⟨by show 0 + c < n; rw [e]; exact hcn, rfl, ?_⟩
  show wC cy _ sk2 (shS S c) 0 = wC cy ad sk S (0 + c)
  rw [wC_i h2 hk, e, wC_i hc hk]
  show _ = _
  simp only [shS, Nat.zero_add]
theorem one_T (hc : sk c = .inr (kd, len, g)) (hk : kd < 2) (h2 : sk2 0 = .inr (kd, len, g2)) (f : Nat → Int32) : SubT n cy ad sk S 1 (fun k => ad (k + c)) sk2 (sB (shS S c) 0 f) (fun k => k + c) (sB S c f) := by
  refine ⟨fun k hk1 => ?_, fun i _ hn => ?_⟩
  · obtain rfl : k = 0 := by omega
    show wC cy ad sk (sB S c f) (0 + c) = _
    rw [Nat.zero_add, sB_o hc hk, sB_o h2 hk]
  · have hi : i ≠ c := fun h => hn 0 (by decide) (by show 0 + c = i; rw [Nat.zero_add]; exact h.symm)
    exact sB_n f i hi
end S1
theorem skSh_b (e : Nat) (h : e < 60) : skSh (6 + e) = .inr (1, 32, fun _ => none) := by
  have h1 : skSh (6 + e) = if 6 + e < 66 then .inr (1, 32, fun _ => none) else .inr (0, 16, fun _ => none) := by
    rw [Nat.add_comm]; rfl
  rw [h1, if_pos (by omega)]
theorem skSh_l (e : Nat) : skSh (66 + e) = .inr (0, 16, fun _ => none) := by
  have h1 : skSh (66 + e) = if 66 + e < 66 then .inr (1, 32, fun _ => none) else .inr (0, 16, fun _ => none) := by
    rw [Nat.add_comm]; rfl
  rw [h1, if_neg (by omega)]
theorem skTr_n (e : Nat) : skTr (3 + e) = .inr (1, 32, fun _ => none) := by
  rw [Nat.add_comm]; rfl
theorem skSt_r (e : Nat) : skSt (4 + e) = .inr (1, 40, fun _ => none) := by
  rw [Nat.add_comm]; rfl
