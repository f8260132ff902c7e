/-! The store with a Bytes: 0 store, 1 .. 3 its arrays, 4 Bytes, 5 its room, 6.. the store's rows (40) -/
def skSs : Nat → wK := fun i => match i with
  | 0 => .inl (8, [some 1, some 2, some 3, none, none, none])
  | 1 => .inr (5, 40, fun j => some (6 + j))
  | 2 => .inr (0, 40, fun _ => none)
  | 3 => .inr (0, 40, fun _ => none)
  | 4 => .inl (3, [some 5, none])
  | 5 => .inr (1, 200, fun _ => none)
  | _ => .inr (1, 40, fun _ => none)
theorem skSs_r (e : Nat) : skSs (6 + e) = .inr (1, 40, fun _ => none) := by rw [Nat.add_comm]; rfl
/-- two byte arrays of a larger world -/
def f2 (c1 c2 : Nat) : Nat → Nat
  | 0 => c1
  | _ => c2
def fi2 (c1 c2 : Nat) (i : Nat) : Option Nat := if i = c1 then some 0 else if i = c2 then some 1 else none
theorem lie_2 {n : Nat} {sk : Nat → wK} {c1 c2 l1 l2 : Nat} (h1 : c1 < n) (h2 : c2 < n) (hne : c1 ≠ c2) (e1 : sk c1 = .inr (1, l1, fun _ => none)) (e2 : sk c2 = .inr (1, l2, fun _ => none)) : Lie n sk 2 (skB2 l1 l2) (f2 c1 c2) (fi2 c1 c2) := by
  refine ⟨fun k hk => ?_, fun i k h => ?_⟩
  · match k, hk with
    | 0, _ => exact ⟨h1, if_pos rfl, e1⟩
    | 1, _ => exact ⟨h2, by show fi2 c1 c2 c2 = some 1; unfold fi2; rw [if_neg (Ne.symm hne), if_pos rfl], e2⟩
  · unfold fi2 at h
    by_cases a : i = c1
    · rw [if_pos a] at h; cases h; exact ⟨by decide, a.symm⟩
    · rw [if_neg a] at h
      by_cases b : i = c2
      · rw [if_pos b] at h; cases h; exact ⟨by decide, b.symm⟩
      · rw [if_neg b] at h; cases h
theorem Lie.id {n : Nat} {cy : Nat → ClassId} {ad : Nat → Nat} {sk : Nat → wK} {S : wS} {n2 : Nat} {sk2 : Nat → wK} {f : Nat → Nat} {fi : Nat → Option Nat} (h : Lie n sk n2 sk2 f fi) : SubT n cy ad sk S n2 (fun k => ad (f k)) sk2 (pul S f) f S := by
  have := h.T (cy := cy) (ad := ad) (S := S) (pul S f)
  rwa [psh_pul h] at this
/-- the Bytes stands as row i of the store -/
def rwIs (S : wS) (rz : Nat → Nat) (i t : Nat) : Prop := rz i = t ∧ ∀ q, q < t → S.2.1 (6 + i) q = S.2.1 5 q
