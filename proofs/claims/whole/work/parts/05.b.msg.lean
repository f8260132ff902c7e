/-! A message with a shelf: 0, 1, 2 mill, 3 message, 4 lock, 5 inner, 6 Bytes, 7 its room, 8 shelf, 9 .. 13 its arrays, 14.. rows of bytes, 74.. rows of words -/
def skMf : Nat → wK := fun i => match i with
  | 3 => .inl (4, [some 0, some 4, some 5, none, none, none, none])
  | 4 => .inr (1, 64, fun _ => none)
  | 5 => .inr (1, 32, fun _ => none)
  | 6 => .inl (3, [some 7, none])
  | 7 => .inr (1, 200, fun _ => none)
  | 8 => .inl (7, [some 9, some 10, some 11, some 12, some 13, none])
  | 9 => .inr (5, 60, fun j => some (14 + j))
  | 10 => .inr (6, 60, fun j => some (74 + j))
  | 11 => .inr (0, 60, fun _ => none)
  | 12 => .inr (0, 60, fun _ => none)
  | 13 => .inr (0, 64, fun _ => none)
  | i => if i < 3 then skMi 0 i else if i < 74 then .inr (1, 32, fun _ => none) else .inr (0, 16, fun _ => none)
theorem hM_mf : hasM skMf := ⟨rfl, rfl, rfl⟩
def fSA (k : Nat) : Nat := if k < 3 then k else k + 5
def fiSA (i : Nat) : Option Nat := if i < 3 then some i else if 8 ≤ i ∧ i < 134 then some (i - 5) else none
def fi8 (i : Nat) : Option Nat := if i < 8 then some i else none
theorem skSA_hi (k : Nat) : skSA (k + 9) = if k + 9 < 3 then skMi 0 (k + 9) else if k + 9 < 69 then .inr (1, 32, fun _ => none) else .inr (0, 16, fun _ => none) := rfl
theorem skMf_hi (k : Nat) : skMf (k + 14) = if k + 14 < 3 then skMi 0 (k + 14) else if k + 14 < 74 then .inr (1, 32, fun _ => none) else .inr (0, 16, fun _ => none) := rfl
theorem lie_SA : Lie 134 skMf 129 skSA fSA fiSA := by
  refine ⟨fun k hk => ?_, fun i k h => ?_⟩
  · have h1 : fSA k < 134 := by unfold fSA; split <;> omega
    have h2 : fiSA (fSA k) = some k := by
      unfold fSA fiSA
      by_cases h : k < 3
      · rw [if_pos h, if_pos h]
      · rw [if_neg h, if_neg (by omega), if_pos (by omega)]; congr 1
    refine ⟨h1, h2, ?_⟩
    have e : ∀ j, fSA (9 + j) = 14 + j := fun j => by unfold fSA; rw [if_neg (by omega)]; omega
    have e' : ∀ j, fSA (69 + j) = 74 + j := fun j => by unfold fSA; rw [if_neg (by omega)]; omega
    match k, hk with
    | 0, _ => rfl
    | 1, _ => rfl
    | 2, _ => rfl
    | 3, _ => rfl
    | 4, _ => show (Sum.inr (5, 60, fun j => some (14 + j)) : wK) = Sum.inr (5, 60, fun j => some (fSA (9 + j))); congr 3; funext j; rw [e j]
    | 5, _ => show (Sum.inr (6, 60, fun j => some (74 + j)) : wK) = Sum.inr (6, 60, fun j => some (fSA (69 + j))); congr 3; funext j; rw [e' j]
    | 6, _ => rfl
    | 7, _ => rfl
    | 8, _ => rfl
    | k + 9, _ =>
      have e9 : fSA (k + 9) = k + 14 := by unfold fSA; rw [if_neg (by omega)]
      rw [e9, skMf_hi, skSA_hi, if_neg (show ¬ k + 14 < 3 by omega), if_neg (show ¬ k + 9 < 3 by omega)]
      by_cases h : k + 9 < 69
      · rw [if_pos h, if_pos (show k + 14 < 74 by omega)]; rfl
      · rw [if_neg h, if_neg (show ¬ k + 14 < 74 by omega)]; rfl
  · unfold fiSA at h
    by_cases h3 : i < 3
    · rw [if_pos h3] at h; cases h; exact ⟨by omega, if_pos h3⟩
    · rw [if_neg h3] at h
      by_cases h4 : 8 ≤ i ∧ i < 134
      · rw [if_pos h4] at h; cases h
        refine ⟨by omega, ?_⟩
        unfold fSA
        rw [if_neg (by omega)]; omega
      · rw [if_neg h4] at h; cases h
theorem lie_Mg : Lie 134 skMf 8 skMg id fi8 := by
  refine ⟨fun k hk => ⟨by show k < 134; omega, if_pos hk, ?_⟩, fun i k h => ?_⟩
  · match k, hk with
    | 0, _ => rfl
    | 1, _ => rfl
    | 2, _ => rfl
    | 3, _ => rfl
    | 4, _ => rfl
    | 5, _ => rfl
    | 6, _ => rfl
    | 7, _ => rfl
  · unfold fi8 at h
    by_cases h4 : i < 8
    · rw [if_pos h4] at h; cases h; exact ⟨h4, rfl⟩
    · rw [if_neg h4] at h; cases h
/-- but for the mill, the message's blocks and inner as it was -/
def mfo (S T : wS) : Prop := (∀ i, 4 ≤ i → T.1 i = S.1 i) ∧ (∀ k, k ≠ 6 → T.1 3 k = S.1 3 k) ∧ ∀ i, 3 ≤ i → i ≠ 5 → T.2.1 i = S.2.1 i
theorem mfo.rf (S : wS) : mfo S S := ⟨fun _ _ => rfl, fun _ _ => rfl, fun _ _ _ => rfl⟩
theorem mfo.mg {S T : wS} (h : mfo S T) (X : wS) : mfo S (mgS T X) := ⟨fun i hi => (if_neg (by omega)).trans (h.1 i hi), fun k hk => h.2.1 k hk, fun i hi h5 => (if_neg (by omega)).trans (h.2.2 i hi h5)⟩
theorem mfo.b {S T : wS} (h : mfo S T) (v : Int32) : mfo S (sI T 3 6 v) := ⟨fun i hi => by rw [← h.1 i hi]; simp [sI, va_up, show i ≠ 3 by omega], fun k hk => by rw [← h.2.1 k hk]; simp [sI, va_up, hk], h.2.2⟩
theorem mfo.w {S T : wS} (h : mfo S T) (f : Nat → Int32) : mfo S (sB T 5 f) := ⟨h.1, h.2.1, fun i hi h5 => by rw [← h.2.2 i hi h5]; simp [sB, va_up, h5]⟩
theorem mfo.p {S T X : wS} (h : mfo S T) (hX : oth (pul T id) X) : mfo S (psh T fi8 X) := by
  have e : ∀ i, 3 ≤ i → (psh T fi8 X).1 i = T.1 i ∧ (psh T fi8 X).2.1 i = T.2.1 i := by
    intro i hi
    by_cases h8 : i < 8
    · have : fi8 i = some i := if_pos h8
      simp only [psh, this, Option.elim]
      exact hX i hi
    · exact psh_o X (if_neg h8)
  exact ⟨fun i hi => (e i (by omega)).1.trans (h.1 i hi), fun k hk => (congrFun (e 3 (by decide)).1 k).trans (h.2.1 k hk), fun i hi h5 => (e i hi).2.trans (h.2.2 i hi h5)⟩
/-- the outer message of a keyed digest: the lock with its mask, the inner digest -/
def okG (lk h : Nat → Int32) : Nat → Int32 := fun k => if k < 64 then (lk k ^^^ nI 92) &&& nI 255 else sbH h (k - 64) &&& nI 255
/-- what stands behind a finish, T before the shelf's turn -/
def finP (S : wS) (x : Int32) (d q : Nat) (hh ww : Nat → Int32) (S' : wS) : Prop := ∃ T, mfo S T ∧ (∀ j, j < 8 → T.2.1 1 j = hh j) ∧ (∀ t, t < 64 → T.2.1 2 t = ww t) ∧ S' = psh T fiSA (adS (pul T fSA) x d q)
