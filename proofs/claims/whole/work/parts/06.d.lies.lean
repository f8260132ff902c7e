set_option maxRecDepth 20000
def fLf (c : Nat) : Nat → Nat
  | 0 => 0
  | 1 => 1
  | 2 => 2
  | 3 => 58
  | 4 => 59
  | 5 => c
  | k + 6 => k
def fiLf (c : Nat) (i : Nat) : Option Nat := if i = 0 then some 0 else if i = 1 then some 1 else if i = 2 then some 2 else if i = 58 then some 3 else if i = 59 then some 4 else if i = c then some 5 else none
theorem lieLf (c : Nat) (hc : 59 < c ∨ c = 56) (hc2 : c < 322) (e : skD c = .inr (1, 32, fun _ => none)) : Lie 322 skD 6 (skLf) (fLf c) (fiLf c) := by
  refine ⟨fun k hk => ?_, fun i k h => ?_⟩
  · match k, hk with
    | 0, _ =>
      refine ⟨by show 0 < 322; omega, by show fiLf c (0) = some 0; unfold fiLf; rw [if_pos rfl], ?_⟩
      rfl
    | 1, _ =>
      refine ⟨by show 1 < 322; omega, by show fiLf c (1) = some 1; unfold fiLf; rw [if_neg (show ¬ 1 = 0 by omega)]; rw [if_pos rfl], ?_⟩
      rfl
    | 2, _ =>
      refine ⟨by show 2 < 322; omega, by show fiLf c (2) = some 2; unfold fiLf; rw [if_neg (show ¬ 2 = 0 by omega)]; rw [if_neg (show ¬ 2 = 1 by omega)]; rw [if_pos rfl], ?_⟩
      rfl
    | 3, _ =>
      refine ⟨by show 58 < 322; omega, by show fiLf c (58) = some 3; unfold fiLf; rw [if_neg (show ¬ 58 = 0 by omega)]; rw [if_neg (show ¬ 58 = 1 by omega)]; rw [if_neg (show ¬ 58 = 2 by omega)]; rw [if_pos rfl], ?_⟩
      rfl
    | 4, _ =>
      refine ⟨by show 59 < 322; omega, by show fiLf c (59) = some 4; unfold fiLf; rw [if_neg (show ¬ 59 = 0 by omega)]; rw [if_neg (show ¬ 59 = 1 by omega)]; rw [if_neg (show ¬ 59 = 2 by omega)]; rw [if_neg (show ¬ 59 = 58 by omega)]; rw [if_pos rfl], ?_⟩
      rfl
    | 5, _ =>
      refine ⟨by show c < 322; omega, by show fiLf c (c) = some 5; unfold fiLf; rw [if_neg (show ¬ c = 0 by omega)]; rw [if_neg (show ¬ c = 1 by omega)]; rw [if_neg (show ¬ c = 2 by omega)]; rw [if_neg (show ¬ c = 58 by omega)]; rw [if_neg (show ¬ c = 59 by omega)]; rw [if_pos rfl], ?_⟩
      exact e
  · unfold fiLf at h
    by_cases a0 : i = 0
    · rw [if_pos a0] at h; cases h; exact ⟨by decide, a0.symm⟩
    rw [if_neg a0] at h
    by_cases a1 : i = 1
    · rw [if_pos a1] at h; cases h; exact ⟨by decide, a1.symm⟩
    rw [if_neg a1] at h
    by_cases a2 : i = 2
    · rw [if_pos a2] at h; cases h; exact ⟨by decide, a2.symm⟩
    rw [if_neg a2] at h
    by_cases a3 : i = 58
    · rw [if_pos a3] at h; cases h; exact ⟨by decide, a3.symm⟩
    rw [if_neg a3] at h
    by_cases a4 : i = 59
    · rw [if_pos a4] at h; cases h; exact ⟨by decide, a4.symm⟩
    rw [if_neg a4] at h
    by_cases a5 : i = c
    · rw [if_pos a5] at h; cases h; exact ⟨by decide, a5.symm⟩
    rw [if_neg a5] at h
    cases h
def fTc (tr : Nat) : Nat → Nat
  | 0 => 0
  | 1 => 1
  | 2 => 2
  | 3 => 38 + 3 * tr
  | 4 => 39 + 3 * tr
  | 5 => 40 + 3 * tr
  | k + 6 => 182 + 24 * tr + k
def fiTc (tr : Nat) (i : Nat) : Option Nat := if i = 0 then some 0 else if i = 1 then some 1 else if i = 2 then some 2 else if i = 38 + 3 * tr then some 3 else if i = 39 + 3 * tr then some 4 else if i = 40 + 3 * tr then some 5 else if 182 + 24 * tr ≤ i ∧ i < 182 + 24 * tr + 24 then some (i - (182 + 24 * tr) + 6) else none
theorem lieTc (tr : Nat) (htr : tr < 4) : Lie 322 skD 30 (skTc) (fTc tr) (fiTc tr) := by
  refine ⟨fun k hk => ?_, fun i k h => ?_⟩
  · match k, hk with
    | 0, _ =>
      refine ⟨by show 0 < 322; omega, by show fiTc tr (0) = some 0; unfold fiTc; rw [if_pos rfl], ?_⟩
      rfl
    | 1, _ =>
      refine ⟨by show 1 < 322; omega, by show fiTc tr (1) = some 1; unfold fiTc; rw [if_neg (show ¬ 1 = 0 by omega)]; rw [if_pos rfl], ?_⟩
      rfl
    | 2, _ =>
      refine ⟨by show 2 < 322; omega, by show fiTc tr (2) = some 2; unfold fiTc; rw [if_neg (show ¬ 2 = 0 by omega)]; rw [if_neg (show ¬ 2 = 1 by omega)]; rw [if_pos rfl], ?_⟩
      rfl
    | 3, _ =>
      refine ⟨by show 38 + 3 * tr < 322; omega, by show fiTc tr (38 + 3 * tr) = some 3; unfold fiTc; rw [if_neg (show ¬ 38 + 3 * tr = 0 by omega)]; rw [if_neg (show ¬ 38 + 3 * tr = 1 by omega)]; rw [if_neg (show ¬ 38 + 3 * tr = 2 by omega)]; rw [if_pos rfl], ?_⟩
      show skD (38 + 3 * tr) = _; rw [skD_T _ htr]; rfl
    | 4, _ =>
      refine ⟨by show 39 + 3 * tr < 322; omega, by show fiTc tr (39 + 3 * tr) = some 4; unfold fiTc; rw [if_neg (show ¬ 39 + 3 * tr = 0 by omega)]; rw [if_neg (show ¬ 39 + 3 * tr = 1 by omega)]; rw [if_neg (show ¬ 39 + 3 * tr = 2 by omega)]; rw [if_neg (show ¬ 39 + 3 * tr = 38 + 3 * tr by omega)]; rw [if_pos rfl], ?_⟩
      show skD (39 + 3 * tr) = _; rw [skD_Tk _ htr]; rfl
    | 5, _ =>
      refine ⟨by show 40 + 3 * tr < 322; omega, by show fiTc tr (40 + 3 * tr) = some 5; unfold fiTc; rw [if_neg (show ¬ 40 + 3 * tr = 0 by omega)]; rw [if_neg (show ¬ 40 + 3 * tr = 1 by omega)]; rw [if_neg (show ¬ 40 + 3 * tr = 2 by omega)]; rw [if_neg (show ¬ 40 + 3 * tr = 38 + 3 * tr by omega)]; rw [if_neg (show ¬ 40 + 3 * tr = 39 + 3 * tr by omega)]; rw [if_pos rfl], ?_⟩
      show skD (40 + 3 * tr) = Sum.inr (5, 24, fun q9 => some (fTc tr (6 + q9))); rw [skD_Tn _ htr]; congr 3; funext q9; rw [Nat.add_comm 6 q9]; rfl
    | k + 6, hk =>
      refine ⟨by show 182 + 24 * tr + k < 322; omega, by show fiTc tr (182 + 24 * tr + k) = some (k + 6); unfold fiTc; rw [if_neg (show ¬ 182 + 24 * tr + k = 0 by omega)]; rw [if_neg (show ¬ 182 + 24 * tr + k = 1 by omega)]; rw [if_neg (show ¬ 182 + 24 * tr + k = 2 by omega)]; rw [if_neg (show ¬ 182 + 24 * tr + k = 38 + 3 * tr by omega)]; rw [if_neg (show ¬ 182 + 24 * tr + k = 39 + 3 * tr by omega)]; rw [if_neg (show ¬ 182 + 24 * tr + k = 40 + 3 * tr by omega)]; rw [if_pos (by omega)]; congr 1; omega, ?_⟩
      show skD (182 + 24 * tr + k) = _
      rw [skD_t _ _ htr (by omega)]; rfl
  · unfold fiTc at h
    by_cases a0 : i = 0
    · rw [if_pos a0] at h; cases h; exact ⟨by decide, a0.symm⟩
    rw [if_neg a0] at h
    by_cases a1 : i = 1
    · rw [if_pos a1] at h; cases h; exact ⟨by decide, a1.symm⟩
    rw [if_neg a1] at h
    by_cases a2 : i = 2
    · rw [if_pos a2] at h; cases h; exact ⟨by decide, a2.symm⟩
    rw [if_neg a2] at h
    by_cases a3 : i = 38 + 3 * tr
    · rw [if_pos a3] at h; cases h; exact ⟨by decide, a3.symm⟩
    rw [if_neg a3] at h
    by_cases a4 : i = 39 + 3 * tr
    · rw [if_pos a4] at h; cases h; exact ⟨by decide, a4.symm⟩
    rw [if_neg a4] at h
    by_cases a5 : i = 40 + 3 * tr
    · rw [if_pos a5] at h; cases h; exact ⟨by decide, a5.symm⟩
    rw [if_neg a5] at h
    by_cases b : 182 + 24 * tr ≤ i ∧ i < 182 + 24 * tr + 24
    · rw [if_pos b] at h; cases h
      refine ⟨by omega, ?_⟩
      show 182 + 24 * tr + (i - (182 + 24 * tr)) = i
      omega
    rw [if_neg b] at h
    cases h
def fPg (tr : Nat) : Nat → Nat
  | 0 => 50
  | 1 => 51
  | 2 => 38 + 3 * tr
  | 3 => 39 + 3 * tr
  | 4 => 40 + 3 * tr
  | 5 => 278
  | 6 => 279
  | 7 => 280
  | 8 => 281
  | k + 9 => 182 + 24 * tr + k
def fiPg (tr : Nat) (i : Nat) : Option Nat := if i = 50 then some 0 else if i = 51 then some 1 else if i = 38 + 3 * tr then some 2 else if i = 39 + 3 * tr then some 3 else if i = 40 + 3 * tr then some 4 else if i = 278 then some 5 else if i = 279 then some 6 else if i = 280 then some 7 else if i = 281 then some 8 else if 182 + 24 * tr ≤ i ∧ i < 182 + 24 * tr + 24 then some (i - (182 + 24 * tr) + 9) else none
theorem liePg (tr : Nat) (htr : tr < 4) : Lie 322 skD 33 (skPg) (fPg tr) (fiPg tr) := by
  refine ⟨fun k hk => ?_, fun i k h => ?_⟩
  · match k, hk with
    | 0, _ =>
      refine ⟨by show 50 < 322; omega, by show fiPg tr (50) = some 0; unfold fiPg; rw [if_pos rfl], ?_⟩
      rfl
    | 1, _ =>
      refine ⟨by show 51 < 322; omega, by show fiPg tr (51) = some 1; unfold fiPg; rw [if_neg (show ¬ 51 = 50 by omega)]; rw [if_pos rfl], ?_⟩
      show (Sum.inr (5, 4, fun j => if j < 4 then some (278 + j) else none) : wK) = Sum.inr (5, 4, fun j => (if j < 4 then some (5 + j) else none).map (fPg tr)); congr 3; funext j; by_cases h4 : j < 4; (rw [if_pos h4, if_pos h4]; rcases (show j = 0 ∨ j = 1 ∨ j = 2 ∨ j = 3 by omega) with rfl | rfl | rfl | rfl <;> rfl); (rw [if_neg h4, if_neg h4]; rfl)
    | 2, _ =>
      refine ⟨by show 38 + 3 * tr < 322; omega, by show fiPg tr (38 + 3 * tr) = some 2; unfold fiPg; rw [if_neg (show ¬ 38 + 3 * tr = 50 by omega)]; rw [if_neg (show ¬ 38 + 3 * tr = 51 by omega)]; rw [if_pos rfl], ?_⟩
      show skD (38 + 3 * tr) = _; rw [skD_T _ htr]; rfl
    | 3, _ =>
      refine ⟨by show 39 + 3 * tr < 322; omega, by show fiPg tr (39 + 3 * tr) = some 3; unfold fiPg; rw [if_neg (show ¬ 39 + 3 * tr = 50 by omega)]; rw [if_neg (show ¬ 39 + 3 * tr = 51 by omega)]; rw [if_neg (show ¬ 39 + 3 * tr = 38 + 3 * tr by omega)]; rw [if_pos rfl], ?_⟩
      show skD (39 + 3 * tr) = _; rw [skD_Tk _ htr]; rfl
    | 4, _ =>
      refine ⟨by show 40 + 3 * tr < 322; omega, by show fiPg tr (40 + 3 * tr) = some 4; unfold fiPg; rw [if_neg (show ¬ 40 + 3 * tr = 50 by omega)]; rw [if_neg (show ¬ 40 + 3 * tr = 51 by omega)]; rw [if_neg (show ¬ 40 + 3 * tr = 38 + 3 * tr by omega)]; rw [if_neg (show ¬ 40 + 3 * tr = 39 + 3 * tr by omega)]; rw [if_pos rfl], ?_⟩
      show skD (40 + 3 * tr) = Sum.inr (5, 24, fun q9 => some (fPg tr (9 + q9))); rw [skD_Tn _ htr]; congr 3; funext q9; rw [Nat.add_comm 9 q9]; rfl
    | 5, _ =>
      refine ⟨by show 278 < 322; omega, by show fiPg tr (278) = some 5; unfold fiPg; rw [if_neg (show ¬ 278 = 50 by omega)]; rw [if_neg (show ¬ 278 = 51 by omega)]; rw [if_neg (show ¬ 278 = 38 + 3 * tr by omega)]; rw [if_neg (show ¬ 278 = 39 + 3 * tr by omega)]; rw [if_neg (show ¬ 278 = 40 + 3 * tr by omega)]; rw [if_pos rfl], ?_⟩
      rfl
    | 6, _ =>
      refine ⟨by show 279 < 322; omega, by show fiPg tr (279) = some 6; unfold fiPg; rw [if_neg (show ¬ 279 = 50 by omega)]; rw [if_neg (show ¬ 279 = 51 by omega)]; rw [if_neg (show ¬ 279 = 38 + 3 * tr by omega)]; rw [if_neg (show ¬ 279 = 39 + 3 * tr by omega)]; rw [if_neg (show ¬ 279 = 40 + 3 * tr by omega)]; rw [if_neg (show ¬ 279 = 278 by omega)]; rw [if_pos rfl], ?_⟩
      rfl
    | 7, _ =>
      refine ⟨by show 280 < 322; omega, by show fiPg tr (280) = some 7; unfold fiPg; rw [if_neg (show ¬ 280 = 50 by omega)]; rw [if_neg (show ¬ 280 = 51 by omega)]; rw [if_neg (show ¬ 280 = 38 + 3 * tr by omega)]; rw [if_neg (show ¬ 280 = 39 + 3 * tr by omega)]; rw [if_neg (show ¬ 280 = 40 + 3 * tr by omega)]; rw [if_neg (show ¬ 280 = 278 by omega)]; rw [if_neg (show ¬ 280 = 279 by omega)]; rw [if_pos rfl], ?_⟩
      rfl
    | 8, _ =>
      refine ⟨by show 281 < 322; omega, by show fiPg tr (281) = some 8; unfold fiPg; rw [if_neg (show ¬ 281 = 50 by omega)]; rw [if_neg (show ¬ 281 = 51 by omega)]; rw [if_neg (show ¬ 281 = 38 + 3 * tr by omega)]; rw [if_neg (show ¬ 281 = 39 + 3 * tr by omega)]; rw [if_neg (show ¬ 281 = 40 + 3 * tr by omega)]; rw [if_neg (show ¬ 281 = 278 by omega)]; rw [if_neg (show ¬ 281 = 279 by omega)]; rw [if_neg (show ¬ 281 = 280 by omega)]; rw [if_pos rfl], ?_⟩
      rfl
    | k + 9, hk =>
      refine ⟨by show 182 + 24 * tr + k < 322; omega, by show fiPg tr (182 + 24 * tr + k) = some (k + 9); unfold fiPg; rw [if_neg (show ¬ 182 + 24 * tr + k = 50 by omega)]; rw [if_neg (show ¬ 182 + 24 * tr + k = 51 by omega)]; rw [if_neg (show ¬ 182 + 24 * tr + k = 38 + 3 * tr by omega)]; rw [if_neg (show ¬ 182 + 24 * tr + k = 39 + 3 * tr by omega)]; rw [if_neg (show ¬ 182 + 24 * tr + k = 40 + 3 * tr by omega)]; rw [if_neg (show ¬ 182 + 24 * tr + k = 278 by omega)]; rw [if_neg (show ¬ 182 + 24 * tr + k = 279 by omega)]; rw [if_neg (show ¬ 182 + 24 * tr + k = 280 by omega)]; rw [if_neg (show ¬ 182 + 24 * tr + k = 281 by omega)]; rw [if_pos (by omega)]; congr 1; omega, ?_⟩
      show skD (182 + 24 * tr + k) = _
      rw [skD_t _ _ htr (by omega)]; rfl
  · unfold fiPg at h
    by_cases a0 : i = 50
    · rw [if_pos a0] at h; cases h; exact ⟨by decide, a0.symm⟩
    rw [if_neg a0] at h
    by_cases a1 : i = 51
    · rw [if_pos a1] at h; cases h; exact ⟨by decide, a1.symm⟩
    rw [if_neg a1] at h
    by_cases a2 : i = 38 + 3 * tr
    · rw [if_pos a2] at h; cases h; exact ⟨by decide, a2.symm⟩
    rw [if_neg a2] at h
    by_cases a3 : i = 39 + 3 * tr
    · rw [if_pos a3] at h; cases h; exact ⟨by decide, a3.symm⟩
    rw [if_neg a3] at h
    by_cases a4 : i = 40 + 3 * tr
    · rw [if_pos a4] at h; cases h; exact ⟨by decide, a4.symm⟩
    rw [if_neg a4] at h
    by_cases a5 : i = 278
    · rw [if_pos a5] at h; cases h; exact ⟨by decide, a5.symm⟩
    rw [if_neg a5] at h
    by_cases a6 : i = 279
    · rw [if_pos a6] at h; cases h; exact ⟨by decide, a6.symm⟩
    rw [if_neg a6] at h
    by_cases a7 : i = 280
    · rw [if_pos a7] at h; cases h; exact ⟨by decide, a7.symm⟩
    rw [if_neg a7] at h
    by_cases a8 : i = 281
    · rw [if_pos a8] at h; cases h; exact ⟨by decide, a8.symm⟩
    rw [if_neg a8] at h
    by_cases b : 182 + 24 * tr ≤ i ∧ i < 182 + 24 * tr + 24
    · rw [if_pos b] at h; cases h
      refine ⟨by omega, ?_⟩
      show 182 + 24 * tr + (i - (182 + 24 * tr)) = i
      omega
    rw [if_neg b] at h
    cases h
def fPf : Nat → Nat
  | 0 => 0
  | 1 => 1
  | 2 => 2
  | 3 => 50
  | 4 => 51
  | 5 => 56
  | 6 => 278
  | 7 => 279
  | 8 => 280
  | 9 => 281
  | k + 10 => k
def fiPf (i : Nat) : Option Nat := if i = 0 then some 0 else if i = 1 then some 1 else if i = 2 then some 2 else if i = 50 then some 3 else if i = 51 then some 4 else if i = 56 then some 5 else if i = 278 then some 6 else if i = 279 then some 7 else if i = 280 then some 8 else if i = 281 then some 9 else none
theorem liePf : Lie 322 skD 10 (skPf) (fPf) (fiPf) := by
  refine ⟨fun k hk => ?_, fun i k h => ?_⟩
  · match k, hk with
    | 0, _ =>
      refine ⟨by show 0 < 322; omega, by show fiPf (0) = some 0; unfold fiPf; rw [if_pos rfl], ?_⟩
      rfl
    | 1, _ =>
      refine ⟨by show 1 < 322; omega, by show fiPf (1) = some 1; unfold fiPf; rw [if_neg (show ¬ 1 = 0 by omega)]; rw [if_pos rfl], ?_⟩
      rfl
    | 2, _ =>
      refine ⟨by show 2 < 322; omega, by show fiPf (2) = some 2; unfold fiPf; rw [if_neg (show ¬ 2 = 0 by omega)]; rw [if_neg (show ¬ 2 = 1 by omega)]; rw [if_pos rfl], ?_⟩
      rfl
    | 3, _ =>
      refine ⟨by show 50 < 322; omega, by show fiPf (50) = some 3; unfold fiPf; rw [if_neg (show ¬ 50 = 0 by omega)]; rw [if_neg (show ¬ 50 = 1 by omega)]; rw [if_neg (show ¬ 50 = 2 by omega)]; rw [if_pos rfl], ?_⟩
      rfl
    | 4, _ =>
      refine ⟨by show 51 < 322; omega, by show fiPf (51) = some 4; unfold fiPf; rw [if_neg (show ¬ 51 = 0 by omega)]; rw [if_neg (show ¬ 51 = 1 by omega)]; rw [if_neg (show ¬ 51 = 2 by omega)]; rw [if_neg (show ¬ 51 = 50 by omega)]; rw [if_pos rfl], ?_⟩
      show (Sum.inr (5, 4, fun j => if j < 4 then some (278 + j) else none) : wK) = Sum.inr (5, 4, fun j => (if j < 4 then some (6 + j) else none).map (fPf)); congr 3; funext j; by_cases h4 : j < 4; (rw [if_pos h4, if_pos h4]; rcases (show j = 0 ∨ j = 1 ∨ j = 2 ∨ j = 3 by omega) with rfl | rfl | rfl | rfl <;> rfl); (rw [if_neg h4, if_neg h4]; rfl)
    | 5, _ =>
      refine ⟨by show 56 < 322; omega, by show fiPf (56) = some 5; unfold fiPf; rw [if_neg (show ¬ 56 = 0 by omega)]; rw [if_neg (show ¬ 56 = 1 by omega)]; rw [if_neg (show ¬ 56 = 2 by omega)]; rw [if_neg (show ¬ 56 = 50 by omega)]; rw [if_neg (show ¬ 56 = 51 by omega)]; rw [if_pos rfl], ?_⟩
      rfl
    | 6, _ =>
      refine ⟨by show 278 < 322; omega, by show fiPf (278) = some 6; unfold fiPf; rw [if_neg (show ¬ 278 = 0 by omega)]; rw [if_neg (show ¬ 278 = 1 by omega)]; rw [if_neg (show ¬ 278 = 2 by omega)]; rw [if_neg (show ¬ 278 = 50 by omega)]; rw [if_neg (show ¬ 278 = 51 by omega)]; rw [if_neg (show ¬ 278 = 56 by omega)]; rw [if_pos rfl], ?_⟩
      rfl
    | 7, _ =>
      refine ⟨by show 279 < 322; omega, by show fiPf (279) = some 7; unfold fiPf; rw [if_neg (show ¬ 279 = 0 by omega)]; rw [if_neg (show ¬ 279 = 1 by omega)]; rw [if_neg (show ¬ 279 = 2 by omega)]; rw [if_neg (show ¬ 279 = 50 by omega)]; rw [if_neg (show ¬ 279 = 51 by omega)]; rw [if_neg (show ¬ 279 = 56 by omega)]; rw [if_neg (show ¬ 279 = 278 by omega)]; rw [if_pos rfl], ?_⟩
      rfl
    | 8, _ =>
      refine ⟨by show 280 < 322; omega, by show fiPf (280) = some 8; unfold fiPf; rw [if_neg (show ¬ 280 = 0 by omega)]; rw [if_neg (show ¬ 280 = 1 by omega)]; rw [if_neg (show ¬ 280 = 2 by omega)]; rw [if_neg (show ¬ 280 = 50 by omega)]; rw [if_neg (show ¬ 280 = 51 by omega)]; rw [if_neg (show ¬ 280 = 56 by omega)]; rw [if_neg (show ¬ 280 = 278 by omega)]; rw [if_neg (show ¬ 280 = 279 by omega)]; rw [if_pos rfl], ?_⟩
      rfl
    | 9, _ =>
      refine ⟨by show 281 < 322; omega, by show fiPf (281) = some 9; unfold fiPf; rw [if_neg (show ¬ 281 = 0 by omega)]; rw [if_neg (show ¬ 281 = 1 by omega)]; rw [if_neg (show ¬ 281 = 2 by omega)]; rw [if_neg (show ¬ 281 = 50 by omega)]; rw [if_neg (show ¬ 281 = 51 by omega)]; rw [if_neg (show ¬ 281 = 56 by omega)]; rw [if_neg (show ¬ 281 = 278 by omega)]; rw [if_neg (show ¬ 281 = 279 by omega)]; rw [if_neg (show ¬ 281 = 280 by omega)]; rw [if_pos rfl], ?_⟩
      rfl
  · unfold fiPf at h
    by_cases a0 : i = 0
    · rw [if_pos a0] at h; cases h; exact ⟨by decide, a0.symm⟩
    rw [if_neg a0] at h
    by_cases a1 : i = 1
    · rw [if_pos a1] at h; cases h; exact ⟨by decide, a1.symm⟩
    rw [if_neg a1] at h
    by_cases a2 : i = 2
    · rw [if_pos a2] at h; cases h; exact ⟨by decide, a2.symm⟩
    rw [if_neg a2] at h
    by_cases a3 : i = 50
    · rw [if_pos a3] at h; cases h; exact ⟨by decide, a3.symm⟩
    rw [if_neg a3] at h
    by_cases a4 : i = 51
    · rw [if_pos a4] at h; cases h; exact ⟨by decide, a4.symm⟩
    rw [if_neg a4] at h
    by_cases a5 : i = 56
    · rw [if_pos a5] at h; cases h; exact ⟨by decide, a5.symm⟩
    rw [if_neg a5] at h
    by_cases a6 : i = 278
    · rw [if_pos a6] at h; cases h; exact ⟨by decide, a6.symm⟩
    rw [if_neg a6] at h
    by_cases a7 : i = 279
    · rw [if_pos a7] at h; cases h; exact ⟨by decide, a7.symm⟩
    rw [if_neg a7] at h
    by_cases a8 : i = 280
    · rw [if_pos a8] at h; cases h; exact ⟨by decide, a8.symm⟩
    rw [if_neg a8] at h
    by_cases a9 : i = 281
    · rw [if_pos a9] at h; cases h; exact ⟨by decide, a9.symm⟩
    rw [if_neg a9] at h
    cases h
def fSs : Nat → Nat
  | 0 => 52
  | 1 => 53
  | 2 => 54
  | 3 => 55
  | 4 => 58
  | 5 => 59
  | k + 6 => 282 + k
def fiSs (i : Nat) : Option Nat := if i = 52 then some 0 else if i = 53 then some 1 else if i = 54 then some 2 else if i = 55 then some 3 else if i = 58 then some 4 else if i = 59 then some 5 else if 282 ≤ i ∧ i < 282 + 40 then some (i - (282) + 6) else none
theorem lieSs : Lie 322 skD 46 (skSs) (fSs) (fiSs) := by
  refine ⟨fun k hk => ?_, fun i k h => ?_⟩
  · match k, hk with
    | 0, _ =>
      refine ⟨by show 52 < 322; omega, by show fiSs (52) = some 0; unfold fiSs; rw [if_pos rfl], ?_⟩
      rfl
    | 1, _ =>
      refine ⟨by show 53 < 322; omega, by show fiSs (53) = some 1; unfold fiSs; rw [if_neg (show ¬ 53 = 52 by omega)]; rw [if_pos rfl], ?_⟩
      show (Sum.inr (5, 40, fun q9 => some (282 + q9)) : wK) = Sum.inr (5, 40, fun q9 => some (fSs (6 + q9))); congr 3; funext q9; rw [Nat.add_comm 6 q9]; rfl
    | 2, _ =>
      refine ⟨by show 54 < 322; omega, by show fiSs (54) = some 2; unfold fiSs; rw [if_neg (show ¬ 54 = 52 by omega)]; rw [if_neg (show ¬ 54 = 53 by omega)]; rw [if_pos rfl], ?_⟩
      rfl
    | 3, _ =>
      refine ⟨by show 55 < 322; omega, by show fiSs (55) = some 3; unfold fiSs; rw [if_neg (show ¬ 55 = 52 by omega)]; rw [if_neg (show ¬ 55 = 53 by omega)]; rw [if_neg (show ¬ 55 = 54 by omega)]; rw [if_pos rfl], ?_⟩
      rfl
    | 4, _ =>
      refine ⟨by show 58 < 322; omega, by show fiSs (58) = some 4; unfold fiSs; rw [if_neg (show ¬ 58 = 52 by omega)]; rw [if_neg (show ¬ 58 = 53 by omega)]; rw [if_neg (show ¬ 58 = 54 by omega)]; rw [if_neg (show ¬ 58 = 55 by omega)]; rw [if_pos rfl], ?_⟩
      rfl
    | 5, _ =>
      refine ⟨by show 59 < 322; omega, by show fiSs (59) = some 5; unfold fiSs; rw [if_neg (show ¬ 59 = 52 by omega)]; rw [if_neg (show ¬ 59 = 53 by omega)]; rw [if_neg (show ¬ 59 = 54 by omega)]; rw [if_neg (show ¬ 59 = 55 by omega)]; rw [if_neg (show ¬ 59 = 58 by omega)]; rw [if_pos rfl], ?_⟩
      rfl
    | k + 6, hk =>
      refine ⟨by show 282 + k < 322; omega, by show fiSs (282 + k) = some (k + 6); unfold fiSs; rw [if_neg (show ¬ 282 + k = 52 by omega)]; rw [if_neg (show ¬ 282 + k = 53 by omega)]; rw [if_neg (show ¬ 282 + k = 54 by omega)]; rw [if_neg (show ¬ 282 + k = 55 by omega)]; rw [if_neg (show ¬ 282 + k = 58 by omega)]; rw [if_neg (show ¬ 282 + k = 59 by omega)]; rw [if_pos (by omega)]; congr 1; omega, ?_⟩
      show skD (282 + k) = _
      rw [skD_s _ (by omega)]; rfl
  · unfold fiSs at h
    by_cases a0 : i = 52
    · rw [if_pos a0] at h; cases h; exact ⟨by decide, a0.symm⟩
    rw [if_neg a0] at h
    by_cases a1 : i = 53
    · rw [if_pos a1] at h; cases h; exact ⟨by decide, a1.symm⟩
    rw [if_neg a1] at h
    by_cases a2 : i = 54
    · rw [if_pos a2] at h; cases h; exact ⟨by decide, a2.symm⟩
    rw [if_neg a2] at h
    by_cases a3 : i = 55
    · rw [if_pos a3] at h; cases h; exact ⟨by decide, a3.symm⟩
    rw [if_neg a3] at h
    by_cases a4 : i = 58
    · rw [if_pos a4] at h; cases h; exact ⟨by decide, a4.symm⟩
    rw [if_neg a4] at h
    by_cases a5 : i = 59
    · rw [if_pos a5] at h; cases h; exact ⟨by decide, a5.symm⟩
    rw [if_neg a5] at h
    by_cases b : 282 ≤ i ∧ i < 282 + 40
    · rw [if_pos b] at h; cases h
      refine ⟨by omega, ?_⟩
      show 282 + (i - (282)) = i
      omega
    rw [if_neg b] at h
    cases h
def fSh : Nat → Nat
  | 0 => 31
  | 1 => 32
  | 2 => 33
  | 3 => 34
  | 4 => 35
  | 5 => 36
  | k + 6 => 62 + k
def fiSh (i : Nat) : Option Nat := if i = 31 then some 0 else if i = 32 then some 1 else if i = 33 then some 2 else if i = 34 then some 3 else if i = 35 then some 4 else if i = 36 then some 5 else if 62 ≤ i ∧ i < 62 + 120 then some (i - (62) + 6) else none
theorem lieSh : Lie 322 skD 126 (skSh) (fSh) (fiSh) := by
  refine ⟨fun k hk => ?_, fun i k h => ?_⟩
  · match k, hk with
    | 0, _ =>
      refine ⟨by show 31 < 322; omega, by show fiSh (31) = some 0; unfold fiSh; rw [if_pos rfl], ?_⟩
      rfl
    | 1, _ =>
      refine ⟨by show 32 < 322; omega, by show fiSh (32) = some 1; unfold fiSh; rw [if_neg (show ¬ 32 = 31 by omega)]; rw [if_pos rfl], ?_⟩
      show (Sum.inr (5, 60, fun q9 => some (62 + q9)) : wK) = Sum.inr (5, 60, fun q9 => some (fSh (6 + q9))); congr 3; funext q9; rw [Nat.add_comm 6 q9]; rfl
    | 2, _ =>
      refine ⟨by show 33 < 322; omega, by show fiSh (33) = some 2; unfold fiSh; rw [if_neg (show ¬ 33 = 31 by omega)]; rw [if_neg (show ¬ 33 = 32 by omega)]; rw [if_pos rfl], ?_⟩
      show (Sum.inr (6, 60, fun j => some (122 + j)) : wK) = Sum.inr (6, 60, fun j => some (fSh (66 + j))); congr 3; funext j; rw [show 66 + j = (60 + j) + 6 by omega]; show some (122 + j) = some (62 + (60 + j)); congr 1; omega
    | 3, _ =>
      refine ⟨by show 34 < 322; omega, by show fiSh (34) = some 3; unfold fiSh; rw [if_neg (show ¬ 34 = 31 by omega)]; rw [if_neg (show ¬ 34 = 32 by omega)]; rw [if_neg (show ¬ 34 = 33 by omega)]; rw [if_pos rfl], ?_⟩
      rfl
    | 4, _ =>
      refine ⟨by show 35 < 322; omega, by show fiSh (35) = some 4; unfold fiSh; rw [if_neg (show ¬ 35 = 31 by omega)]; rw [if_neg (show ¬ 35 = 32 by omega)]; rw [if_neg (show ¬ 35 = 33 by omega)]; rw [if_neg (show ¬ 35 = 34 by omega)]; rw [if_pos rfl], ?_⟩
      rfl
    | 5, _ =>
      refine ⟨by show 36 < 322; omega, by show fiSh (36) = some 5; unfold fiSh; rw [if_neg (show ¬ 36 = 31 by omega)]; rw [if_neg (show ¬ 36 = 32 by omega)]; rw [if_neg (show ¬ 36 = 33 by omega)]; rw [if_neg (show ¬ 36 = 34 by omega)]; rw [if_neg (show ¬ 36 = 35 by omega)]; rw [if_pos rfl], ?_⟩
      rfl
    | k + 6, hk =>
      refine ⟨by show 62 + k < 322; omega, by show fiSh (62 + k) = some (k + 6); unfold fiSh; rw [if_neg (show ¬ 62 + k = 31 by omega)]; rw [if_neg (show ¬ 62 + k = 32 by omega)]; rw [if_neg (show ¬ 62 + k = 33 by omega)]; rw [if_neg (show ¬ 62 + k = 34 by omega)]; rw [if_neg (show ¬ 62 + k = 35 by omega)]; rw [if_neg (show ¬ 62 + k = 36 by omega)]; rw [if_pos (by omega)]; congr 1; omega, ?_⟩
      show skD (62 + k) = _
      by_cases h6 : k < 60; (rw [skD_b _ h6]; show _ = rn fSh (if k + 6 < 66 then _ else _); rw [if_pos (by omega)]; rfl); (rw [show 62 + k = 122 + (k - 60) by omega, skD_l _ (by omega)]; show _ = rn fSh (if k + 6 < 66 then _ else _); rw [if_neg (by omega)]; rfl)
  · unfold fiSh at h
    by_cases a0 : i = 31
    · rw [if_pos a0] at h; cases h; exact ⟨by decide, a0.symm⟩
    rw [if_neg a0] at h
    by_cases a1 : i = 32
    · rw [if_pos a1] at h; cases h; exact ⟨by decide, a1.symm⟩
    rw [if_neg a1] at h
    by_cases a2 : i = 33
    · rw [if_pos a2] at h; cases h; exact ⟨by decide, a2.symm⟩
    rw [if_neg a2] at h
    by_cases a3 : i = 34
    · rw [if_pos a3] at h; cases h; exact ⟨by decide, a3.symm⟩
    rw [if_neg a3] at h
    by_cases a4 : i = 35
    · rw [if_pos a4] at h; cases h; exact ⟨by decide, a4.symm⟩
    rw [if_neg a4] at h
    by_cases a5 : i = 36
    · rw [if_pos a5] at h; cases h; exact ⟨by decide, a5.symm⟩
    rw [if_neg a5] at h
    by_cases b : 62 ≤ i ∧ i < 62 + 120
    · rw [if_pos b] at h; cases h
      refine ⟨by omega, ?_⟩
      show 62 + (i - (62)) = i
      omega
    rw [if_neg b] at h
    cases h
def fDA : Nat → Nat
  | 0 => 0
  | 1 => 1
  | 2 => 2
  | 3 => 31
  | 4 => 32
  | 5 => 33
  | 6 => 34
  | 7 => 35
  | 8 => 36
  | k + 9 => 62 + k
def fiDA (i : Nat) : Option Nat := if i = 0 then some 0 else if i = 1 then some 1 else if i = 2 then some 2 else if i = 31 then some 3 else if i = 32 then some 4 else if i = 33 then some 5 else if i = 34 then some 6 else if i = 35 then some 7 else if i = 36 then some 8 else if 62 ≤ i ∧ i < 62 + 120 then some (i - (62) + 9) else none
theorem lieDA : Lie 322 skD 129 (skSA) (fDA) (fiDA) := by
  refine ⟨fun k hk => ?_, fun i k h => ?_⟩
  · match k, hk with
    | 0, _ =>
      refine ⟨by show 0 < 322; omega, by show fiDA (0) = some 0; unfold fiDA; rw [if_pos rfl], ?_⟩
      rfl
    | 1, _ =>
      refine ⟨by show 1 < 322; omega, by show fiDA (1) = some 1; unfold fiDA; rw [if_neg (show ¬ 1 = 0 by omega)]; rw [if_pos rfl], ?_⟩
      rfl
    | 2, _ =>
      refine ⟨by show 2 < 322; omega, by show fiDA (2) = some 2; unfold fiDA; rw [if_neg (show ¬ 2 = 0 by omega)]; rw [if_neg (show ¬ 2 = 1 by omega)]; rw [if_pos rfl], ?_⟩
      rfl
    | 3, _ =>
      refine ⟨by show 31 < 322; omega, by show fiDA (31) = some 3; unfold fiDA; rw [if_neg (show ¬ 31 = 0 by omega)]; rw [if_neg (show ¬ 31 = 1 by omega)]; rw [if_neg (show ¬ 31 = 2 by omega)]; rw [if_pos rfl], ?_⟩
      rfl
    | 4, _ =>
      refine ⟨by show 32 < 322; omega, by show fiDA (32) = some 4; unfold fiDA; rw [if_neg (show ¬ 32 = 0 by omega)]; rw [if_neg (show ¬ 32 = 1 by omega)]; rw [if_neg (show ¬ 32 = 2 by omega)]; rw [if_neg (show ¬ 32 = 31 by omega)]; rw [if_pos rfl], ?_⟩
      show (Sum.inr (5, 60, fun q9 => some (62 + q9)) : wK) = Sum.inr (5, 60, fun q9 => some (fDA (9 + q9))); congr 3; funext q9; rw [Nat.add_comm 9 q9]; rfl
    | 5, _ =>
      refine ⟨by show 33 < 322; omega, by show fiDA (33) = some 5; unfold fiDA; rw [if_neg (show ¬ 33 = 0 by omega)]; rw [if_neg (show ¬ 33 = 1 by omega)]; rw [if_neg (show ¬ 33 = 2 by omega)]; rw [if_neg (show ¬ 33 = 31 by omega)]; rw [if_neg (show ¬ 33 = 32 by omega)]; rw [if_pos rfl], ?_⟩
      show (Sum.inr (6, 60, fun j => some (122 + j)) : wK) = Sum.inr (6, 60, fun j => some (fDA (69 + j))); congr 3; funext j; rw [show 69 + j = (60 + j) + 9 by omega]; show some (122 + j) = some (62 + (60 + j)); congr 1; omega
    | 6, _ =>
      refine ⟨by show 34 < 322; omega, by show fiDA (34) = some 6; unfold fiDA; rw [if_neg (show ¬ 34 = 0 by omega)]; rw [if_neg (show ¬ 34 = 1 by omega)]; rw [if_neg (show ¬ 34 = 2 by omega)]; rw [if_neg (show ¬ 34 = 31 by omega)]; rw [if_neg (show ¬ 34 = 32 by omega)]; rw [if_neg (show ¬ 34 = 33 by omega)]; rw [if_pos rfl], ?_⟩
      rfl
    | 7, _ =>
      refine ⟨by show 35 < 322; omega, by show fiDA (35) = some 7; unfold fiDA; rw [if_neg (show ¬ 35 = 0 by omega)]; rw [if_neg (show ¬ 35 = 1 by omega)]; rw [if_neg (show ¬ 35 = 2 by omega)]; rw [if_neg (show ¬ 35 = 31 by omega)]; rw [if_neg (show ¬ 35 = 32 by omega)]; rw [if_neg (show ¬ 35 = 33 by omega)]; rw [if_neg (show ¬ 35 = 34 by omega)]; rw [if_pos rfl], ?_⟩
      rfl
    | 8, _ =>
      refine ⟨by show 36 < 322; omega, by show fiDA (36) = some 8; unfold fiDA; rw [if_neg (show ¬ 36 = 0 by omega)]; rw [if_neg (show ¬ 36 = 1 by omega)]; rw [if_neg (show ¬ 36 = 2 by omega)]; rw [if_neg (show ¬ 36 = 31 by omega)]; rw [if_neg (show ¬ 36 = 32 by omega)]; rw [if_neg (show ¬ 36 = 33 by omega)]; rw [if_neg (show ¬ 36 = 34 by omega)]; rw [if_neg (show ¬ 36 = 35 by omega)]; rw [if_pos rfl], ?_⟩
      rfl
    | k + 9, hk =>
      refine ⟨by show 62 + k < 322; omega, by show fiDA (62 + k) = some (k + 9); unfold fiDA; rw [if_neg (show ¬ 62 + k = 0 by omega)]; rw [if_neg (show ¬ 62 + k = 1 by omega)]; rw [if_neg (show ¬ 62 + k = 2 by omega)]; rw [if_neg (show ¬ 62 + k = 31 by omega)]; rw [if_neg (show ¬ 62 + k = 32 by omega)]; rw [if_neg (show ¬ 62 + k = 33 by omega)]; rw [if_neg (show ¬ 62 + k = 34 by omega)]; rw [if_neg (show ¬ 62 + k = 35 by omega)]; rw [if_neg (show ¬ 62 + k = 36 by omega)]; rw [if_pos (by omega)]; congr 1; omega, ?_⟩
      show skD (62 + k) = _
      by_cases h6 : k < 60; (rw [skD_b _ h6]; rw [skSA_hi, if_neg (show ¬ k + 9 < 3 by omega), if_pos (show k + 9 < 69 by omega)]; rfl); (rw [show 62 + k = 122 + (k - 60) by omega, skD_l _ (by omega)]; rw [skSA_hi, if_neg (show ¬ k + 9 < 3 by omega), if_neg (show ¬ k + 9 < 69 by omega)]; rfl)
  · unfold fiDA at h
    by_cases a0 : i = 0
    · rw [if_pos a0] at h; cases h; exact ⟨by decide, a0.symm⟩
    rw [if_neg a0] at h
    by_cases a1 : i = 1
    · rw [if_pos a1] at h; cases h; exact ⟨by decide, a1.symm⟩
    rw [if_neg a1] at h
    by_cases a2 : i = 2
    · rw [if_pos a2] at h; cases h; exact ⟨by decide, a2.symm⟩
    rw [if_neg a2] at h
    by_cases a3 : i = 31
    · rw [if_pos a3] at h; cases h; exact ⟨by decide, a3.symm⟩
    rw [if_neg a3] at h
    by_cases a4 : i = 32
    · rw [if_pos a4] at h; cases h; exact ⟨by decide, a4.symm⟩
    rw [if_neg a4] at h
    by_cases a5 : i = 33
    · rw [if_pos a5] at h; cases h; exact ⟨by decide, a5.symm⟩
    rw [if_neg a5] at h
    by_cases a6 : i = 34
    · rw [if_pos a6] at h; cases h; exact ⟨by decide, a6.symm⟩
    rw [if_neg a6] at h
    by_cases a7 : i = 35
    · rw [if_pos a7] at h; cases h; exact ⟨by decide, a7.symm⟩
    rw [if_neg a7] at h
    by_cases a8 : i = 36
    · rw [if_pos a8] at h; cases h; exact ⟨by decide, a8.symm⟩
    rw [if_neg a8] at h
    by_cases b : 62 ≤ i ∧ i < 62 + 120
    · rw [if_pos b] at h; cases h
      refine ⟨by omega, ?_⟩
      show 62 + (i - (62)) = i
      omega
    rw [if_neg b] at h
    cases h
def fMg (j : Nat) (b : Nat) : Nat → Nat
  | 0 => 3 * j
  | 1 => 3 * j + 1
  | 2 => 3 * j + 2
  | 3 => 15 + 3 * j
  | 4 => 16 + 3 * j
  | 5 => 17 + 3 * j
  | 6 => b
  | 7 => b + 1
  | k + 8 => k
def fiMg (j : Nat) (b : Nat) (i : Nat) : Option Nat := if i = 3 * j then some 0 else if i = 3 * j + 1 then some 1 else if i = 3 * j + 2 then some 2 else if i = 15 + 3 * j then some 3 else if i = 16 + 3 * j then some 4 else if i = 17 + 3 * j then some 5 else if i = b then some 6 else if i = b + 1 then some 7 else none
theorem lieMg (j : Nat) (b : Nat) (hj : j < 5) (hb : b = 58 ∨ b = 60) : Lie 322 skD 8 (skMg) (fMg j b) (fiMg j b) := by
  refine ⟨fun k hk => ?_, fun i k h => ?_⟩
  · match k, hk with
    | 0, _ =>
      refine ⟨by show 3 * j < 322; omega, by show fiMg j b (3 * j) = some 0; unfold fiMg; rw [if_pos rfl], ?_⟩
      rcases (show j = 0 ∨ j = 1 ∨ j = 2 ∨ j = 3 ∨ j = 4 by omega) with rfl | rfl | rfl | rfl | rfl <;> rfl
    | 1, _ =>
      refine ⟨by show 3 * j + 1 < 322; omega, by show fiMg j b (3 * j + 1) = some 1; unfold fiMg; rw [if_neg (show ¬ 3 * j + 1 = 3 * j by omega)]; rw [if_pos rfl], ?_⟩
      rcases (show j = 0 ∨ j = 1 ∨ j = 2 ∨ j = 3 ∨ j = 4 by omega) with rfl | rfl | rfl | rfl | rfl <;> rfl
    | 2, _ =>
      refine ⟨by show 3 * j + 2 < 322; omega, by show fiMg j b (3 * j + 2) = some 2; unfold fiMg; rw [if_neg (show ¬ 3 * j + 2 = 3 * j by omega)]; rw [if_neg (show ¬ 3 * j + 2 = 3 * j + 1 by omega)]; rw [if_pos rfl], ?_⟩
      rcases (show j = 0 ∨ j = 1 ∨ j = 2 ∨ j = 3 ∨ j = 4 by omega) with rfl | rfl | rfl | rfl | rfl <;> rfl
    | 3, _ =>
      refine ⟨by show 15 + 3 * j < 322; omega, by show fiMg j b (15 + 3 * j) = some 3; unfold fiMg; rw [if_neg (show ¬ 15 + 3 * j = 3 * j by omega)]; rw [if_neg (show ¬ 15 + 3 * j = 3 * j + 1 by omega)]; rw [if_neg (show ¬ 15 + 3 * j = 3 * j + 2 by omega)]; rw [if_pos rfl], ?_⟩
      rcases (show j = 0 ∨ j = 1 ∨ j = 2 ∨ j = 3 ∨ j = 4 by omega) with rfl | rfl | rfl | rfl | rfl <;> rfl
    | 4, _ =>
      refine ⟨by show 16 + 3 * j < 322; omega, by show fiMg j b (16 + 3 * j) = some 4; unfold fiMg; rw [if_neg (show ¬ 16 + 3 * j = 3 * j by omega)]; rw [if_neg (show ¬ 16 + 3 * j = 3 * j + 1 by omega)]; rw [if_neg (show ¬ 16 + 3 * j = 3 * j + 2 by omega)]; rw [if_neg (show ¬ 16 + 3 * j = 15 + 3 * j by omega)]; rw [if_pos rfl], ?_⟩
      rcases (show j = 0 ∨ j = 1 ∨ j = 2 ∨ j = 3 ∨ j = 4 by omega) with rfl | rfl | rfl | rfl | rfl <;> rfl
    | 5, _ =>
      refine ⟨by show 17 + 3 * j < 322; omega, by show fiMg j b (17 + 3 * j) = some 5; unfold fiMg; rw [if_neg (show ¬ 17 + 3 * j = 3 * j by omega)]; rw [if_neg (show ¬ 17 + 3 * j = 3 * j + 1 by omega)]; rw [if_neg (show ¬ 17 + 3 * j = 3 * j + 2 by omega)]; rw [if_neg (show ¬ 17 + 3 * j = 15 + 3 * j by omega)]; rw [if_neg (show ¬ 17 + 3 * j = 16 + 3 * j by omega)]; rw [if_pos rfl], ?_⟩
      rcases (show j = 0 ∨ j = 1 ∨ j = 2 ∨ j = 3 ∨ j = 4 by omega) with rfl | rfl | rfl | rfl | rfl <;> rfl
    | 6, _ =>
      refine ⟨by show b < 322; omega, by show fiMg j b (b) = some 6; unfold fiMg; rw [if_neg (show ¬ b = 3 * j by omega)]; rw [if_neg (show ¬ b = 3 * j + 1 by omega)]; rw [if_neg (show ¬ b = 3 * j + 2 by omega)]; rw [if_neg (show ¬ b = 15 + 3 * j by omega)]; rw [if_neg (show ¬ b = 16 + 3 * j by omega)]; rw [if_neg (show ¬ b = 17 + 3 * j by omega)]; rw [if_pos rfl], ?_⟩
      rcases hb with rfl | rfl <;> rfl
    | 7, _ =>
      refine ⟨by show b + 1 < 322; omega, by show fiMg j b (b + 1) = some 7; unfold fiMg; rw [if_neg (show ¬ b + 1 = 3 * j by omega)]; rw [if_neg (show ¬ b + 1 = 3 * j + 1 by omega)]; rw [if_neg (show ¬ b + 1 = 3 * j + 2 by omega)]; rw [if_neg (show ¬ b + 1 = 15 + 3 * j by omega)]; rw [if_neg (show ¬ b + 1 = 16 + 3 * j by omega)]; rw [if_neg (show ¬ b + 1 = 17 + 3 * j by omega)]; rw [if_neg (show ¬ b + 1 = b by omega)]; rw [if_pos rfl], ?_⟩
      rcases hb with rfl | rfl <;> rfl
  · unfold fiMg at h
    by_cases a0 : i = 3 * j
    · rw [if_pos a0] at h; cases h; exact ⟨by decide, a0.symm⟩
    rw [if_neg a0] at h
    by_cases a1 : i = 3 * j + 1
    · rw [if_pos a1] at h; cases h; exact ⟨by decide, a1.symm⟩
    rw [if_neg a1] at h
    by_cases a2 : i = 3 * j + 2
    · rw [if_pos a2] at h; cases h; exact ⟨by decide, a2.symm⟩
    rw [if_neg a2] at h
    by_cases a3 : i = 15 + 3 * j
    · rw [if_pos a3] at h; cases h; exact ⟨by decide, a3.symm⟩
    rw [if_neg a3] at h
    by_cases a4 : i = 16 + 3 * j
    · rw [if_pos a4] at h; cases h; exact ⟨by decide, a4.symm⟩
    rw [if_neg a4] at h
    by_cases a5 : i = 17 + 3 * j
    · rw [if_pos a5] at h; cases h; exact ⟨by decide, a5.symm⟩
    rw [if_neg a5] at h
    by_cases a6 : i = b
    · rw [if_pos a6] at h; cases h; exact ⟨by decide, a6.symm⟩
    rw [if_neg a6] at h
    by_cases a7 : i = b + 1
    · rw [if_pos a7] at h; cases h; exact ⟨by decide, a7.symm⟩
    rw [if_neg a7] at h
    cases h
def fMf (j : Nat) : Nat → Nat
  | 0 => 3 * j
  | 1 => 3 * j + 1
  | 2 => 3 * j + 2
  | 3 => 15 + 3 * j
  | 4 => 16 + 3 * j
  | 5 => 17 + 3 * j
  | 6 => 60
  | 7 => 61
  | 8 => 31
  | 9 => 32
  | 10 => 33
  | 11 => 34
  | 12 => 35
  | 13 => 36
  | k + 14 => 62 + k
def fiMf (j : Nat) (i : Nat) : Option Nat := if i = 3 * j then some 0 else if i = 3 * j + 1 then some 1 else if i = 3 * j + 2 then some 2 else if i = 15 + 3 * j then some 3 else if i = 16 + 3 * j then some 4 else if i = 17 + 3 * j then some 5 else if i = 60 then some 6 else if i = 61 then some 7 else if i = 31 then some 8 else if i = 32 then some 9 else if i = 33 then some 10 else if i = 34 then some 11 else if i = 35 then some 12 else if i = 36 then some 13 else if 62 ≤ i ∧ i < 62 + 120 then some (i - (62) + 14) else none
theorem lieMf (j : Nat) (hj : j < 5) : Lie 322 skD 134 (skMf) (fMf j) (fiMf j) := by
  refine ⟨fun k hk => ?_, fun i k h => ?_⟩
  · match k, hk with
    | 0, _ =>
      refine ⟨by show 3 * j < 322; omega, by show fiMf j (3 * j) = some 0; unfold fiMf; rw [if_pos rfl], ?_⟩
      rcases (show j = 0 ∨ j = 1 ∨ j = 2 ∨ j = 3 ∨ j = 4 by omega) with rfl | rfl | rfl | rfl | rfl <;> rfl
    | 1, _ =>
      refine ⟨by show 3 * j + 1 < 322; omega, by show fiMf j (3 * j + 1) = some 1; unfold fiMf; rw [if_neg (show ¬ 3 * j + 1 = 3 * j by omega)]; rw [if_pos rfl], ?_⟩
      rcases (show j = 0 ∨ j = 1 ∨ j = 2 ∨ j = 3 ∨ j = 4 by omega) with rfl | rfl | rfl | rfl | rfl <;> rfl
    | 2, _ =>
      refine ⟨by show 3 * j + 2 < 322; omega, by show fiMf j (3 * j + 2) = some 2; unfold fiMf; rw [if_neg (show ¬ 3 * j + 2 = 3 * j by omega)]; rw [if_neg (show ¬ 3 * j + 2 = 3 * j + 1 by omega)]; rw [if_pos rfl], ?_⟩
      rcases (show j = 0 ∨ j = 1 ∨ j = 2 ∨ j = 3 ∨ j = 4 by omega) with rfl | rfl | rfl | rfl | rfl <;> rfl
    | 3, _ =>
      refine ⟨by show 15 + 3 * j < 322; omega, by show fiMf j (15 + 3 * j) = some 3; unfold fiMf; rw [if_neg (show ¬ 15 + 3 * j = 3 * j by omega)]; rw [if_neg (show ¬ 15 + 3 * j = 3 * j + 1 by omega)]; rw [if_neg (show ¬ 15 + 3 * j = 3 * j + 2 by omega)]; rw [if_pos rfl], ?_⟩
      rcases (show j = 0 ∨ j = 1 ∨ j = 2 ∨ j = 3 ∨ j = 4 by omega) with rfl | rfl | rfl | rfl | rfl <;> rfl
    | 4, _ =>
      refine ⟨by show 16 + 3 * j < 322; omega, by show fiMf j (16 + 3 * j) = some 4; unfold fiMf; rw [if_neg (show ¬ 16 + 3 * j = 3 * j by omega)]; rw [if_neg (show ¬ 16 + 3 * j = 3 * j + 1 by omega)]; rw [if_neg (show ¬ 16 + 3 * j = 3 * j + 2 by omega)]; rw [if_neg (show ¬ 16 + 3 * j = 15 + 3 * j by omega)]; rw [if_pos rfl], ?_⟩
      rcases (show j = 0 ∨ j = 1 ∨ j = 2 ∨ j = 3 ∨ j = 4 by omega) with rfl | rfl | rfl | rfl | rfl <;> rfl
    | 5, _ =>
      refine ⟨by show 17 + 3 * j < 322; omega, by show fiMf j (17 + 3 * j) = some 5; unfold fiMf; rw [if_neg (show ¬ 17 + 3 * j = 3 * j by omega)]; rw [if_neg (show ¬ 17 + 3 * j = 3 * j + 1 by omega)]; rw [if_neg (show ¬ 17 + 3 * j = 3 * j + 2 by omega)]; rw [if_neg (show ¬ 17 + 3 * j = 15 + 3 * j by omega)]; rw [if_neg (show ¬ 17 + 3 * j = 16 + 3 * j by omega)]; rw [if_pos rfl], ?_⟩
      rcases (show j = 0 ∨ j = 1 ∨ j = 2 ∨ j = 3 ∨ j = 4 by omega) with rfl | rfl | rfl | rfl | rfl <;> rfl
    | 6, _ =>
      refine ⟨by show 60 < 322; omega, by show fiMf j (60) = some 6; unfold fiMf; rw [if_neg (show ¬ 60 = 3 * j by omega)]; rw [if_neg (show ¬ 60 = 3 * j + 1 by omega)]; rw [if_neg (show ¬ 60 = 3 * j + 2 by omega)]; rw [if_neg (show ¬ 60 = 15 + 3 * j by omega)]; rw [if_neg (show ¬ 60 = 16 + 3 * j by omega)]; rw [if_neg (show ¬ 60 = 17 + 3 * j by omega)]; rw [if_pos rfl], ?_⟩
      rfl
    | 7, _ =>
      refine ⟨by show 61 < 322; omega, by show fiMf j (61) = some 7; unfold fiMf; rw [if_neg (show ¬ 61 = 3 * j by omega)]; rw [if_neg (show ¬ 61 = 3 * j + 1 by omega)]; rw [if_neg (show ¬ 61 = 3 * j + 2 by omega)]; rw [if_neg (show ¬ 61 = 15 + 3 * j by omega)]; rw [if_neg (show ¬ 61 = 16 + 3 * j by omega)]; rw [if_neg (show ¬ 61 = 17 + 3 * j by omega)]; rw [if_neg (show ¬ 61 = 60 by omega)]; rw [if_pos rfl], ?_⟩
      rfl
    | 8, _ =>
      refine ⟨by show 31 < 322; omega, by show fiMf j (31) = some 8; unfold fiMf; rw [if_neg (show ¬ 31 = 3 * j by omega)]; rw [if_neg (show ¬ 31 = 3 * j + 1 by omega)]; rw [if_neg (show ¬ 31 = 3 * j + 2 by omega)]; rw [if_neg (show ¬ 31 = 15 + 3 * j by omega)]; rw [if_neg (show ¬ 31 = 16 + 3 * j by omega)]; rw [if_neg (show ¬ 31 = 17 + 3 * j by omega)]; rw [if_neg (show ¬ 31 = 60 by omega)]; rw [if_neg (show ¬ 31 = 61 by omega)]; rw [if_pos rfl], ?_⟩
      rfl
    | 9, _ =>
      refine ⟨by show 32 < 322; omega, by show fiMf j (32) = some 9; unfold fiMf; rw [if_neg (show ¬ 32 = 3 * j by omega)]; rw [if_neg (show ¬ 32 = 3 * j + 1 by omega)]; rw [if_neg (show ¬ 32 = 3 * j + 2 by omega)]; rw [if_neg (show ¬ 32 = 15 + 3 * j by omega)]; rw [if_neg (show ¬ 32 = 16 + 3 * j by omega)]; rw [if_neg (show ¬ 32 = 17 + 3 * j by omega)]; rw [if_neg (show ¬ 32 = 60 by omega)]; rw [if_neg (show ¬ 32 = 61 by omega)]; rw [if_neg (show ¬ 32 = 31 by omega)]; rw [if_pos rfl], ?_⟩
      show (Sum.inr (5, 60, fun q9 => some (62 + q9)) : wK) = Sum.inr (5, 60, fun q9 => some (fMf j (14 + q9))); congr 3; funext q9; rw [Nat.add_comm 14 q9]; rfl
    | 10, _ =>
      refine ⟨by show 33 < 322; omega, by show fiMf j (33) = some 10; unfold fiMf; rw [if_neg (show ¬ 33 = 3 * j by omega)]; rw [if_neg (show ¬ 33 = 3 * j + 1 by omega)]; rw [if_neg (show ¬ 33 = 3 * j + 2 by omega)]; rw [if_neg (show ¬ 33 = 15 + 3 * j by omega)]; rw [if_neg (show ¬ 33 = 16 + 3 * j by omega)]; rw [if_neg (show ¬ 33 = 17 + 3 * j by omega)]; rw [if_neg (show ¬ 33 = 60 by omega)]; rw [if_neg (show ¬ 33 = 61 by omega)]; rw [if_neg (show ¬ 33 = 31 by omega)]; rw [if_neg (show ¬ 33 = 32 by omega)]; rw [if_pos rfl], ?_⟩
      show (Sum.inr (6, 60, fun j => some (122 + j)) : wK) = Sum.inr (6, 60, fun q => some (fMf j (74 + q))); congr 3; funext q; rw [show 74 + q = (60 + q) + 14 by omega]; show some (122 + q) = some (62 + (60 + q)); congr 1; omega
    | 11, _ =>
      refine ⟨by show 34 < 322; omega, by show fiMf j (34) = some 11; unfold fiMf; rw [if_neg (show ¬ 34 = 3 * j by omega)]; rw [if_neg (show ¬ 34 = 3 * j + 1 by omega)]; rw [if_neg (show ¬ 34 = 3 * j + 2 by omega)]; rw [if_neg (show ¬ 34 = 15 + 3 * j by omega)]; rw [if_neg (show ¬ 34 = 16 + 3 * j by omega)]; rw [if_neg (show ¬ 34 = 17 + 3 * j by omega)]; rw [if_neg (show ¬ 34 = 60 by omega)]; rw [if_neg (show ¬ 34 = 61 by omega)]; rw [if_neg (show ¬ 34 = 31 by omega)]; rw [if_neg (show ¬ 34 = 32 by omega)]; rw [if_neg (show ¬ 34 = 33 by omega)]; rw [if_pos rfl], ?_⟩
      rfl
    | 12, _ =>
      refine ⟨by show 35 < 322; omega, by show fiMf j (35) = some 12; unfold fiMf; rw [if_neg (show ¬ 35 = 3 * j by omega)]; rw [if_neg (show ¬ 35 = 3 * j + 1 by omega)]; rw [if_neg (show ¬ 35 = 3 * j + 2 by omega)]; rw [if_neg (show ¬ 35 = 15 + 3 * j by omega)]; rw [if_neg (show ¬ 35 = 16 + 3 * j by omega)]; rw [if_neg (show ¬ 35 = 17 + 3 * j by omega)]; rw [if_neg (show ¬ 35 = 60 by omega)]; rw [if_neg (show ¬ 35 = 61 by omega)]; rw [if_neg (show ¬ 35 = 31 by omega)]; rw [if_neg (show ¬ 35 = 32 by omega)]; rw [if_neg (show ¬ 35 = 33 by omega)]; rw [if_neg (show ¬ 35 = 34 by omega)]; rw [if_pos rfl], ?_⟩
      rfl
    | 13, _ =>
      refine ⟨by show 36 < 322; omega, by show fiMf j (36) = some 13; unfold fiMf; rw [if_neg (show ¬ 36 = 3 * j by omega)]; rw [if_neg (show ¬ 36 = 3 * j + 1 by omega)]; rw [if_neg (show ¬ 36 = 3 * j + 2 by omega)]; rw [if_neg (show ¬ 36 = 15 + 3 * j by omega)]; rw [if_neg (show ¬ 36 = 16 + 3 * j by omega)]; rw [if_neg (show ¬ 36 = 17 + 3 * j by omega)]; rw [if_neg (show ¬ 36 = 60 by omega)]; rw [if_neg (show ¬ 36 = 61 by omega)]; rw [if_neg (show ¬ 36 = 31 by omega)]; rw [if_neg (show ¬ 36 = 32 by omega)]; rw [if_neg (show ¬ 36 = 33 by omega)]; rw [if_neg (show ¬ 36 = 34 by omega)]; rw [if_neg (show ¬ 36 = 35 by omega)]; rw [if_pos rfl], ?_⟩
      rfl
    | k + 14, hk =>
      refine ⟨by show 62 + k < 322; omega, by show fiMf j (62 + k) = some (k + 14); unfold fiMf; rw [if_neg (show ¬ 62 + k = 3 * j by omega)]; rw [if_neg (show ¬ 62 + k = 3 * j + 1 by omega)]; rw [if_neg (show ¬ 62 + k = 3 * j + 2 by omega)]; rw [if_neg (show ¬ 62 + k = 15 + 3 * j by omega)]; rw [if_neg (show ¬ 62 + k = 16 + 3 * j by omega)]; rw [if_neg (show ¬ 62 + k = 17 + 3 * j by omega)]; rw [if_neg (show ¬ 62 + k = 60 by omega)]; rw [if_neg (show ¬ 62 + k = 61 by omega)]; rw [if_neg (show ¬ 62 + k = 31 by omega)]; rw [if_neg (show ¬ 62 + k = 32 by omega)]; rw [if_neg (show ¬ 62 + k = 33 by omega)]; rw [if_neg (show ¬ 62 + k = 34 by omega)]; rw [if_neg (show ¬ 62 + k = 35 by omega)]; rw [if_neg (show ¬ 62 + k = 36 by omega)]; rw [if_pos (by omega)]; congr 1; omega, ?_⟩
      show skD (62 + k) = _
      by_cases h6 : k < 60; (rw [skD_b _ h6]; rw [skMf_hi, if_neg (show ¬ k + 14 < 3 by omega), if_pos (show k + 14 < 74 by omega)]; rfl); (rw [show 62 + k = 122 + (k - 60) by omega, skD_l _ (by omega)]; rw [skMf_hi, if_neg (show ¬ k + 14 < 3 by omega), if_neg (show ¬ k + 14 < 74 by omega)]; rfl)
  · unfold fiMf at h
    by_cases a0 : i = 3 * j
    · rw [if_pos a0] at h; cases h; exact ⟨by decide, a0.symm⟩
    rw [if_neg a0] at h
    by_cases a1 : i = 3 * j + 1
    · rw [if_pos a1] at h; cases h; exact ⟨by decide, a1.symm⟩
    rw [if_neg a1] at h
    by_cases a2 : i = 3 * j + 2
    · rw [if_pos a2] at h; cases h; exact ⟨by decide, a2.symm⟩
    rw [if_neg a2] at h
    by_cases a3 : i = 15 + 3 * j
    · rw [if_pos a3] at h; cases h; exact ⟨by decide, a3.symm⟩
    rw [if_neg a3] at h
    by_cases a4 : i = 16 + 3 * j
    · rw [if_pos a4] at h; cases h; exact ⟨by decide, a4.symm⟩
    rw [if_neg a4] at h
    by_cases a5 : i = 17 + 3 * j
    · rw [if_pos a5] at h; cases h; exact ⟨by decide, a5.symm⟩
    rw [if_neg a5] at h
    by_cases a6 : i = 60
    · rw [if_pos a6] at h; cases h; exact ⟨by decide, a6.symm⟩
    rw [if_neg a6] at h
    by_cases a7 : i = 61
    · rw [if_pos a7] at h; cases h; exact ⟨by decide, a7.symm⟩
    rw [if_neg a7] at h
    by_cases a8 : i = 31
    · rw [if_pos a8] at h; cases h; exact ⟨by decide, a8.symm⟩
    rw [if_neg a8] at h
    by_cases a9 : i = 32
    · rw [if_pos a9] at h; cases h; exact ⟨by decide, a9.symm⟩
    rw [if_neg a9] at h
    by_cases a10 : i = 33
    · rw [if_pos a10] at h; cases h; exact ⟨by decide, a10.symm⟩
    rw [if_neg a10] at h
    by_cases a11 : i = 34
    · rw [if_pos a11] at h; cases h; exact ⟨by decide, a11.symm⟩
    rw [if_neg a11] at h
    by_cases a12 : i = 35
    · rw [if_pos a12] at h; cases h; exact ⟨by decide, a12.symm⟩
    rw [if_neg a12] at h
    by_cases a13 : i = 36
    · rw [if_pos a13] at h; cases h; exact ⟨by decide, a13.symm⟩
    rw [if_neg a13] at h
    by_cases b : 62 ≤ i ∧ i < 62 + 120
    · rw [if_pos b] at h; cases h
      refine ⟨by omega, ?_⟩
      show 62 + (i - (62)) = i
      omega
    rw [if_neg b] at h
    cases h
