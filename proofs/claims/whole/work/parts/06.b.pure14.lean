/-- x is none of 0 .. n - 1; of 1 .. n -/
def oor (x : Int32) (n : Nat) : Prop := ∀ k, k < n → ¬ x = nI k
def oo1 (x : Int32) (n : Nat) : Prop := ∀ k, k < n → ¬ x = nI (k + 1)
theorem oor_n {x : Int32} (h : x < 0) {n : Nat} (hn : n < 2 ^ 31) : oor x n := fun k hk e => nI_pos (show k < 2 ^ 31 by omega) (e ▸ h)
theorem oor_g {x : Int32} {n : Nat} (h : ¬ x < nI n) (hn : n < 2 ^ 31) : oor x n := fun k hk e => h (e ▸ nI_lt hk hn)
theorem rg_in {x : Int32} {n : Nat} (h : ¬ x < 0) (h2 : x < nI n) (hn : n < 2 ^ 31) : ∃ k, k < n ∧ x = nI k := by
  obtain ⟨k, hk, rfl⟩ := nI_of h
  exact ⟨k, (nI_ltI hk hn).mp h2, rfl⟩
theorem rg_le {x : Int32} {n : Nat} (h : ¬ x < 0) (h2 : x ≤ nI n) (hn : n < 2 ^ 31) : ∃ k, k ≤ n ∧ x = nI k := by
  obtain ⟨k, hk, rfl⟩ := nI_of h
  exact ⟨k, (nI_leI hk hn).mp h2, rfl⟩
theorem rg_1 {x : Int32} {n : Nat} (h : ¬ x < nI 1) (h2 : x ≤ nI n) (hn : n < 2 ^ 31) : ∃ k, k < n ∧ x = nI (k + 1) := by
  by_cases h0 : x < 0
  · exact absurd (Int32.lt_trans h0 (show (0 : Int32) < nI 1 by decide)) h
  · obtain ⟨k, hk, rfl⟩ := nI_of h0
    have h3 := (nI_leI hk hn).mp h2
    have h4 : ¬ k < 1 := fun q => h ((nI_ltI hk (by decide)).mpr q)
    exact ⟨k - 1, by omega, by congr 1; omega⟩
theorem oo1_n {x : Int32} (h : x < nI 1) {n : Nat} (hn : n < 2 ^ 30) : oo1 x n := fun k hk e => by
  rw [e] at h
  have := (nI_ltI (show k + 1 < 2 ^ 31 by omega) (by decide)).mp h
  omega
theorem oo1_g {x : Int32} {n : Nat} (h : ¬ x ≤ nI n) (hn : n < 2 ^ 31) : oo1 x n := fun k hk e => h (e ▸ nI_le (by omega) hn)
theorem hsF_oor {x : Int32} {n : Nat} (h : hsF x (nI n) = 0) (hn : n < 2 ^ 31) : oor x n := by
  unfold hsF at h
  by_cases h1 : x < 0
  · exact oor_n h1 hn
  · rw [if_neg h1] at h
    by_cases h2 : nI n ≤ x
    · exact oor_g (Int32.not_lt.mpr h2) hn
    · rw [if_neg h2] at h; exact absurd h (by decide)
theorem inF_oor {x : Int32} {n : Nat} (h : inF x (nI 0) (nI n) = 0) (hn : n < 2 ^ 30) : oor x (n + 1) := by
  intro k hk e
  subst e
  unfold inF at h
  rw [if_neg (show ¬ nI k < nI 0 from nI_pos (by omega)), if_neg (nI_nlt (by omega) (by omega))] at h
  exact absurd h (by decide)
/-- byte i of the k + 1 lowest ones of v, the highest first, with sign -/
def fdS (v : Int64) (k i : Nat) : Int32 := ((v.toUInt64 >>> ((nI (8 * (k - i))).toInt64.toUInt64 &&& Int64.toUInt64 63)).toInt64).toInt32.toInt8.toInt32
/-- one object of a larger world -/
theorem lie_one {n : Nat} {sk sk2 : Nat → wK} {c : Nat} (h1 : c < n) (e : sk c = rn (fun z9 => z9 + c) (sk2 0)) : Lie n sk 1 sk2 (fun z9 => z9 + c) (fun i => if i = c then some 0 else none) := by
  refine ⟨fun k hk => ?_, fun i k h => ?_⟩
  · obtain rfl : k = 0 := by omega
    refine ⟨by show 0 + c < n; omega, ?_, ?_⟩
    · show (if 0 + c = c then some 0 else none) = some 0; rw [if_pos (Nat.zero_add c)]
    · show sk (0 + c) = _; rw [Nat.zero_add]; exact e
  · by_cases a : i = c
    · simp only [a, if_true] at h; cases h; exact ⟨by decide, by show 0 + c = i; omega⟩
    · simp only [a, if_false] at h; cases h
theorem lie_sh : Lie 322 skD 1 skSh (fun z9 => z9 + 31) (fun i => if i = 31 then some 0 else none) := lie_one (by decide) rfl
def fTr (tr : Nat) : Nat → Nat
  | 0 => 38 + 3 * tr
  | 1 => 39 + 3 * tr
  | 2 => 40 + 3 * tr
  | k + 3 => 182 + 24 * tr + k
theorem lie_tr (k : Nat) (hk : k < 4) : Lie 322 skD 1 skTr (fTr k) (fun i => if i = 38 + 3 * k then some 0 else none) := by
  refine ⟨fun a ha => ?_, fun i a h => ?_⟩
  · obtain rfl : a = 0 := by omega
    refine ⟨by show 38 + 3 * k < 322; omega, if_pos rfl, ?_⟩
    rcases (show k = 0 ∨ k = 1 ∨ k = 2 ∨ k = 3 by omega) with rfl | rfl | rfl | rfl <;> rfl
  · by_cases a : i = 38 + 3 * k
    · simp only [a, if_true] at h; cases h; exact ⟨by decide, a.symm⟩
    · simp only [a, if_false] at h; cases h
/-- one byte array of a larger world -/
def f1 (c : Nat) : Nat → Nat
  | 0 => c
  | k + 1 => k
theorem lie_1 {n : Nat} {sk : Nat → wK} {c len : Nat} (h1 : c < n) (e : sk c = .inr (1, len, fun _ => none)) : Lie n sk 1 (skB len) (f1 c) (fun i => if i = c then some 0 else none) := by
  refine ⟨fun k hk => ?_, fun i k h => ?_⟩
  · obtain rfl : k = 0 := by omega
    exact ⟨h1, if_pos rfl, e⟩
  · by_cases a : i = c
    · simp only [a, if_true] at h; cases h; exact ⟨by decide, a.symm⟩
    · simp only [a, if_false] at h; cases h
def fSt (k : Nat) : Nat := if k < 4 then k + 52 else k + 278
def fiSt (i : Nat) : Option Nat := if 52 ≤ i ∧ i < 56 then some (i - 52) else none
theorem lie_St : Lie 322 skD 4 skSt fSt fiSt := by
  refine ⟨fun k hk => ?_, fun i k h => ?_⟩
  · rcases (show k = 0 ∨ k = 1 ∨ k = 2 ∨ k = 3 by omega) with rfl | rfl | rfl | rfl
    · exact ⟨by decide, rfl, rfl⟩
    · refine ⟨by decide, rfl, ?_⟩
      show (Sum.inr (5, 40, fun j => some (282 + j)) : wK) = Sum.inr (5, 40, fun j => some (fSt (4 + j)))
      congr 3
      funext j
      unfold fSt
      rw [if_neg (by omega)]
      congr 1
      omega
    · exact ⟨by decide, rfl, rfl⟩
    · exact ⟨by decide, rfl, rfl⟩
  · unfold fiSt at h
    by_cases a : 52 ≤ i ∧ i < 56
    · rw [if_pos a] at h; cases h
      refine ⟨by omega, ?_⟩
      unfold fSt; rw [if_pos (by omega)]; omega
    · rw [if_neg a] at h; cases h
theorem le_255 {x : Int32} (h : nI 255 < x) : nI 256 ≤ x := by
  have h1 : (nI 255).toInt < x.toInt := Int32.lt_iff_toInt_lt.mp h
  refine Int32.le_iff_toInt_le.mpr ?_
  have e1 : (nI 255).toInt = 255 := by decide
  have e2 : (nI 256).toInt = 256 := by decide
  omega
/-- one array of a larger world, as it was -/
theorem one_I {n : Nat} {cy : Nat → ClassId} {ad : Nat → Nat} {sk sk2 : Nat → wK} {S : wS} {kd len c : Nat} {g g2 : Nat → Option Nat} (hc : sk c = .inr (kd, len, g)) (hk : kd < 2) (h2 : sk2 0 = .inr (kd, len, g2)) : SubT n cy ad sk S 1 (fun k => ad (k + c)) sk2 (shS S c) (fun k => k + c) S := by
  refine ⟨fun k hk1 => ?_, fun i _ hn => rfl⟩
  obtain rfl : k = 0 := by omega
  show wC cy ad sk S (0 + c) = wC cy _ sk2 (shS S c) 0
  rw [Nat.zero_add, wC_i hc hk, wC_i h2 hk]
  simp only [shS, Nat.zero_add]
