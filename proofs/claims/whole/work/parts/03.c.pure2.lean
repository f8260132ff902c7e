def l32 (x : Int32) : Nat := if x = nI 1 then 28 else 32
theorem l32_in (x : Int32) : 28 ≤ l32 x ∧ l32 x ≤ 32 := by
  unfold l32; split <;> omega
theorem inF_nar (a b c : Int32) : narrow .boolean (.int (inF a b c)) = .int (inF a b c) := by
  unfold inF; split
  · rfl
  · split <;> rfl
theorem inF_nz {v : Int32} {a b : Nat} (h : ¬ inF v (nI a) (nI b) = 0) (hab : a ≤ b) (hb : b < 2 ^ 31) : ∃ k, a ≤ k ∧ k ≤ b ∧ v = nI k := by
  unfold inF at h
  have ha : a < 2 ^ 31 := by omega
  by_cases h1 : v < nI a
  · rw [if_pos h1] at h; exact absurd rfl h
  · rw [if_neg h1] at h
    by_cases h2 : nI b < v
    · rw [if_pos h2] at h; exact absurd rfl h
    · have h3 : ¬ v < 0 := fun h4 => h1 (by
        have h5 : (0 : Int32) ≤ nI a := nI_pos' ha
        rw [Int32.lt_iff_toInt_lt] at h4 ⊢
        rw [Int32.le_iff_toInt_le] at h5
        omega)
      obtain ⟨k, hk, rfl⟩ := nI_of h3
      refine ⟨k, ?_, ?_, rfl⟩
      · exact Nat.not_lt.mp fun h4 => h1 ((nI_ltI hk ha).mpr h4)
      · exact Nat.not_lt.mp fun h4 => h2 ((nI_ltI hb hk).mpr h4)
theorem inF_nz1 {v : Int32} {b : Nat} (h : ¬ inF v (nI 1) (nI b) = 0) (hab : 1 ≤ b) (hb : b < 2 ^ 31) : ∃ k, k < b ∧ v = nI (k + 1) := by
  obtain ⟨k, h1, h2, rfl⟩ := inF_nz h hab hb
  exact ⟨k - 1, by omega, by congr 1; omega⟩
theorem inF_nzd {v : Int32} {d : Nat} (h : ¬ inF v (nI 0) (nI d - nI 1) = 0) (hd : d ≤ 2 ^ 20) : ∃ k, k < d ∧ v = nI k := by
  cases d with
  | zero =>
    exfalso
    apply h
    unfold inF
    by_cases h1 : v < nI 0
    · rw [if_pos h1]
    · rw [if_neg h1, if_pos]
      have h2 : (nI 0 - nI 1 : Int32) = -1 := by decide
      rw [h2]
      have h3 : ¬ v < 0 := h1
      rw [Int32.lt_iff_toInt_lt] at h3 ⊢
      have h4 : (-1 : Int32).toInt = -1 := by decide
      have h5 : (0 : Int32).toInt = 0 := by decide
      omega
  | succ d =>
    rw [pk_sub (by omega)] at h
    obtain ⟨k, h1, h2, rfl⟩ := inF_nz h (by omega) (by omega)
    exact ⟨k, by omega, rfl⟩
/-- counting down to -1 -/
def dn : Nat → Int32
  | 0 => -1
  | c + 1 => nI c
theorem dn_dec (c : Nat) : nI c + Int32.ofInt (-1) = dn c := by
  cases c with
  | zero => decide
  | succ c => exact ni_dec (c + 1) 1 (by omega)
theorem up_idn {α : Type} (f : Nat → α) (i : Nat) : va_up f i (f i) = f := up_id f i
theorem sIB (S : wS) (i : Nat) (f g : Nat → Int32) (j k : Nat) (a b : Int32) : sI (sB (sI (sB S i f) j k a) i g) j k b = sI (sB S i g) j k b := by
  simp [sI, sB, up_up, up_at]
theorem sB_beg (S : wS) (i : Nat) (f : Nat → Int32) (h : S.2.1 i = f) : S = sB S i f := by
  subst h; simp [sB, up_id]
theorem sI_beg (S : wS) (j k : Nat) (v : Int32) (h : S.1 j k = v) : S = sI S j k v := by
  subst h; simp [sI, up_id]
theorem sIB_beg (S : wS) (i : Nat) (f : Nat → Int32) (j k : Nat) (v : Int32) (h1 : S.2.1 i = f) (h2 : S.1 j k = v) : S = sI (sB S i f) j k v := by
  subst h1; subst h2; simp [sI, sB, up_id]
/-- byte i of the k + 1 lowest ones of v, the highest first -/
def fdB (v : Int64) (k i : Nat) : Int32 := ((v.toUInt64 >>> ((nI (8 * (k - i))).toInt64.toUInt64 &&& Int64.toUInt64 63)).toInt64 &&& (255)).toInt32
/-- a digest more -/
def kst (S : wS) (x : Int32) (d q : Nat) : wS := sI (sB (sB (sB (sB S 12 (upd (S.2.1 12) d x)) 13 (upd (S.2.1 13) d (nI q))) 14 (pts (S.2.1 14) (32 * d) (byH (S.2.1 8)) 32)) 15 (pts (S.2.1 15) (64 * d) (S.2.1 9) 64)) 0 16 (nI (d + 1))
