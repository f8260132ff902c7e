theorem rd_eq {f g : Nat → Int32} : ∀ n, (∀ q, q < n → g q = f q &&& nI 255) → rdS f n = rdv g n
  | 0, _ => rfl
  | n + 1, h => by
    simp only [rdS, rdv]
    rw [rd_eq n (fun q hq => h q (by omega)), h n (by omega)]
theorem wn_le (w : Nat) (hw : w ≤ 4) : wn w ≤ 8 ∧ 1 ≤ wn w := by
  rcases (show w = 0 ∨ w = 1 ∨ w = 2 ∨ w = 3 ∨ w = 4 by omega) with rfl | rfl | rfl | rfl | rfl <;> decide
theorem se_lt {y : Int32} (h1 : y.toBitVec.toNat < 65536) : y.toInt64.toBitVec.toNat = y.toBitVec.toNat := by
  rw [Int32.toBitVec_toInt64, BitVec.toNat_signExtend]
  have h2 : y.toBitVec.msb = false := by
    rw [BitVec.msb_eq_decide]
    simp only [decide_eq_false_iff_not]
    omega
  rw [h2, BitVec.toNat_setWidth, if_neg (by decide), Nat.add_zero]
  exact Nat.mod_eq_of_lt (by omega)
theorem a255_lt (x : Int32) : (x &&& nI 255).toInt64.toBitVec.toNat < 256 := by
  have h1 : (x &&& nI 255).toBitVec.toNat < 256 := by
    rw [Int32.toBitVec_and, BitVec.toNat_and, show (nI 255).toBitVec.toNat = 2 ^ 8 - 1 by decide, Nat.and_two_pow_sub_one_eq_mod]
    exact Nat.mod_lt _ (by decide)
  rw [se_lt (by omega)]
  exact h1
theorem ch_eq (v : Int64) (h : v.toBitVec.toNat < 65536) : (v.toInt32.toUInt32 % 65536).toInt32.toInt64 = v := by
  have e1 : (v.toInt32.toUInt32 % 65536).toInt32.toBitVec.toNat = v.toBitVec.toNat := by
    have e0 : (v.toInt32.toUInt32 % 65536).toInt32.toBitVec = v.toInt32.toBitVec % 65536 := rfl
    rw [e0, BitVec.toNat_umod, Int64.toBitVec_toInt32, BitVec.signExtend_eq_setWidth_of_le _ (by decide), BitVec.toNat_setWidth]
    have e2 : (65536 : BitVec 32).toNat = 65536 := rfl
    rw [e2]
    omega
  apply Int64.toBitVec_inj.mp
  apply BitVec.eq_of_toNat_eq
  rw [se_lt (by omega), e1]
theorem rdv2_lt (g : Nat → Int32) (f : Nat → Int32) (h : ∀ q, q < 2 → g q = f q &&& nI 255) : (rdv g 2).toBitVec.toNat < 65536 := by
  simp only [rdv]
  rw [h 0 (by decide), h 1 (by decide)]
  have e : ((nI 8).toInt64 &&& 63) = 8 := by decide
  rw [e]
  have h0 := a255_lt (f 0)
  have h1 := a255_lt (f 1)
  rw [Int64.toBitVec_or, BitVec.toNat_or, Int64.toBitVec_shiftLeft, Int64.toBitVec_or]
  refine Nat.or_lt_two_pow (n := 16) ?_ (by omega)
  have e8 : ((8 : Int64).toBitVec.smod 64) = 8 := by decide
  rw [e8, BitVec.shiftLeft_eq']
  have ez : ((0 : Int64) <<< (8 : Int64)).toBitVec = 0#64 := by decide
  rw [ez, BitVec.zero_or, BitVec.toNat_shiftLeft, Nat.shiftLeft_eq]
  have : (8 : BitVec 64).toNat = 8 := rfl
  rw [this]
  omega
theorem cv_0 (v : Int64) : cvC 0 v = cvL 0 v := rfl
theorem cv_1 (v : Int64) : cvC 1 v = cvL 1 v := rfl
theorem cv_2 (v : Int64) (h : v.toBitVec.toNat < 65536) : cvC 2 v = cvL 2 v := by
  simp only [cvC, cvL]
  exact ch_eq v h
theorem cv_3 (v : Int64) : cvC 3 v = cvL 3 v := rfl
theorem cv_4 (v : Int64) : cvC 4 v = cvL 4 v := rfl
theorem cv_eq {w : Nat} {f g : Nat → Int32} (hw : w ≤ 4) (h : ∀ q, q < wn w → g q = ub f q) : cvC w (rdS f (wn w)) = cvL w (rdv g (wn w)) := by
  rw [rd_eq (g := g) (wn w) h]
  rcases (show w = 0 ∨ w = 1 ∨ w = 2 ∨ w = 3 ∨ w = 4 by omega) with rfl | rfl | rfl | rfl | rfl
  · exact cv_0 _
  · exact cv_1 _
  · exact cv_2 _ (rdv2_lt g f h)
  · exact cv_3 _
  · exact cv_4 _
/-- only cell 36 has changed -/
theorem Rel.c36 {S S9 M : wS} (h : Rel S M) (hs : ∀ i, i ≠ 36 → S9.1 i = S.1 i ∧ S9.2.1 i = S.2.1 i) : Rel S9 M := by
  obtain ⟨h1, ⟨t9, h2⟩, ⟨ks, h3⟩, ⟨d, h4⟩, h5, ⟨lv, lz, h6⟩, ⟨pv, h7⟩, ⟨R9, rz, h8⟩⟩ := h
  exact ⟨h1, ⟨t9, h2.cg (fun i hi => hs i (by unfold cTa at hi; omega)) rfl rfl⟩, ⟨ks, h3.cg (fun i hi => hs i (by unfold cK at hi; omega)) rfl rfl⟩, ⟨d, h4.cg (fun i hi => hs i (by unfold cD at hi; omega)) rfl rfl rfl rfl rfl⟩, h5.cg (fun i hi => hs i (by unfold cG at hi; omega)) rfl rfl rfl rfl rfl, ⟨lv, lz, h6.cg (fun i hi => hs i (by unfold cB at hi; omega)) rfl rfl rfl rfl rfl rfl⟩, ⟨pv, h7.cg (fun i hi => hs i (by unfold cP at hi; omega)) rfl rfl⟩, ⟨R9, rz, h8.cg (fun i hi => hs i (by unfold cR at hi; omega)) rfl rfl rfl rfl rfl⟩⟩
