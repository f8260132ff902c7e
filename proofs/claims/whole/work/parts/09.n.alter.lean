theorem ushr_bv (x : Int32) (k : Nat) (hk : k < 32) : (ushr x k).toBitVec = x.toBitVec >>> k := by
  have h1 : (ushr x k).toBitVec.toNat = x.toBitVec.toNat / 2 ^ k := pk_ushr x (nI k) k ((by decide : ∀ i : Fin 32, (((nI i.val).toUInt32 &&& Int32.toUInt32 31).toBitVec % 32).toNat = i.val) ⟨k, hk⟩)
  apply BitVec.eq_of_toNat_eq
  rw [h1, BitVec.toNat_ushiftRight, Nat.shiftRight_eq_div_pow]
theorem nI_hi {mk i : Nat} (h : mk ≤ 255) (hi : 8 ≤ i) : (nI mk).toBitVec.getLsbD i = false := by
  have h2 : mk = (nI mk).toBitVec.toNat := by
    have h3 : (nI mk).toInt = mk := nI_toInt (by omega)
    have h4 : (nI mk).toInt = (nI mk).toBitVec.toInt := rfl
    rw [h4, BitVec.toInt_eq_toNat_cond] at h3
    have := (nI mk).toBitVec.isLt
    split at h3 <;> omega
  rw [BitVec.getLsbD, ← h2]
  exact Nat.testBit_lt_two_pow (Nat.lt_of_lt_of_le (by omega : mk < 2 ^ 8) (Nat.pow_le_pow_right (by decide) hi))
theorem alt_1 (w : Int32) {mk a : Nat} (ha : a < 4) : (ushr (w ^^^ (nI mk <<< (nI (24 - 8 * a) &&& 31))) (24 - 8 * a)).toInt8 = ((ushr w (24 - 8 * a)).toInt8.toInt32 ^^^ nI mk).toInt8 := by
  apply Int8.toBitVec_inj.mp
  rw [Int32.toBitVec_toInt8, Int32.toBitVec_toInt8, ushr_bv _ _ (by omega), Int32.toBitVec_xor, Int32.toBitVec_xor, shl_bv _ _ (by omega), Int8.toBitVec_toInt32, Int32.toBitVec_toInt8, ushr_bv _ _ (by omega)]
  apply BitVec.eq_of_getLsbD_eq
  intro i hi
  rw [BitVec.getLsbD_signExtend, BitVec.getLsbD_signExtend]
  simp only [BitVec.getLsbD_ushiftRight, BitVec.getLsbD_xor, BitVec.getLsbD_shiftLeft, BitVec.getLsbD_signExtend]
  rcases (show a = 0 ∨ a = 1 ∨ a = 2 ∨ a = 3 by omega) with rfl | rfl | rfl | rfl
  · simp [hi, show i < 32 by omega, show 24 + i < 32 by omega, show ¬ 24 + i < 24 by omega]
  · simp [hi, show i < 32 by omega, show 16 + i < 32 by omega, show ¬ 16 + i < 16 by omega]
  · simp [hi, show i < 32 by omega, show 8 + i < 32 by omega, show ¬ 8 + i < 8 by omega]
  · simp [hi, show i < 32 by omega]
theorem alt_2 (w : Int32) {mk a b : Nat} (hm : mk ≤ 255) (ha : a < 4) (hb : b < 4) (hne : ¬ b = a) : (ushr (w ^^^ (nI mk <<< (nI (24 - 8 * a) &&& 31))) (24 - 8 * b)).toInt8 = (ushr w (24 - 8 * b)).toInt8 := by
  apply Int8.toBitVec_inj.mp
  rw [Int32.toBitVec_toInt8, Int32.toBitVec_toInt8, ushr_bv _ _ (by omega), Int32.toBitVec_xor, shl_bv _ _ (by omega), ushr_bv _ _ (by omega)]
  apply BitVec.eq_of_getLsbD_eq
  intro i hi
  rw [BitVec.getLsbD_signExtend, BitVec.getLsbD_signExtend, if_pos (by omega), if_pos (by omega)]
  simp only [BitVec.getLsbD_ushiftRight, BitVec.getLsbD_xor, BitVec.getLsbD_shiftLeft]
  by_cases c : 24 - 8 * b + i < 24 - 8 * a
  · simp [c]
  · rw [nI_hi hm (by omega)]
    simp
theorem RP_alter {S M S9 M9 : wS} {pv k i mk : Nat} (h : RP S M pv) (hk : k < pv) (hi : i < 32) (hm : mk ≤ 255) (e1 : S9.1 50 = S.1 50) (e2 : S9.2.1 (278 + k) = upd (S.2.1 (278 + k)) i ((S.2.1 (278 + k) i ^^^ nI mk).toInt8.toInt32)) (e3 : ∀ u, ¬ u = k → S9.2.1 (278 + u) = S.2.1 (278 + u)) (e4 : M9.1 0 32 = M.1 0 32) (e5 : M9.2.1 27 = upd (M.2.1 27) (8 * k + i / 4) (M.2.1 27 (8 * k + i / 4) ^^^ (nI mk <<< (nI (24 - 8 * (i % 4)) &&& 31)))) : RP S9 M9 pv := by
  refine ⟨by rw [e1]; exact h.1, e4.trans h.2.1, h.2.2.1, fun u hu q hq => ?_⟩
  have h9 := h.2.2.2 u hu q hq
  unfold sbH at h9 ⊢
  rw [e5]
  dsimp only at h9 ⊢
  by_cases c : u = k
  · subst c
    rw [e2]
    by_cases b : q = i
    · subst b
      rw [pk_us, pk_us, alt_1 _ (by omega), h9]
    · rw [pk_un b]
      by_cases g : q / 4 = i / 4
      · rw [g, pk_us, alt_2 _ hm (by omega) (by omega) (by omega), h9, g]
      · rw [pk_un (by omega), h9]
  · rw [e3 u c, pk_un (by omega), h9]
theorem alt_r {S M : wS} {pv k i mk : Nat} (h : RP S M pv) (hk : k < pv) (hi : i < 32) : (S.2.1 (278 + k) i ^^^ nI mk).toInt8.toInt32 &&& nI 255 = ushr (M.2.1 27 (8 * k + i / 4) ^^^ (nI mk <<< (nI (24 - 8 * (i % 4)) &&& 31))) (24 - 8 * (i % 4)) &&& nI 255 := by
  rw [h.2.2.2 k hk i hi, ← b255 (ushr _ _), alt_1 _ (by omega)]
  rfl
