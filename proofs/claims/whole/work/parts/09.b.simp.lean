theorem inF_oo1 {x : Int32} {n : Nat} (h : inF x (nI 1) (nI n) = 0) (hn : n < 2 ^ 30) : oo1 x n := by
  intro k hk e
  subst e
  unfold inF at h
  rw [if_neg (show ¬ nI (k + 1) < nI 1 from nI_nlt (by omega) (by omega)), if_neg (nI_nlt (by omega) (by omega))] at h
  exact absurd h (by decide)
theorem inF_oord {x : Int32} {d : Nat} (h : inF x (nI 0) (nI d - nI 1) = 0) (hd : d ≤ 2 ^ 20) : oor x d := by
  intro k hk e
  subst e
  rw [pk_sub (by omega)] at h
  unfold inF at h
  rw [if_neg (show ¬ nI k < nI 0 from nI_pos (by omega)), if_neg (nI_nlt (by omega) (by omega))] at h
  exact absurd h (by decide)
theorem fd_ub (v : Int64) (k i : Nat) : fdB v k i = fdS v k i &&& nI 255 := by
  unfold fdB fdS
  rw [b255, l2i255]
theorem fd_fit (v : Int64) (k i : Nat) : fits .byte (.int (fdS v k i)) = true := pk_fb _
theorem RT_feed {S M S9 M9 : wS} {t k : Nat} {v : Int64} (h : RT S M t) (hk : t + (k + 1) ≤ 200) (e1 : S9.1 58 1 = nI (t + (k + 1))) (e2 : S9.2.1 59 = pts (S.2.1 59) t (fdS v k) (k + 1)) (e3 : M9.1 0 12 = nI (t + (k + 1))) (e4 : M9.2.1 10 = pts (M.2.1 10) t (fdB v k) (k + 1)) : RT S9 M9 (t + (k + 1)) := by
  refine ⟨e1, e3, hk, fun i hi => ?_, fun i => ?_⟩
  · rw [e2, e4, pts_at]
    unfold ub
    rw [pts_at]
    by_cases c : t ≤ i ∧ i < t + (k + 1)
    · rw [if_pos c, if_pos c, fd_ub]
    · rw [if_neg c, if_neg c]
      exact h.2.2.2.1 i (by omega)
  · rw [e2, pts_at]
    by_cases c : t ≤ i ∧ i < t + (k + 1)
    · rw [if_pos c]; exact fd_fit _ _ _
    · rw [if_neg c]; exact h.2.2.2.2 i
theorem RT_0 {S M S9 M9 : wS} {t : Nat} (h : RT S M t) (e1 : S9.1 58 1 = nI 0) (e2 : S9.2.1 59 = S.2.1 59) (e3 : M9.1 0 12 = nI 0) : RT S9 M9 0 := ⟨e1, e3, by omega, fun k hk => absurd hk (Nat.not_lt_zero k), by rw [e2]; exact h.2.2.2.2⟩
theorem RS_key {S M S9 M9 : wS} {t ks : Nat} (h : RT S M t) (h2 : RS S M ks) (e1 : S9.1 60 1 = nI t) (e2 : S9.2.1 61 = va_cpy (S.2.1 59) (S.2.1 61) 0 0 t) (e3 : M9.1 0 14 = nI t) (e4 : M9.2.1 11 = cps (M.2.1 11) (M.2.1 10) t) : RS S9 M9 t := by
  refine ⟨e1, e3, h.2.2.1, fun i hi => ?_, fun i => ?_⟩
  · rw [e2, e4, cps_at, if_pos hi]
    unfold ub
    rw [pk_cpy_in (by omega) (by omega), show 0 + (i - 0) = i by omega]
    exact h.2.2.2.1 i hi
  · rw [e2]
    by_cases c : i < t
    · rw [pk_cpy_in (by omega) (by omega)]; exact h.2.2.2.2 _
    · rw [pk_cpy_out (by omega)]; exact h2.2.2.2.2 i
