theorem inF_oo1 {x : Int32} {n : Nat} (h : inF x (nI 1) (nI n) = 0) (hn : n < 2 ^ 30) : oo1 x n := by
  intro k hk e
  subst e
  unfold inF at h
  rw [if_neg (show ¬ nI (k + 1) < nI 1 from nI_nlt (by omega) (by omega)), if_neg (nI_nlt (by omega) (by omega))] at h
  exact absurd h (by decide)
theorem inF_oord {x : Int32} {d : Nat} (h : inF x (nI 0) (nI d - nI 1) = 0) (hd : d ≤ 2 ^ 20) : oor x d := by
  intro k hk e
  subst e
  rw [pk_sub (by omega)] at h
  unfold inF at h
  rw [if_neg (show ¬ nI k < nI 0 from nI_pos (by omega)), if_neg (nI_nlt (by omega) (by omega))] at h
  exact absurd h (by decide)
theorem fd_ub (v : Int64) (k i : Nat) : fdB v k i = fdS v k i &&& nI 255 := by
  unfold fdB fdS
  rw [b255, l2i255]
theorem fd_fit (v : Int64) (k i : Nat) : fits .byte (.int (fdS v k i)) = true := pk_fb _
theorem RT_feed {S M S9 M9 : wS} {t k : Nat} {v : Int64} (h : RT S M t) (hk : t + (k + 1) ≤ 200) (e1 : S9.1 58 1 = nI (t + (k + 1))) (e2 : S9.2.1 59 = pts (S.2.1 59) t (fdS v k) (k + 1)) (e3 : M9.1 0 12 = nI (t + (k + 1))) (e4 : M9.2.1 10 = pts (M.2.1 10) t (fdB v k) (k + 1)) : RT S9 M9 (t + (k + 1)) := by
  refine ⟨e1, e3, hk, fun i hi => ?_, fun i => ?_⟩
  · rw [e2, e4, pts_at]
    unfold ub
    rw [pts_at]
    by_cases c : t ≤ i ∧ i < t + (k + 1)
    · rw [if_pos c, if_pos c, fd_ub]
    · rw [if_neg c, if_neg c]
      exact h.2.2.2.1 i (by omega)
  · rw [e2, pts_at]
    by_cases c : t ≤ i ∧ i < t + (k + 1)
    · rw [if_pos c]; exact fd_fit _ _ _
    · rw [if_neg c]; exact h.2.2.2.2 i
theorem RT_0 {S M S9 M9 : wS} {t : Nat} (h : RT S M t) (e1 : S9.1 58 1 = nI 0) (e2 : S9.2.1 59 = S.2.1 59) (e3 : M9.1 0 12 = nI 0) : RT S9 M9 0 := ⟨e1, e3, by omega, fun k hk => absurd hk (Nat.not_lt_zero k), by rw [e2]; exact h.2.2.2.2⟩
theorem RS_key {S M S9 M9 : wS} {t ks : Nat} (h : RT S M t) (h2 : RS S M ks) (e1 : S9.1 60 1 = nI t) (e2 : S9.2.1 61 = va_cpy (S.2.1 59) (S.2.1 61) 0 0 t) (e3 : M9.1 0 14 = nI t) (e4 : M9.2.1 11 = cps (M.2.1 11) (M.2.1 10) t) : RS S9 M9 t := by
  refine ⟨e1, e3, h.2.2.1, fun i hi => ?_, fun i => ?_⟩
  · rw [e2, e4, cps_at, if_pos hi]
    unfold ub
    rw [pk_cpy_in (by omega) (by omega), show 0 + (i - 0) = i by omega]
    exact h.2.2.2.1 i hi
  · rw [e2]
    by_cases c : i < t
    · rw [pk_cpy_in (by omega) (by omega)]; exact h.2.2.2.2 _
    · rw [pk_cpy_out (by omega)]; exact h2.2.2.2.2 i
theorem nI_0e : nI 0 = (0 : Int32) := rfl
/-- pairs that meet, counted in two ways -/
def hit (f : Nat → Int32) (n : Nat) : Nat → Nat
  | 0 => 0
  | a + 1 => hit f n a + if f a = f n then 1 else 0
theorem pjo_s (f : Nat → Int32) (n : Nat) : ∀ a, a ≤ n → pjo f (n + 1) a = pjo f n a + hit f n a
  | 0, _ => rfl
  | a + 1, h => by
    have ih := pjo_s f n a (by omega)
    have e1 : n + 1 - (a + 1) = (n - (a + 1)) + 1 := by omega
    have e2 : a + 1 + (n - (a + 1)) = n := by omega
    simp only [pjo, hit]
    rw [ih, e1]
    simp only [pjn]
    rw [e2]
    by_cases c : f a = f n
    · rw [if_pos c, if_pos c]; omega
    · rw [if_neg c, if_neg c]; omega
theorem pin_hit (f : Nat → Int32) (n : Nat) : ∀ a, pin f n a = hit f n a
  | 0 => rfl
  | a + 1 => by
    simp only [pin, hit]
    rw [pin_hit f n a]
    by_cases c : f a = f n
    · rw [if_pos c.symm, if_pos c]
    · rw [if_neg (fun h => c h.symm), if_neg c]; omega
theorem pjo_pout (f : Nat → Int32) : ∀ n, pjo f n n = pout f n
  | 0 => rfl
  | n + 1 => by
    have h1 : pjo f (n + 1) (n + 1) = pjo f (n + 1) n + pjn f n (n + 1 - (n + 1)) := rfl
    rw [h1, Nat.sub_self, pjo_s f n n (Nat.le_refl _), pjo_pout f n]
    simp only [pjn, pout]
    rw [pin_hit]
    omega
theorem pin_cg {f g : Nat → Int32} {a : Nat} (ha : f a = g a) : ∀ b, (∀ i, i < b → f i = g i) → pin f a b = pin g a b
  | 0, _ => rfl
  | b + 1, h => by
    simp only [pin]
    rw [pin_cg ha b (fun i hi => h i (by omega)), ha, h b (by omega)]
theorem pout_cg {f g : Nat → Int32} : ∀ n, (∀ i, i < n → f i = g i) → pout f n = pout g n
  | 0, _ => rfl
  | n + 1, h => by
    simp only [pout]
    rw [pout_cg n (fun i hi => h i (by omega)), pin_cg (h n (by omega)) n (fun i hi => h i (by omega))]
theorem sb_inj {x y : Int32} (hx : x = x.toInt8.toInt32) (hy : y = y.toInt8.toInt32) (h : x &&& nI 255 = y &&& nI 255) : x = y := by
  have e : x.toInt8 = y.toInt8 := by
    apply Int8.toBitVec_inj.mp
    rw [Int32.toBitVec_toInt8, Int32.toBitVec_toInt8]
    apply BitVec.eq_of_getLsbD_eq
    intro i hi
    have h2 := congrArg (fun z : Int32 => z.toBitVec.getLsbD i) h
    simp only [Int32.toBitVec_and, BitVec.getLsbD_and] at h2
    have h3 : (nI 255).toBitVec.getLsbD i = true := by
      have h4 : ∀ i : Fin 8, (nI 255).toBitVec.getLsbD i.val = true := by decide
      exact h4 ⟨i, hi⟩
    rw [h3, Bool.and_true, Bool.and_true] at h2
    rw [BitVec.getLsbD_signExtend, BitVec.getLsbD_signExtend, if_pos (by omega), if_pos (by omega), h2]
  rw [hx, hy, e]
theorem fit_sb {x : Int32} (h : fits .byte (.int x) = true) : x = x.toInt8.toInt32 := by
  have h1 : (-128 : Int32) ≤ x ∧ x ≤ 127 := by simpa [fits] using h
  have a : (-128 : Int) ≤ x.toInt := Int32.le_iff_toInt_le.mp h1.1
  have b : x.toInt ≤ 127 := Int32.le_iff_toInt_le.mp h1.2
  apply Int32.toInt_inj.mp
  rw [Int8.toInt_toInt32, Int32.toInt_toInt8]
  have h2 : x.toInt.bmod (2 ^ 8) = x.toInt := by
    rw [Int.bmod_def]
    omega
  exact h2.symm
theorem upd_n {f : Nat → Int32} {k j : Nat} {x : Int32} (h : ¬ j = k) : upd f k x j = f j := pk_un h
/-- a leaf's digest in both -/
theorem lf_eq {S M M9 : wS} {lz : Nat → Nat} {tr lf kd t : Nat} (hT : RT S M t) (hK : RK M) (m0 : M9.2.1 23 (12 * tr + lf) = nI kd) (m3 : M9.2.1 25 = pts (M.2.1 25) (40 * (12 * tr + lf)) (M.2.1 10) t) (m4 : M9.2.1 1 = M.2.1 1) (m5 : M9.2.1 2 = M.2.1 2) (hz : lz (12 * tr + lf) = t) : ∀ j, j < 8 → lfD kd t (S.2.1 59) j = lfF M9 lz tr lf j := by
  intro j hj
  unfold lfD lfF
  rw [m4, m5, hK.1, hK.2.1, m0, hz, show 0 + 1 + 1 + 1 + t = 3 + t by omega]
  refine (shaC_cg (fun _ _ => rfl) (fun _ _ => rfl) (fun i hi => ?_)).1 j hj
  unfold lfB
  by_cases c0 : i = 0
  · rw [if_pos c0, if_pos c0]
  · rw [if_neg c0, if_neg c0]
    by_cases c1 : i = 1
    · rw [if_pos c1, if_pos c1]
    · rw [if_neg c1, if_neg c1]
      by_cases c2 : i = 2
      · rw [if_pos c2, if_pos c2]
      · rw [if_neg c2, if_neg c2, m3]
        dsimp only
        rw [pts_at, if_pos (by omega), show 40 * (12 * tr + lf) + (i - 3) - 40 * (12 * tr + lf) = i - 3 by omega, hT.2.2.2.1 (i - 3) (by omega)]
theorem lf_old {M M9 : wS} {lz lz9 : Nat → Nat} {tr lf t j a : Nat} (hne : ¬ 12 * j + a = 12 * tr + lf) (ht : t ≤ 40) (x0 : M9.2.1 23 (12 * j + a) = M.2.1 23 (12 * j + a)) (m3 : M9.2.1 25 = pts (M.2.1 25) (40 * (12 * tr + lf)) (M.2.1 10) t) (m4 : M9.2.1 1 = M.2.1 1) (m5 : M9.2.1 2 = M.2.1 2) (hz : lz9 (12 * j + a) = lz (12 * j + a)) (hz2 : lz (12 * j + a) ≤ 40) : ∀ q, q < 8 → lfF M9 lz9 j a q = lfF M lz j a q := by
  intro q hq
  unfold lfF
  rw [m4, m5, x0, hz]
  refine (shaC_cg (fun _ _ => rfl) (fun _ _ => rfl) (fun i hi => ?_)).1 q hq
  unfold lfB
  by_cases c0 : i = 0
  · rw [if_pos c0, if_pos c0]
  · rw [if_neg c0, if_neg c0]
    by_cases c1 : i = 1
    · rw [if_pos c1, if_pos c1]
    · rw [if_neg c1, if_neg c1]
      by_cases c2 : i = 2
      · rw [if_pos c2, if_pos c2]
      · rw [if_neg c2, if_neg c2, m3]
        dsimp only
        rw [pts_at, if_neg (by omega)]
theorem RB_lay {S M S9 M9 : wS} {lv lv' lz lz9 : Nat → Nat} {tr lf kd t : Nat} (hz1 : lz9 (12 * tr + lf) = t) (hz2 : ∀ i, ¬ i = 12 * tr + lf → lz9 i = lz i) (h : RB S M lv lz) (hT : RT S M t) (hK : RK M) (ht40 : t ≤ 40) (htr : tr < 4) (hlf : lf < 12)
    (c1 : ∀ j, j < 4 → S9.1 (38 + 3 * j) 2 = nI (lv' j) ∧ M9.2.1 22 j = nI (lv' j) ∧ lv' j ≤ 12 ∧ ∀ a, a < lv' j → (j = tr ∧ a = lf) ∨ a < lv j)
    (c2 : S9.2.1 (39 + 3 * tr) = upd (S.2.1 (39 + 3 * tr)) lf (nI kd)) (c3 : ∀ j, j < 4 → ¬ j = tr → S9.2.1 (39 + 3 * j) = S.2.1 (39 + 3 * j)) (c4 : ∀ k, k < 32 → S9.2.1 (182 + 24 * tr + lf) k = sbH (lfD kd t (S.2.1 59)) k) (c5 : ∀ j a, j < 4 → a < 24 → ¬ (j = tr ∧ a = lf) → S9.2.1 (182 + 24 * j + a) = S.2.1 (182 + 24 * j + a))
    (m1 : M9.2.1 23 = upd (M.2.1 23) (12 * tr + lf) (nI kd)) (m2 : M9.2.1 24 = upd (M.2.1 24) (12 * tr + lf) (nI t)) (m3 : M9.2.1 25 = pts (M.2.1 25) (40 * (12 * tr + lf)) (M.2.1 10) t) (m4 : M9.2.1 1 = M.2.1 1) (m5 : M9.2.1 2 = M.2.1 2) : RB S9 M9 lv' lz9 := by
  intro j hj
  obtain ⟨x1, x2, x3, x4⟩ := c1 j hj
  refine ⟨x1, x2, x3, fun a ha => ?_⟩
  by_cases c : j = tr ∧ a = lf
  · obtain ⟨rfl, rfl⟩ := c
    refine ⟨by rw [c2, m1, pk_us, pk_us], by rw [m2, pk_us, hz1], by rw [hz1]; exact ht40, fun k hk => ?_⟩
    rw [c4 k hk]
    exact sbH_cg (lf_eq hT hK (by rw [m1, pk_us]) m3 m4 m5 hz1) k hk
  · have hal : a < lv j := (x4 a ha).resolve_left c
    obtain ⟨g1, g2, g3, g4⟩ := h j hj
    have hne : ¬ 12 * j + a = 12 * tr + lf := by omega
    obtain ⟨y1, y2, y3, y4⟩ := g4 a hal
    refine ⟨?_, by rw [m2, pk_un hne, hz2 _ hne]; exact y2, by rw [hz2 _ hne]; exact y3, fun k hk => ?_⟩
    · rw [m1, pk_un hne]
      by_cases e : j = tr
      · subst e
        rw [c2, pk_un (by omega)]; exact y1
      · rw [c3 j hj e]; exact y1
    · rw [c5 j a hj (by omega) c, y4 k hk]
      exact sbH_cg (fun q hq => (lf_old hne ht40 (by rw [m1, pk_un hne]) m3 m4 m5 (hz2 _ hne) y3 q hq).symm) k hk

/-- what setLeaf leaves, seen from outside -/
theorem slP_o {S S9 : wS} {tr lf kd t : Nat} (htr : tr < 4) (hlf : lf < 12) (h : slP S tr lf kd t S9) : S9.1 58 1 = nI 0 ∧ S9.2.1 (39 + 3 * tr) = upd (S.2.1 (39 + 3 * tr)) lf (nI kd) ∧ (∀ k, k < 32 → S9.2.1 (182 + 24 * tr + lf) k = sbH (lfD kd t (S.2.1 59)) k) ∧ (∀ i, 3 ≤ i → ¬ i = 58 → S9.1 i = S.1 i ∨ i = 182 + 24 * tr + lf) ∧ ∀ i, 3 ≤ i → ¬ i = 39 + 3 * tr → ¬ i = 182 + 24 * tr + lf → S9.2.1 i = S.2.1 i := by
  obtain ⟨T, hT, rfl⟩ := h
  refine ⟨rfl, ?_, hT.2, fun i h3 h58 => ?_, fun i h3 h39 h182 => ?_⟩
  · show T.2.1 (39 + 3 * tr) = _
    rw [(hT.1 (39 + 3 * tr) (by omega) (by omega)).2]
    exact up_at _ _ _
  · by_cases c : i = 182 + 24 * tr + lf
    · exact Or.inr c
    · left
      show va_up T.1 58 _ i = _
      rw [va_up_ne _ _ h58]
      exact (hT.1 i h3 c).1
  · show T.2.1 i = _
    rw [(hT.1 i h3 h182).2]
    exact va_up_ne _ _ h39
