/-- only mill 0 and the node have changed; only the reference's scratch -/
theorem Rel.ag {S S9 M M9 : wS} (h : Rel S M) (hs : ∀ i, 3 ≤ i → i ≠ 56 → S9.1 i = S.1 i ∧ S9.2.1 i = S.2.1 i) (hag : agM (sI M 0 0 (nI 0)) M9) : Rel S9 M9 := by
  obtain ⟨h1, ⟨t9, h2⟩, ⟨ks, h3⟩, ⟨d, h4⟩, h5, ⟨lv, lz, h6⟩, ⟨pv, h7⟩, ⟨R9, rz, h8⟩⟩ := h
  have ga : ∀ i, (i ≠ 7 ∧ i ≠ 8 ∧ i ≠ 9 ∧ i ≠ 26) → M9.2.1 i = M.2.1 i := fun i q => hag.2.1 i (by omega) (by omega) (by omega) (by omega)
  have gf : ∀ k, (k ≠ 0 ∧ k ≠ 8 ∧ k ≠ 11) → M9.1 0 k = M.1 0 k := fun k q => (hag.1 k (by omega) (by omega)).trans (by simp [sI, va_up, q.1])
  exact ⟨⟨(ga 1 (by decide)).trans h1.1, (ga 2 (by decide)).trans h1.2.1, (ga 3 (by decide)).trans h1.2.2.1, hag.2.2⟩,
    ⟨t9, h2.cg (fun i hi => hs i (by unfold cTa at hi; omega) (by unfold cTa at hi; omega)) (gf 12 (by decide)) (ga 10 (by decide))⟩,
    ⟨ks, h3.cg (fun i hi => hs i (by unfold cK at hi; omega) (by unfold cK at hi; omega)) (gf 14 (by decide)) (ga 11 (by decide))⟩,
    ⟨d, h4.cg (fun i hi => hs i (by unfold cD at hi; omega) (by unfold cD at hi; omega)) (gf 16 (by decide)) (ga 12 (by decide)) (ga 13 (by decide)) (ga 14 (by decide)) (ga 15 (by decide))⟩,
    h5.cg (fun i hi => hs i (by unfold cG at hi; omega) (by unfold cG at hi; omega)) (ga 16 (by decide)) (ga 17 (by decide)) (ga 18 (by decide)) (ga 19 (by decide)) (ga 20 (by decide)),
    ⟨lv, lz, h6.cg (fun i hi => hs i (by unfold cB at hi; omega) (by unfold cB at hi; omega)) (ga 1 (by decide)) (ga 2 (by decide)) (ga 22 (by decide)) (ga 23 (by decide)) (ga 24 (by decide)) (ga 25 (by decide))⟩,
    ⟨pv, h7.cg (fun i hi => hs i (by unfold cP at hi; omega) (by unfold cP at hi; omega)) (gf 32 (by decide)) (ga 27 (by decide))⟩,
    ⟨R9, rz, h8.cg (fun i hi => hs i (by unfold cR at hi; omega) (by unfold cR at hi; omega)) (gf 34 (by decide)) (gf 38 (by decide)) (ga 28 (by decide)) (ga 29 (by decide)) (ga 30 (by decide))⟩⟩
theorem agM.wr {S X : wS} (h : agM S X) (n : Nat) : agM S (wrS (tlS X 0) n) := by
  obtain ⟨w1, w2, w3⟩ := wrS_o (tlS X 0) n
  generalize wrS (tlS X 0) n = Y at w1 w2 w3
  refine ⟨fun k a b => (w1 k a b).trans (h.1 k a b), fun i a b c e => (w3 i a b c).trans ?_, w2⟩
  rw [← h.2.1 i a b c e]
  show va_up X.2.1 26 _ i = _
  rw [va_up_ne _ _ e]
theorem ckF_du (K h0 : Nat → Int32) (pf : Nat → Nat → Int32) (pv : Nat) : ∀ g n a u c, u ≤ pv → (u + dueF g n a ≤ pv → ∃ c', ckF K h0 pf pv g n a u c = some (u + dueF g n a, c')) ∧ (pv < u + dueF g n a → ckF K h0 pf pv g n a u c = none)
  | 0, n, a, u, c, hu => ⟨fun _ => ⟨c, rfl⟩, fun h => absurd hu (Nat.not_le.mpr h)⟩
  | g + 1, n, a, u, c, hu => by
    by_cases h : n ≤ 1
    · rw [ckF_1 _ _ _ _ _ _ _ _ _ h, dueF_1 _ _ _ h]
      exact ⟨fun _ => ⟨c, rfl⟩, fun h => absurd hu (by omega)⟩
    · by_cases hb : bsd a < n
      · rw [dueF_s _ _ _ (by omega), if_pos hb]
        by_cases e : u = pv
        · rw [ckF_x _ _ _ _ _ _ _ _ _ (by omega) hb e]
          exact ⟨fun z => by omega, fun _ => rfl⟩
        · rw [ckF_y _ _ _ _ _ _ _ _ _ (by omega) hb e, show u + (1 + dueF g ((n + 1) / 2) (a / 2)) = (u + 1) + dueF g ((n + 1) / 2) (a / 2) by omega]
          exact ckF_du K h0 pf pv g _ _ (u + 1) _ (by omega)
      · rw [dueF_s _ _ _ (by omega), if_neg hb, ckF_n _ _ _ _ _ _ _ _ _ (by omega) hb, Nat.zero_add]
        exact ckF_du K h0 pf pv g _ _ u _ hu
theorem ckF_cg (K h0 : Nat → Int32) (pf : Nat → Nat → Int32) (pv : Nat) : ∀ g n a u c c', (∀ j, j < 8 → c j = c' j) → ∀ u1 c1 u2 c2, ckF K h0 pf pv g n a u c = some (u1, c1) → ckF K h0 pf pv g n a u c' = some (u2, c2) → ∀ j, j < 8 → c1 j = c2 j
  | 0, n, a, u, c, c', h, u1, c1, u2, c2, e1, e2 => by
    simp only [ckF, Option.some.injEq, Prod.mk.injEq] at e1 e2
    rw [← e1.2, ← e2.2]; exact h
  | g + 1, n, a, u, c, c', h, u1, c1, u2, c2, e1, e2 => by
    by_cases hn : n ≤ 1
    · rw [ckF_1 _ _ _ _ _ _ _ _ _ hn] at e1 e2
      simp only [Option.some.injEq, Prod.mk.injEq] at e1 e2
      rw [← e1.2, ← e2.2]; exact h
    · by_cases hb : bsd a < n
      · by_cases e : u = pv
        · rw [ckF_x _ _ _ _ _ _ _ _ _ (by omega) hb e] at e1
          exact absurd e1 (by simp)
        · rw [ckF_y _ _ _ _ _ _ _ _ _ (by omega) hb e] at e1 e2
          refine ckF_cg K h0 pf pv g _ _ (u + 1) _ _ ?_ u1 c1 u2 c2 e1 e2
          by_cases z : a % 2 = 0
          · rw [if_pos z, if_pos z]
            exact prH_cg (fun _ _ => rfl) (fun _ _ => rfl) h (fun _ _ => rfl)
          · rw [if_neg z, if_neg z]
            exact prH_cg (fun _ _ => rfl) (fun _ _ => rfl) (fun _ _ => rfl) h
      · rw [ckF_n _ _ _ _ _ _ _ _ _ (by omega) hb] at e1 e2
        exact ckF_cg K h0 pf pv g _ _ u _ _ h u1 c1 u2 c2 e1 e2
theorem lfD_eq {S M : wS} {t : Nat} (hT : RT S M t) (hK : RK M) (kd : Nat) : ∀ j, j < 8 → lfD kd t (S.2.1 59) j = shaC (M.2.1 1) (M.2.1 2) (lfB (nI kd) (nI t) (M.2.1 10)) (3 + t) j := by
  intro j hj
  unfold lfD
  rw [hK.1, hK.2.1, show 0 + 1 + 1 + 1 + t = 3 + t by omega]
  refine (shaC_cg (fun _ _ => rfl) (fun _ _ => rfl) (fun i hi => ?_)).1 j hj
  unfold lfB
  by_cases c0 : i = 0
  · rw [if_pos c0, if_pos c0]
  · rw [if_neg c0, if_neg c0]
    by_cases c1 : i = 1
    · rw [if_pos c1, if_pos c1]
    · rw [if_neg c1, if_neg c1]
      by_cases c2 : i = 2
      · rw [if_pos c2, if_pos c2]
      · rw [if_neg c2, if_neg c2, hT.2.2.2.1 (i - 3) (by omega)]
/-- the last step of check: both compare alike -/
theorem chk_eq {S M S1 T2 T11 : wS} {d e n : Nat} {c c1 : Nat → Int32} (hK : RK M) (hD : RD S M d) (he : e < d) (hn1 : 1 ≤ n) (hn : n ≤ 12) (hag : agM (sI M 0 0 (nI 0)) S1) (h8 : ∀ j, j < 8 → S1.2.1 8 j = c j) (hc : ∀ j, j < 8 → c1 j = c j) (hl : l32 (S.2.1 34 e) = 32) (hT2 : ∀ k, k < 32 → T2.2.1 56 k = sbH c1 k) (hw : wr1 S T11 56 (rtH n (T2.2.1 56))) : (∀ q, q < 32 → T11.2.1 56 q = T11.2.1 (62 + e) q) ↔ ∀ q, q < 32 → byH ((wrS (tlS S1 0) n).2.1 8) q = M.2.1 14 (32 * e + q) := by
  have gA : ∀ i, i ≠ 7 → i ≠ 8 → i ≠ 9 → i ≠ 26 → (tlS S1 0).2.1 i = M.2.1 i := fun i q1 q2 q3 q4 => by
    show va_up S1.2.1 26 _ i = _
    rw [va_up_ne _ _ q4]
    exact hag.2.1 i q1 q2 q3 q4
  have hd := hD.2.2.1
  have hF : ∀ i, i < 8 → (tlS S1 0).2.1 26 i = c1 i := fun i hi => by
    show pts (S1.2.1 26) (8 * 0) (S1.2.1 8) 8 i = _
    rw [pts_at, if_pos (by omega), show i - 8 * 0 = i by omega, h8 i hi, hc i hi]
  obtain ⟨x1, -⟩ := wrS_h (S := tlS S1 0) (R := T2.2.1 56) (top := c1) hn ((gA 1 (by decide) (by decide) (by decide) (by decide)).trans hK.1) ((gA 2 (by decide) (by decide) (by decide) (by decide)).trans hK.2.1) ⟨fun z => by omega, fun _ => hT2⟩ (fun _ => hF)
  generalize (wrS (tlS S1 0) n).2.1 8 = Y at x1
  generalize rtH n (T2.2.1 56) = H at x1 hw
  obtain ⟨g1, g2, g3, g4⟩ := hD.2.2.2 e he
  rw [← g1, hl] at g3
  have e62 : T11.2.1 (62 + e) = S.2.1 (62 + e) := (hw.1 (62 + e) (by omega) (by omega)).2
  rw [e62]
  constructor
  · intro h q hq
    rw [byH_cg x1 q hq, (g3 q hq).1, ← ub_sbH]
    unfold ub
    rw [← h q hq, hw.2 q hq]
  · intro h q hq
    have h2 := h q hq
    rw [byH_cg x1 q hq, (g3 q hq).1, ← ub_sbH] at h2
    rw [hw.2 q hq]
    exact sb_inj (by unfold sbH; rw [i8i8]) (g3 q hq).2 h2
