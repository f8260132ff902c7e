/-- a key's place in the reference -/
theorem pk_o {M0 : wS} {ks pl : Nat} {key : Nat → Int32} (hK : M0.2.1 1 = kC) (hW : M0.2.1 2 = wC0) (hk : ∀ i, i < ks → M0.2.1 11 i = ub key i) : (∀ i, i < 64 → lk0 ks key i &&& nI 255 = (pkS M0 ks pl).2.1 16 (64 * pl + i)) ∧ (pkS M0 ks pl).2.1 17 pl = nI (lkQ ks) ∧ (∀ i, ¬ (64 * pl ≤ i ∧ i < 64 * pl + 64) → (pkS M0 ks pl).2.1 16 i = M0.2.1 16 i) ∧ (∀ p, ¬ p = pl → (pkS M0 ks pl).2.1 17 p = M0.2.1 17 p) ∧ ∃ q, (pkS M0 ks pl).1 0 11 = nI q := by
  have hz : (0 : Int32) &&& nI 255 = nI 0 := by decide
  have hQ : lkQ ks = pkQ ks := by
    unfold lkQ pkQ
    by_cases c : ks ≤ 64
    · rw [if_pos c, if_pos c]
    · rw [if_neg c, if_neg c, Nat.zero_add, Nat.zero_add]
  refine ⟨fun i hi => ?_, by rw [hQ]; exact pkS_17 M0 ks pl, ?_⟩
  · unfold pkS lk0
    by_cases c : ks ≤ 64
    · rw [if_pos c, if_pos c]
      show _ = pts (M0.2.1 16) (64 * pl) (kpd (M0.2.1 11) ks) 64 (64 * pl + i)
      rw [pts_at, if_pos (show 64 * pl ≤ 64 * pl + i ∧ 64 * pl + i < 64 * pl + 64 by omega), show 64 * pl + i - 64 * pl = i by omega]
      unfold kpd
      by_cases b : i < ks
      · rw [if_pos b, if_pos ⟨c, b⟩, hk i b]; rfl
      · rw [if_neg b, if_neg (by omega), hz]
    · rw [if_neg c, if_neg c]
      show _ = pts (pts (M0.2.1 16) (64 * pl) (kpd (M0.2.1 11) ks) 64) (64 * pl) (byH ((pk2 M0 ks pl).2.1 8)) 32 (64 * pl + i)
      rw [pts_at]
      by_cases b : i < 32
      · rw [if_pos b, if_pos (by omega), show 64 * pl + i - 64 * pl = i by omega, ub_sbH]
        refine byH_cg (fun j hj => ?_) i b
        obtain ⟨x1, -⟩ := wrk_h (pk1 M0 ks pl) (nI 0) (cps (M0.2.1 7) (M0.2.1 11) ks) ks 0
        unfold pk2
        rw [x1 j hj]
        have e1 : (pk1 M0 ks pl).2.1 1 = kC := hK
        have e2 : hSrc (pk1 M0 ks pl) (nI 0) = wC0 := (if_pos (by decide)).trans hW
        rw [e1, e2, Nat.zero_add]
        exact (shaC_cg (fun _ _ => rfl) (fun _ _ => rfl) (fun i hi => by rw [cps_at, if_pos hi, hk i hi])).1 j hj
      · rw [if_neg b, if_neg (by omega), hz, pts_at, if_pos (by omega)]
        unfold kpd
        rw [if_neg (by omega)]
  · unfold pkS
    split
    · refine ⟨fun i hi => ?_, fun p hp => ?_, 0, rfl⟩
      · show pts (M0.2.1 16) (64 * pl) (kpd (M0.2.1 11) ks) 64 i = _
        rw [pts_at, if_neg hi]
      · show upd (M0.2.1 17) pl _ p = _
        rw [pk_un hp]
    · refine ⟨fun i hi => ?_, fun p hp => ?_, ?_⟩
      · show pts (pts (M0.2.1 16) (64 * pl) (kpd (M0.2.1 11) ks) 64) (64 * pl) (byH ((pk2 M0 ks pl).2.1 8)) 32 i = _
        rw [pts_at, if_neg (by omega), pts_at, if_neg hi]
      · show upd (M0.2.1 17) pl _ p = _
        rw [pk_un hp]
      · exact ⟨_, (wrk_o (pk1 M0 ks pl) (nI 0) (cps (M0.2.1 7) (M0.2.1 11) ks) ks 0).2.1⟩
/-- streams, with only key place 0 changed -/
theorem RG.cg2 {S S' M M' : wS} (h : RG S M) (hS : sam cG S S') (h2 : ∀ i, 64 ≤ i → M'.2.1 16 i = M.2.1 16 i) (h3 : ∀ p, 1 ≤ p → M'.2.1 17 p = M.2.1 17 p) (h4 : M'.2.1 18 = M.2.1 18) (h6 : M'.2.1 19 = M.2.1 19) (h5 : M'.2.1 20 = M.2.1 20) : RG S' M' := by
  intro j hj
  obtain ⟨n, b1, b2, b3⟩ := h j hj
  refine ⟨n, by rw [h6]; exact b1, b2, ?_⟩
  rcases b3 with ⟨c1, c2⟩ | ⟨k, lk, bl, g, c⟩
  · exact Or.inl ⟨by rw [(hS _ (Or.inr (by omega))).1]; exact c1, by rw [h5]; exact c2⟩
  · exact Or.inr ⟨k, lk, bl, g, c.cg1 (fun i hi => hS i (by unfold cG; omega)) (fun i hi => h2 _ (by omega)) (h3 _ (by omega)) (fun i hi => by rw [h4]) (by rw [h5])⟩
/-- stream j is set anew; the others stand -/
theorem RG_at {S S' M M' : wS} {j : Nat} (hj4 : j < 4) (h : RG S M) (hS : ∀ i, ¬ (3 * (j + 1) ≤ i ∧ i < 3 * (j + 1) + 3) → ¬ (15 + 3 * (j + 1) ≤ i ∧ i < 18 + 3 * (j + 1)) → cG i → S'.1 i = S.1 i ∧ S'.2.1 i = S.2.1 i) (h2 : ∀ i, ¬ (64 * (j + 1) ≤ i ∧ i < 64 * (j + 1) + 64) → M'.2.1 16 i = M.2.1 16 i) (h3 : ∀ p, ¬ p = j + 1 → M'.2.1 17 p = M.2.1 17 p) (h4 : M'.2.1 18 = M.2.1 18) (h6 : ∀ q, ¬ q = j → M'.2.1 19 q = M.2.1 19 q) (h5 : ∀ q, ¬ q = j → M'.2.1 20 q = M.2.1 20 q)
    (hj : ∃ n, M'.2.1 19 j = nI n ∧ n ≤ 2000 ∧ ((S'.1 (15 + 3 * (j + 1)) 3 = nI 0 ∧ M'.2.1 20 j = (-1)) ∨ ∃ k lk bl g, RO S' M' j k lk bl g n)) : RG S' M' := by
  intro q hq
  by_cases c : q = j
  · subst c; exact hj
  · obtain ⟨n, b1, b2, b3⟩ := h q hq
    refine ⟨n, by rw [h6 q c]; exact b1, b2, ?_⟩
    rcases b3 with ⟨c1, c2⟩ | ⟨k, lk, bl, g, c9⟩
    · exact Or.inl ⟨by rw [(hS (15 + 3 * (q + 1)) (by omega) (by omega) (by unfold cG; omega)).1]; exact c1, by rw [h5 q c]; exact c2⟩
    · exact Or.inr ⟨k, lk, bl, g, c9.cg1 (fun i hi => hS i (by omega) (by omega) (by unfold cG; omega)) (fun i hi => h2 _ (by omega)) (h3 _ (by omega)) (fun i hi => by rw [h4]) (h5 q c)⟩
/-- behind a digest: all parts but the tape's and the streams' -/
theorem dig_rest {S U S9 M M1 M2 M9 : wS} {k d q : Nat} {hh ww H W : Nat → Int32} (h : Rel S M) (hD : RD S M d) (hd : d < 60) (hs : ∀ i, 30 ≤ i → i ≠ 58 → ¬ cD i → S9.1 i = S.1 i ∧ S9.2.1 i = S.2.1 i) (hU : sam cD S U) (hsh : shA U S9 k d q hh ww) (hw : ∃ f : Nat → Int32, ∀ t, t < 64 → ww t = schN f 48 t) (hmd : mdP M1 M2 k d q H W) (hH : ∀ j, j < 8 → H j = hh j) (hW : ∀ t, t < 64 → W t = ww t)
    (g1 : ∀ k, k ≠ 0 → k ≠ 8 → k ≠ 11 → M1.1 0 k = M.1 0 k) (g2 : ∀ i, i ≠ 7 → i ≠ 8 → i ≠ 9 → i ≠ 16 → i ≠ 17 → i ≠ 19 → i ≠ 20 → M1.2.1 i = M.2.1 i) (f1 : ∀ k, k ≠ 12 → M9.1 0 k = M2.1 0 k) (f2 : ∀ i, i ≠ 20 → M9.2.1 i = M2.2.1 i) :
    RK M9 ∧ (∃ ks, RS S9 M9 ks) ∧ (∃ d, RD S9 M9 d) ∧ (∃ lv lz, RB S9 M9 lv lz) ∧ (∃ pv, RP S9 M9 pv) ∧ ∃ R9 rz, RR S9 M9 R9 rz := by
  obtain ⟨h1, ⟨t9, h2⟩, ⟨ks, h3⟩, ⟨d8, h4⟩, h5, ⟨lv, lz, h6⟩, ⟨pv, h7⟩, ⟨R9, rz, h8⟩⟩ := h
  obtain ⟨hm, wm, e1, e2, k1, k2, k3, k4, k5, ⟨q9, k6⟩, k7, k8⟩ := hmd
  have ga : ∀ i, (i ≠ 7 ∧ i ≠ 8 ∧ i ≠ 9 ∧ i ≠ 12 ∧ i ≠ 13 ∧ i ≠ 14 ∧ i ≠ 15 ∧ i ≠ 16 ∧ i ≠ 17 ∧ i ≠ 19 ∧ i ≠ 20 ∧ i ≠ 21) → M9.2.1 i = M.2.1 i := fun i hi => (f2 i (by omega)).trans ((k8 i (by omega)).trans (g2 i (by omega) (by omega) (by omega) (by omega) (by omega) (by omega) (by omega)))
  have gf : ∀ k, (k ≠ 0 ∧ k ≠ 8 ∧ k ≠ 11 ∧ k ≠ 12 ∧ k ≠ 16) → M9.1 0 k = M.1 0 k := fun k hk => (f1 k (by omega)).trans ((k7 k (by omega) (by omega) (by omega)).trans (g1 k (by omega) (by omega) (by omega)))
  have gD : ∀ i, i = 12 ∨ i = 13 ∨ i = 14 ∨ i = 15 → M1.2.1 i = M.2.1 i := fun i hi => g2 i (by omega) (by omega) (by omega) (by omega) (by omega) (by omega) (by omega)
  refine ⟨⟨(ga 1 (by decide)).trans h1.1, (ga 2 (by decide)).trans h1.2.1, (ga 3 (by decide)).trans h1.2.2.1, q9, (f1 11 (by decide)).trans k6⟩, ⟨ks, h3.cg (fun i hi => hs i (by unfold cK at hi; omega) (by unfold cK at hi; omega) (by unfold cK at hi; unfold cD; omega)) (gf 14 (by decide)) (ga 11 (by decide))⟩, ⟨d + 1, RD_add hD hd hU hsh hw ((f1 16 (by decide)).trans k1) ?_ ?_ ?_ ?_ (fun j hj => (e1 j hj).trans (hH j hj)) (fun t ht => (e2 t ht).trans (hW t ht))⟩, ⟨lv, lz, h6.cg (fun i hi => hs i (by unfold cB at hi; omega) (by unfold cB at hi; omega) (by unfold cB at hi; unfold cD; omega)) (ga 1 (by decide)) (ga 2 (by decide)) (ga 22 (by decide)) (ga 23 (by decide)) (ga 24 (by decide)) (ga 25 (by decide))⟩, ⟨pv, h7.cg (fun i hi => hs i (by unfold cP at hi; omega) (by unfold cP at hi; omega) (by unfold cP at hi; unfold cD; omega)) (gf 32 (by decide)) (ga 27 (by decide))⟩, ⟨R9, rz, h8.cg (fun i hi => hs i (by unfold cR at hi; omega) (by unfold cR at hi; omega) (by unfold cR at hi; unfold cD; omega)) (gf 34 (by decide)) (gf 38 (by decide)) (ga 28 (by decide)) (ga 29 (by decide)) (ga 30 (by decide))⟩⟩
  · rw [f2 12 (by decide), k2, gD 12 (by decide)]
  · rw [f2 13 (by decide), k3, gD 13 (by decide)]
  · rw [f2 14 (by decide), k4, gD 14 (by decide)]
  · rw [f2 15 (by decide), k5, gD 15 (by decide)]
