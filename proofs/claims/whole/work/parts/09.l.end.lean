/-- end, side by side -/
theorem end_rel {S S9 M M2 : wS} {j k d n bl : Nat} {lk g H W : Nat → Int32} (h : Rel S M) (hD : RD S M d) (hd : d < 60) (hj : j < 4) (hn : M.2.1 19 j = nI n) (hn2 : n ≤ 2000) (hf : fin9 (sI S (15 + 3 * (j + 1)) 3 (nI 0)) (j + 1) k lk g bl n d S9) (hmd : mdP (sI M 0 0 (nI 0)) M2 k d (fnQ k bl n) H W) (hH : ∀ q, q < 8 → H q = fnH k lk g n q) (hW : ∀ q, q < 64 → W q = fnW k lk g n q) : Rel S9 (sB M2 20 (upd (M2.2.1 20) j (-1))) := by
  obtain ⟨sh, so, so3⟩ := fin9_o (by omega) hd hf
  have hU1 : ∀ i, i ≠ 15 + 3 * (j + 1) → (sI S (15 + 3 * (j + 1)) 3 (nI 0)).1 i = S.1 i := fun i hi => by simp [sI, va_up, hi]
  have hs : ∀ i, ¬ (3 * (j + 1) ≤ i ∧ i < 3 * (j + 1) + 3) → ¬ (15 + 3 * (j + 1) ≤ i ∧ i < 18 + 3 * (j + 1)) → ¬ cD i → S9.1 i = S.1 i ∧ S9.2.1 i = S.2.1 i := fun i n1 n2 n4 => by
    obtain ⟨a, b⟩ := so i n4 n1 n2
    exact ⟨a.trans (hU1 i (by omega)), b⟩
  have hcD : sam cD S (sI S (15 + 3 * (j + 1)) 3 (nI 0)) := fun i hi => ⟨hU1 i (by unfold cD at hi; omega), rfl⟩
  obtain ⟨r1, r2, r3, r4, r5, r6⟩ := dig_rest (M9 := sB M2 20 (upd (M2.2.1 20) j (-1))) h hD hd (fun i n1 n2 n3 => hs i (by omega) (by omega) n3) hcD sh (fnW_sch _ _ _ _) hmd hH hW (fun k a _ _ => by simp [sI, va_up, a]) (fun i _ _ _ _ _ _ _ => rfl) (fun k _ => rfl) (fun i hi => by simp [sB, va_up, hi])
  obtain ⟨hm, wm, e1, e2, k1, k2, k3, k4, k5, k6, k7, k8⟩ := hmd
  obtain ⟨t, hT⟩ := h.2.1
  have ka : ∀ i, i = 10 ∨ i = 16 ∨ i = 17 ∨ i = 18 ∨ i = 19 → (sB M2 20 (upd (M2.2.1 20) j (-1))).2.1 i = M.2.1 i := fun i hi => by
    show va_up M2.2.1 20 _ i = _
    rw [va_up_ne _ _ (by omega), k8 i (by omega)]; rfl
  refine ⟨r1, ⟨t, hT.cg (fun i hi => hs i (by unfold cTa at hi; omega) (by unfold cTa at hi; omega) (by unfold cTa at hi; unfold cD; omega)) ?_ (ka 10 (by decide))⟩, r2, r3, RG_at hj h.2.2.2.2.1 (fun i n1 n2 hc => hs i n1 n2 (by unfold cG at hc; unfold cD; omega)) (fun i _ => by rw [ka 16 (by decide)]) (fun p _ => by rw [ka 17 (by decide)]) (ka 18 (by decide)) (fun q _ => by rw [ka 19 (by decide)]) (fun q hq => ?_) ⟨n, by rw [ka 19 (by decide)]; exact hn, hn2, Or.inl ⟨?_, ?_⟩⟩, r4, r5, r6⟩
  · show M2.1 0 12 = _
    rw [k7 12 (by decide) (by decide) (by decide)]; rfl
  · show upd (M2.2.1 20) j (-1) q = _
    rw [pk_un hq, k8 20 (by decide)]; rfl
  · rw [so3]
    show va_up S.1 (15 + 3 * (j + 1)) _ (15 + 3 * (j + 1)) 3 = _
    rw [up_at]; rfl
  · show upd (M2.2.1 20) j (-1) j = _
    rw [pk_us]
theorem end_rel01 {S S9 M : wS} {j k d n bl : Nat} {z : Int32} {lk g : Nat → Int32} (hk : k ≠ 2) (hz : ∀ X : wS, X.2.1 2 = wC0 → X.2.1 3 = nC0 → hSrc X z = hB k) (h : Rel S M) (hD : RD S M d) (hd : d < 60) (hj : j < 4) (hn : M.2.1 19 j = nI n) (hn2 : n ≤ 2000) (hR : RO S M j k lk bl g n) (hf : fin9 (sI S (15 + 3 * (j + 1)) 3 (nI 0)) (j + 1) k lk g bl n d S9) : Rel S9 (sB (mdA (sI M 0 0 (nI 0)) z (fun i => M.2.1 18 (2000 * j + i)) n k d) 20 (upd ((mdA (sI M 0 0 (nI 0)) z (fun i => M.2.1 18 (2000 * j + i)) n k d).2.1 20) j (-1))) := by
  obtain ⟨a1, a2, a3, a4, a5, a6⟩ := hR
  rcases a6 with ⟨-, rfl⟩ | ⟨c, -⟩
  · have hmd := mdA_o (sI M 0 0 (nI 0)) z (fun i => M.2.1 18 (2000 * j + i)) n k d
    have e1 : (sI M 0 0 (nI 0)).2.1 1 = kC := h.1.1
    rw [e1, hz (sI M 0 0 (nI 0)) h.1.2.1 h.1.2.2.1] at hmd
    obtain ⟨f1, f2⟩ := fn1_eq (k := k) (lk := lk) (n := n) hk a5
    have hq : fnQ k 0 n = 0 + padL n / 64 := by unfold fnQ; rw [if_neg hk]
    rw [← hq] at hmd
    exact end_rel h hD hd hj hn hn2 hf hmd f1 f2
  · exact absurd c hk
theorem end_rel2 {S S9 M : wS} {j d n bl mm : Nat} {lk g : Nat → Int32} (hmm : mm = 64 + 32) (h : Rel S M) (hD : RD S M d) (hd : d < 60) (hj : j < 4) (hn : M.2.1 19 j = nI n) (hn2 : n ≤ 2000) (hR : RO S M j 2 lk bl g n) (hf : fin9 (sI S (15 + 3 * (j + 1)) 3 (nI 0)) (j + 1) 2 lk g bl n d S9) : Rel S9 (sB (mdK (sI M 0 0 (nI 0)) (fun i => M.2.1 16 (64 * (j + 1) + i)) (fun i => M.2.1 18 (2000 * j + i)) n bl d mm) 20 (upd ((mdK (sI M 0 0 (nI 0)) (fun i => M.2.1 16 (64 * (j + 1) + i)) (fun i => M.2.1 18 (2000 * j + i)) n bl d mm).2.1 20) j (-1))) := by
  obtain ⟨a1, a2, a3, a4, a5, a6⟩ := hR
  rcases a6 with ⟨c, -⟩ | ⟨-, b1, b2⟩
  · exact absurd rfl c
  · have hmd := mdK_o (sI M 0 0 (nI 0)) (fun i => M.2.1 16 (64 * (j + 1) + i)) (fun i => M.2.1 18 (2000 * j + i)) n bl d mm (by omega)
    have e1 : (sI M 0 0 (nI 0)).2.1 1 = kC := h.1.1
    have e2 : (sI M 0 0 (nI 0)).2.1 2 = wC0 := h.1.2.1
    rw [e1, e2] at hmd
    obtain ⟨f1, f2⟩ := fn2_eq (lk := lk) (L := fun i => M.2.1 16 (64 * (j + 1) + i)) (g := g) (f := fun i => M.2.1 18 (2000 * j + i)) (n := n) hmm b1 a5
    have hq : fnQ 2 bl n = bl + padL (64 + n) / 64 + padL mm / 64 := by unfold fnQ; rw [if_pos rfl, hmm]
    rw [← hq] at hmd
    exact end_rel h hD hd hj hn hn2 hf hmd f1 f2
/-- open, side by side: M9 by what it holds -/
theorem open_rel {S U S9 M M9 : wS} {j k bl : Nat} {lk : Nat → Int32} (h : Rel S M) (hj : j < 4) (hk : k ≤ 2) (hbo : bgO S U (j + 1)) (hMO : MO (pul U (fMg (j + 1) 58)) k lk bl (fun _ => 0) 0) (hS9 : S9 = sI U (15 + 3 * (j + 1)) 3 (nI 1)) (hkk : (k ≠ 2 ∧ bl = 0) ∨ (k = 2 ∧ (∀ i, i < 64 → lk i &&& nI 255 = M9.2.1 16 (64 * (j + 1) + i)) ∧ M9.2.1 17 (j + 1) = nI bl))
    (g0 : ∃ q, M9.1 0 11 = nI q) (g1 : ∀ k, k ≠ 0 → k ≠ 8 → k ≠ 11 → M9.1 0 k = M.1 0 k) (g2 : ∀ i, i ≠ 7 → i ≠ 8 → i ≠ 9 → i ≠ 16 → i ≠ 17 → i ≠ 19 → i ≠ 20 → M9.2.1 i = M.2.1 i) (g3 : ∀ i, ¬ (64 * (j + 1) ≤ i ∧ i < 64 * (j + 1) + 64) → M9.2.1 16 i = M.2.1 16 i) (g4 : ∀ p, ¬ p = j + 1 → M9.2.1 17 p = M.2.1 17 p) (g5 : M9.2.1 19 = upd (M.2.1 19) j (nI 0)) (g6 : M9.2.1 20 = upd (M.2.1 20) j (nI k)) : Rel S9 M9 := by
  obtain ⟨h1, ⟨t9, h2⟩, ⟨ks, h3⟩, ⟨d, h4⟩, h5, ⟨lv, lz, h6⟩, ⟨pv, h7⟩, ⟨R9, rz, h8⟩⟩ := h
  have hs1 : ∀ i, i ≠ 15 + 3 * (j + 1) → S9.1 i = U.1 i := fun i hi => by rw [hS9]; simp [sI, va_up, hi]
  have hs2 : ∀ i, S9.2.1 i = U.2.1 i := fun i => by rw [hS9]; rfl
  have hs : ∀ i, ¬ (3 * (j + 1) ≤ i ∧ i < 3 * (j + 1) + 3) → ¬ (15 + 3 * (j + 1) ≤ i ∧ i < 18 + 3 * (j + 1)) → S9.1 i = S.1 i ∧ S9.2.1 i = S.2.1 i := fun i n1 n2 => by
    obtain ⟨z1, z2⟩ := hbo.1 i n1 n2
    exact ⟨(hs1 i (by omega)).trans z1, (hs2 i).trans z2⟩
  have ga : ∀ i, (i ≠ 7 ∧ i ≠ 8 ∧ i ≠ 9 ∧ i ≠ 16 ∧ i ≠ 17 ∧ i ≠ 19 ∧ i ≠ 20) → M9.2.1 i = M.2.1 i := fun i hi => g2 i (by omega) (by omega) (by omega) (by omega) (by omega) (by omega) (by omega)
  have gf : ∀ k, (k ≠ 0 ∧ k ≠ 8 ∧ k ≠ 11) → M9.1 0 k = M.1 0 k := fun k hk => g1 k (by omega) (by omega) (by omega)
  refine ⟨⟨(ga 1 (by decide)).trans h1.1, (ga 2 (by decide)).trans h1.2.1, (ga 3 (by decide)).trans h1.2.2.1, g0⟩,
    ⟨t9, h2.cg (fun i hi => hs i (by unfold cTa at hi; omega) (by unfold cTa at hi; omega)) (gf 12 (by decide)) (ga 10 (by decide))⟩,
    ⟨ks, h3.cg (fun i hi => hs i (by unfold cK at hi; omega) (by unfold cK at hi; omega)) (gf 14 (by decide)) (ga 11 (by decide))⟩,
    ⟨d, h4.cg (fun i hi => hs i (by unfold cD at hi; omega) (by unfold cD at hi; omega)) (gf 16 (by decide)) (ga 12 (by decide)) (ga 13 (by decide)) (ga 14 (by decide)) (ga 15 (by decide))⟩,
    RG_at hj h5 (fun i n1 n2 _ => hs i n1 n2) g3 g4 (ga 18 (by decide)) (fun q hq => by rw [g5, pk_un hq]) (fun q hq => by rw [g6, pk_un hq]) ⟨0, by rw [g5, pk_us], by omega, Or.inr ⟨k, lk, bl, fun _ => 0, ?_⟩⟩,
    ⟨lv, lz, h6.cg (fun i hi => hs i (by unfold cB at hi; omega) (by unfold cB at hi; omega)) (ga 1 (by decide)) (ga 2 (by decide)) (ga 22 (by decide)) (ga 23 (by decide)) (ga 24 (by decide)) (ga 25 (by decide))⟩,
    ⟨pv, h7.cg (fun i hi => hs i (by unfold cP at hi; omega) (by unfold cP at hi; omega)) (gf 32 (by decide)) (ga 27 (by decide))⟩,
    ⟨R9, rz, h8.cg (fun i hi => hs i (by unfold cR at hi; omega) (by unfold cR at hi; omega)) (gf 34 (by decide)) (gf 38 (by decide)) (ga 28 (by decide)) (ga 29 (by decide)) (ga 30 (by decide))⟩⟩
  refine ⟨by rw [hS9]; show va_up U.1 (15 + 3 * (j + 1)) _ (15 + 3 * (j + 1)) 3 = _; rw [up_at]; rfl, by rw [g6, pk_us], hk, ?_, fun i hi => absurd hi (Nat.not_lt_zero i), hkk⟩
  rw [hS9]
  have e : ∀ q, q ≠ 3 → (pul (sI U (15 + 3 * (j + 1)) 3 (nI 1)) (fMg (j + 1) 58)).1 3 q = (pul U (fMg (j + 1) 58)).1 3 q := fun q hq => by
    show va_up U.1 (15 + 3 * (j + 1)) (va_up (U.1 (15 + 3 * (j + 1))) 3 (nI 1)) (15 + 3 * (j + 1)) q = U.1 (15 + 3 * (j + 1)) q
    rw [up_at, va_up_ne _ _ hq]
  have e0 : (pul (sI U (15 + 3 * (j + 1)) 3 (nI 1)) (fMg (j + 1) 58)).1 0 = (pul U (fMg (j + 1) 58)).1 0 := by
    show va_up U.1 (15 + 3 * (j + 1)) _ (3 * (j + 1)) = U.1 (3 * (j + 1))
    rw [va_up_ne _ _ (by omega)]
  unfold MO at *
  rw [e 4 (by decide), e 6 (by decide), e 5 (by decide), e0]
  refine ⟨hMO.1, hMO.2.1, hMO.2.2.1, ?_⟩
  rcases hMO.2.2.2 with ⟨a, b, c⟩ | ⟨a, b, c⟩
  · exact Or.inl ⟨a, b.sm e0 rfl rfl, c⟩
  · exact Or.inr ⟨a, b.sm e0 rfl rfl, c⟩
