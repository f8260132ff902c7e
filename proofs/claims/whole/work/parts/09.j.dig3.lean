/-- digest, side by side -/
theorem dig_rel {S U S9 M M1 M2 : wS} {k d t bl : Nat} {lk H W : Nat → Int32} (h : Rel S M) (hT : RT S M t) (hD : RD S M d) (hd : d < 60) (hbo : bgO S U 0) (hf : fin9 (sI U 58 1 (nI 0)) 0 k lk (ext (fun _ => 0) 0 (S.2.1 59)) bl (0 + t) d S9) (hmd : mdP M1 M2 k d (fnQ k bl (0 + t)) H W) (hH : ∀ j, j < 8 → H j = fnH k lk (ext (fun _ => 0) 0 (S.2.1 59)) (0 + t) j) (hW : ∀ j, j < 64 → W j = fnW k lk (ext (fun _ => 0) 0 (S.2.1 59)) (0 + t) j)
    (g1 : ∀ k, k ≠ 0 → k ≠ 8 → k ≠ 11 → M1.1 0 k = M.1 0 k) (g2 : ∀ i, i ≠ 7 → i ≠ 8 → i ≠ 9 → i ≠ 16 → i ≠ 17 → M1.2.1 i = M.2.1 i) (g3 : ∀ i, 64 ≤ i → M1.2.1 16 i = M.2.1 16 i) (g4 : ∀ p, 1 ≤ p → M1.2.1 17 p = M.2.1 17 p) : Rel S9 (sI M2 0 12 (nI 0)) := by
  obtain ⟨sh, so, so3⟩ := fin9_o (by decide) hd hf
  have hU1 : ∀ i, i ≠ 58 → (sI U 58 1 (nI 0)).1 i = U.1 i := fun i hi => by simp [sI, va_up, hi]
  have hs : ∀ i, 3 ≤ i → ¬ (15 ≤ i ∧ i < 18) → i ≠ 58 → ¬ cD i → S9.1 i = S.1 i ∧ S9.2.1 i = S.2.1 i := fun i n1 n2 n3 n4 => by
    obtain ⟨a, b⟩ := so i n4 (by omega) (by omega)
    obtain ⟨c, e⟩ := hbo.1 i (by omega) (by omega)
    exact ⟨a.trans ((hU1 i n3).trans c), b.trans e⟩
  have hcD : sam cD S (sI U 58 1 (nI 0)) := fun i hi => by
    unfold cD at hi
    obtain ⟨c, e⟩ := hbo.1 i (by omega) (by omega)
    exact ⟨(hU1 i (by omega)).trans c, e⟩
  obtain ⟨r1, r2, r3, r4, r5, r6⟩ := dig_rest (M9 := sI M2 0 12 (nI 0)) h hD hd (fun i n1 n2 n3 => hs i (by omega) (by omega) n2 n3) hcD sh (fnW_sch _ _ _ _) hmd hH hW g1 (fun i a b c e f _ _ => g2 i a b c e f) (fun k hk => by simp [sI, va_up, hk]) (fun i _ => rfl)
  obtain ⟨hm, wm, e1, e2, k1, k2, k3, k4, k5, k6, k7, k8⟩ := hmd
  refine ⟨r1, ⟨0, RT_0 hT ?_ (hs 59 (by decide) (by decide) (by decide) (by unfold cD; omega) |>.2) rfl⟩, r2, r3, h.2.2.2.2.1.cg2 (fun i hi => hs i (by unfold cG at hi; omega) (by unfold cG at hi; omega) (by unfold cG at hi; omega) (by unfold cG at hi; unfold cD; omega)) (fun i hi => ?_) (fun p hp => ?_) ?_ ?_ ?_, r4, r5, r6⟩
  · have := (so 58 (by unfold cD; omega) (by omega) (by omega)).1
    rw [this]; rfl
  · show M2.2.1 16 i = _
    rw [k8 16 (by decide)]; exact g3 i hi
  · show M2.2.1 17 p = _
    rw [k8 17 (by decide)]; exact g4 p hp
  · show M2.2.1 18 = _
    rw [k8 18 (by decide)]; exact g2 18 (by decide) (by decide) (by decide) (by decide) (by decide)
  · show M2.2.1 19 = _
    rw [k8 19 (by decide)]; exact g2 19 (by decide) (by decide) (by decide) (by decide) (by decide)
  · show M2.2.1 20 = _
    rw [k8 20 (by decide)]; exact g2 20 (by decide) (by decide) (by decide) (by decide) (by decide)
theorem ext0 {S M : wS} {t : Nat} (hT : RT S M t) : ∀ i, i < 0 + t → ext (fun _ => 0) 0 (S.2.1 59) i = M.2.1 10 i := fun i hi => by
  unfold ext
  rw [if_neg (by omega), hT.2.2.2.1 i (by omega)]
  rfl
theorem dig_rel01 {S U S9 M : wS} {k d t : Nat} {z : Int32} {lk : Nat → Int32} (hk : k ≠ 2) (hz : ∀ X : wS, X.2.1 2 = wC0 → X.2.1 3 = nC0 → hSrc X z = hB k) (h : Rel S M) (hT : RT S M t) (hD : RD S M d) (hd : d < 60) (hbo : bgO S U 0) (hf : fin9 (sI U 58 1 (nI 0)) 0 k lk (ext (fun _ => 0) 0 (S.2.1 59)) 0 (0 + t) d S9) : Rel S9 (sI (mdA (sI M 0 0 (nI 0)) z (M.2.1 10) t k d) 0 12 (nI 0)) := by
  have hmd := mdA_o (sI M 0 0 (nI 0)) z (M.2.1 10) t k d
  have e1 : (sI M 0 0 (nI 0)).2.1 1 = kC := h.1.1
  rw [e1, hz (sI M 0 0 (nI 0)) h.1.2.1 h.1.2.2.1] at hmd
  obtain ⟨f1, f2⟩ := fn1_eq (k := k) (lk := lk) (n := 0 + t) hk (ext0 hT)
  have hq : fnQ k 0 (0 + t) = 0 + padL t / 64 := by unfold fnQ; rw [if_neg hk, Nat.zero_add t]
  rw [← hq] at hmd
  have et : 0 + t = t := Nat.zero_add t
  refine dig_rel h hT hD hd hbo hf hmd (fun j hj => ?_) (fun j hj => ?_) (fun q a b c => by simp [sI, va_up, a]) (fun _ _ _ _ _ _ => rfl) (fun _ _ => rfl) (fun _ _ => rfl)
  · rw [← f1 j hj, et]
  · rw [← f2 j hj, et]
theorem dig_rel2 {S U S9 M : wS} {d t ks mm : Nat} {lk : Nat → Int32} (hmm : mm = 64 + 32) (h : Rel S M) (hT : RT S M t) (hS : RS S M ks) (hD : RD S M d) (hd : d < 60) (hbo : bgO S U 0) (hlk : lk = lk0 ks (S.2.1 61)) (hf : fin9 (sI U 58 1 (nI 0)) 0 2 lk (ext (fun _ => 0) 0 (S.2.1 59)) (lkQ ks) (0 + t) d S9) : Rel S9 (sI (mdK (pkS (sI M 0 0 (nI 0)) ks 0) (fun i => (pkS (sI M 0 0 (nI 0)) ks 0).2.1 16 (64 * 0 + i)) ((pkS (sI M 0 0 (nI 0)) ks 0).2.1 10) t (pkQ ks) d mm) 0 12 (nI 0)) := by
  have e1 : (sI M 0 0 (nI 0)).2.1 1 = kC := h.1.1
  have e2 : (sI M 0 0 (nI 0)).2.1 2 = wC0 := h.1.2.1
  obtain ⟨p1, p2, p3, p4, p5⟩ := pk_o (pl := 0) (key := S.2.1 61) e1 e2 (fun i hi => hS.2.2.2.1 i hi)
  have b1 := pkS_I (sI M 0 0 (nI 0)) ks 0
  have b2 := pkS_B (sI M 0 0 (nI 0)) ks 0
  obtain ⟨X, hX⟩ : ∃ z, z = pkS (sI M 0 0 (nI 0)) ks 0 := ⟨_, rfl⟩
  rw [← hX] at p1 p2 p3 p4 p5 b1 b2 ⊢
  have hmd := mdK_o X (fun i => X.2.1 16 (64 * 0 + i)) (X.2.1 10) t (pkQ ks) d mm (by omega)
  have x1 : X.2.1 1 = kC := (b2 1 (by decide) (by decide) (by decide) (by decide) (by decide)).trans h.1.1
  have x2 : X.2.1 2 = wC0 := (b2 2 (by decide) (by decide) (by decide) (by decide) (by decide)).trans h.1.2.1
  have x3 : X.2.1 10 = M.2.1 10 := b2 10 (by decide) (by decide) (by decide) (by decide) (by decide)
  rw [x1, x2] at hmd
  obtain ⟨f1, f2⟩ := fn2_eq (lk := lk) (L := fun i => X.2.1 16 (64 * 0 + i)) (g := ext (fun _ => 0) 0 (S.2.1 59)) (f := X.2.1 10) (n := 0 + t) hmm (fun i hi => by rw [hlk]; exact p1 i hi) (fun i hi => by rw [x3]; exact ext0 hT i hi)
  have hQ : lkQ ks = pkQ ks := by
    unfold lkQ pkQ
    by_cases c : ks ≤ 64
    · rw [if_pos c, if_pos c]
    · rw [if_neg c, if_neg c, Nat.zero_add, Nat.zero_add]
  have et : 0 + t = t := Nat.zero_add t
  have hq : fnQ 2 (lkQ ks) (0 + t) = pkQ ks + padL (64 + t) / 64 + padL mm / 64 := by unfold fnQ; rw [if_pos rfl, hQ, et, hmm]
  rw [← hq] at hmd
  refine dig_rel h hT hD hd hbo hf hmd (fun j hj => ?_) (fun j hj => ?_) (fun q a b c => (b1 q b c).trans (by simp [sI, va_up, a])) (fun i a b c e f => b2 i a b c e f) (fun i hi => p3 i (by omega)) (fun p hp => p4 p (by omega))
  · rw [← f1 j hj, et]
  · rw [← f2 j hj, et]
