/-! keep and find side by side -/
theorem cnt_cg {f g : Nat → Int32} {x : Int32} : ∀ n, (∀ i, i < n → f i = g i) → cnt f x n = cnt g x n
  | 0, _ => rfl
  | n + 1, h => by
    simp only [cnt]
    rw [cnt_cg n (fun i hi => h i (by omega)), h n (by omega)]
theorem and15 (x : Int32) : (x &&& nI 255) &&& nI 15 = x &&& nI 15 := by
  rw [Int32.and_assoc]; congr 1
theorem spX_eq {S M : wS} {t : Nat} (hT : RT S M t) (hK : RK M) : spD t (S.2.1 59) = spX (sI M 0 0 (nI 0)) t := by
  unfold spD spX spH
  rw [← and15 (sbH _ _), ub_sbH]
  congr 1
  refine byH_cg (fun j hj => ?_) 31 (by decide)
  have e1 : (sI M 0 0 (nI 0)).2.1 1 = kC := hK.1
  have e2 : hSrc (sI M 0 0 (nI 0)) (nI 0) = wC0 := (if_pos (by decide)).trans hK.2.1
  have h := (shaS_C (sI M 0 0 (nI 0)) (nI 0) (cps ((sI M 0 0 (nI 0)).2.1 7) ((sI M 0 0 (nI 0)).2.1 10) t) t).1 j hj
  rw [e1, e2] at h
  rw [h, Nat.zero_add]
  refine (shaC_cg (fun _ _ => rfl) (fun _ _ => rfl) (fun i hi => ?_)).1 j hj
  rw [cps_at, if_pos hi]
  exact (hT.2.2.2.1 i hi).symm
theorem fSs_6 (i : Nat) : fSs (6 + i) = 282 + i := by rw [Nat.add_comm 6 i]; rfl
theorem rw_iff {S T M : wS} {t R9 : Nat} {rz : Nat → Nat} {h : Nat → Int32} (hT : RT S M t) (hR : RR S M R9 rz) (hw : wr1 S T 56 h) {i : Nat} (hi : i < R9) : rwIs (pul T fSs) rz i t ↔ rowIs M rz i t := by
  have h40 := hR.2.2.1
  obtain ⟨a1, a2, a3, a4, a5⟩ := hR.2.2.2.2 i hi
  have r1 : (pul T fSs).2.1 (6 + i) = S.2.1 (282 + i) := by
    show T.2.1 (fSs (6 + i)) = _
    rw [fSs_6]; exact (hw.1 _ (by omega) (by omega)).2
  have r2 : (pul T fSs).2.1 5 = S.2.1 59 := (hw.1 59 (by decide) (by decide)).2
  unfold rwIs rowIs
  rw [r1, r2]
  constructor
  · rintro ⟨b1, b2⟩
    refine ⟨b1, fun q hq => ?_⟩
    rw [(a5 q (by omega)).1, hT.2.2.2.1 q hq]
    unfold ub
    rw [b2 q hq]
  · rintro ⟨b1, b2⟩
    refine ⟨b1, fun q hq => ?_⟩
    have h2 := b2 q hq
    rw [(a5 q (by omega)).1, hT.2.2.2.1 q hq] at h2
    exact sb_inj (a5 q (by omega)).2 (fit_sb (hT.2.2.2.2 q)) h2
theorem st_iff {S T M : wS} {t R9 : Nat} {rz : Nat → Nat} {h : Nat → Int32} (hK : RK M) (hT : RT S M t) (hR : RR S M R9 rz) (hw : wr1 S T 56 h) {i : Nat} (hi : i < R9) : ((pul T fSs).2.1 3 i = spD t (S.2.1 59) ∧ rwIs (pul T fSs) rz i t) ↔ (M.2.1 30 i = spX (sI M 0 0 (nI 0)) t ∧ rowIs M rz i t) := by
  have r3 : (pul T fSs).2.1 3 = S.2.1 55 := (hw.1 55 (by decide) (by decide)).2
  rw [rw_iff hT hR hw hi, r3, (hR.2.2.2.2 i hi).2.2.2.1, spX_eq hT hK]
theorem st_cnt {S T M : wS} {t R9 : Nat} {rz : Nat → Nat} {h : Nat → Int32} (hK : RK M) (hT : RT S M t) (hR : RR S M R9 rz) (hw : wr1 S T 56 h) {n : Nat} (hn : n ≤ R9) : cnt ((pul T fSs).2.1 3) (spD t (S.2.1 59)) n = cnt (M.2.1 30) (spX (sI M 0 0 (nI 0)) t) n := by
  have r3 : (pul T fSs).2.1 3 = S.2.1 55 := (hw.1 55 (by decide) (by decide)).2
  rw [r3, spX_eq hT hK]
  exact cnt_cg n (fun i hi => (hR.2.2.2.2 i (by omega)).2.2.2.1)
/-- the store, with what was passed set anew -/
theorem RR_k {S S9 M M9 : wS} {R9 : Nat} {rz : Nat → Nat} (h : RR S M R9 rz) (s1 : S9.1 52 3 = S.1 52 3) (s2 : S9.1 52 4 = M9.1 0 38) (s3 : S9.2.1 54 = S.2.1 54) (s4 : S9.2.1 55 = S.2.1 55) (s5 : ∀ i, i < 40 → S9.2.1 (282 + i) = S.2.1 (282 + i)) (m1 : M9.1 0 34 = M.1 0 34) (m2 : M9.2.1 28 = M.2.1 28) (m3 : M9.2.1 29 = M.2.1 29) (m4 : M9.2.1 30 = M.2.1 30) : RR S9 M9 R9 rz := by
  refine ⟨s1.trans h.1, m1.trans h.2.1, h.2.2.1, s2, fun i hi => ?_⟩
  have := h.2.2.1
  rw [s3, s4, m2, m3, m4, s5 i (by omega)]
  exact h.2.2.2.2 i hi
theorem RR_add {S S9 M M9 : wS} {R9 t : Nat} {x : Int32} {rz : Nat → Nat} (h : RR S M R9 rz) (hT : RT S M t) (hR : R9 < 40) (ht : t ≤ 40) (s1 : S9.1 52 3 = nI (R9 + 1)) (s2 : S9.1 52 4 = M9.1 0 38) (s3 : S9.2.1 54 = upd (S.2.1 54) R9 (nI t)) (s4 : S9.2.1 55 = upd (S.2.1 55) R9 x) (s5 : ∀ i, i < 40 → ¬ i = R9 → S9.2.1 (282 + i) = S.2.1 (282 + i)) (s6 : ∀ q, q < t → S9.2.1 (282 + R9) q = S.2.1 59 q) (m1 : M9.1 0 34 = nI (R9 + 1)) (m2 : M9.2.1 28 = upd (M.2.1 28) R9 (nI t)) (m3 : M9.2.1 29 = pts (M.2.1 29) (40 * R9) (M.2.1 10) t) (m4 : M9.2.1 30 = upd (M.2.1 30) R9 x) : RR S9 M9 (R9 + 1) (fun i => if i = R9 then t else rz i) := by
  refine ⟨s1, m1, by omega, s2, fun i hi => ?_⟩
  rw [s3, s4, m2, m3, m4]
  dsimp only
  by_cases c : i = R9
  · subst c
    rw [if_pos rfl, pk_us, pk_us, pk_us, pk_us]
    refine ⟨rfl, rfl, ht, rfl, fun k hk => ?_⟩
    rw [pts_at, if_pos (by omega), show 40 * i + k - 40 * i = k by omega, hT.2.2.2.1 k hk]
    unfold ub
    rw [s6 k hk]
    exact ⟨rfl, fit_sb (hT.2.2.2.2 k)⟩
  · obtain ⟨a1, a2, a3, a4, a5⟩ := h.2.2.2.2 i (by omega)
    rw [if_neg c, pk_un c, pk_un c, pk_un c, pk_un c, s5 i (by omega) c]
    refine ⟨a1, a2, a3, a4, fun k hk => ?_⟩
    rw [pts_at, if_neg (by omega)]
    exact a5 k hk
theorem saS_o (P : wS) (x : Int32) (d t : Nat) : (saS P x d t).1 0 3 = nI (d + 1) ∧ (∀ k, ¬ k = 3 → (saS P x d t).1 0 k = P.1 0 k) ∧ (∀ i, ¬ i = 0 → (saS P x d t).1 i = P.1 i) ∧ (saS P x d t).2.1 2 = upd (P.2.1 2) d (nI t) ∧ (saS P x d t).2.1 3 = upd (P.2.1 3) d x ∧ (∀ q, q < t → (saS P x d t).2.1 (6 + d) q = P.2.1 5 q) ∧ ∀ i, ¬ i = 2 → ¬ i = 3 → ¬ i = 6 + d → (saS P x d t).2.1 i = P.2.1 i := by
  unfold saS
  refine ⟨rfl, fun k hk => ?_, fun i hi => ?_, ?_, ?_, fun q hq => ?_, fun i a b c => ?_⟩
  · simp [sI, sB, va_up, hk]
  · simp [sI, sB, va_up, hi]
  · rfl
  · rfl
  · show va_up (va_up (va_up P.2.1 (6 + d) _) 2 _) 3 _ (6 + d) q = _
    rw [va_up_ne _ _ (by omega), va_up_ne _ _ (by omega), up_at, pk_cpy_in (by omega) (by omega), show 0 + (q - 0) = q by omega]
  · show va_up (va_up (va_up P.2.1 (6 + d) _) 2 _) 3 _ i = _
    rw [va_up_ne _ _ b, va_up_ne _ _ a, va_up_ne _ _ c]
theorem sas_o (U : wS) (x : Int32) (d t : Nat) (hd : d < 40) : (psh U fiSs (saS (pul U fSs) x d t)).1 52 3 = nI (d + 1) ∧ (∀ k, ¬ k = 3 → (psh U fiSs (saS (pul U fSs) x d t)).1 52 k = U.1 52 k) ∧ (∀ i, ¬ i = 52 → (psh U fiSs (saS (pul U fSs) x d t)).1 i = U.1 i) ∧ (psh U fiSs (saS (pul U fSs) x d t)).2.1 54 = upd (U.2.1 54) d (nI t) ∧ (psh U fiSs (saS (pul U fSs) x d t)).2.1 55 = upd (U.2.1 55) d x ∧ (∀ q, q < t → (psh U fiSs (saS (pul U fSs) x d t)).2.1 (282 + d) q = U.2.1 59 q) ∧ ∀ i, ¬ i = 54 → ¬ i = 55 → ¬ i = 282 + d → (psh U fiSs (saS (pul U fSs) x d t)).2.1 i = U.2.1 i := by
  obtain ⟨a1, a2, a3, a4, a5, a6, a7⟩ := saS_o (pul U fSs) x d t
  generalize saS (pul U fSs) x d t = X at a1 a2 a3 a4 a5 a6 a7 ⊢
  have p1 : ∀ c, c < 46 → (psh U fiSs X).1 (fSs c) = X.1 c := fun c hc => psh_1 lieSs X hc
  have p2 : ∀ c, c < 46 → (psh U fiSs X).2.1 (fSs c) = X.2.1 c := fun c hc => psh_2 lieSs X hc
  have h0 := p1 0 (by decide)
  refine ⟨(congrFun h0 3).trans a1, fun k hk => (congrFun h0 k).trans (a2 k hk), fun i hi => ?_, (p2 2 (by decide)).trans a4, (p2 3 (by decide)).trans a5, fun q hq => ?_, fun i n1 n2 n3 => ?_⟩
  · cases e : fiSs i with
    | none => exact (psh_o X e).1
    | some c =>
      obtain ⟨g1, g2⟩ := lieSs.2 i c e
      rw [← g2]
      exact (p1 c g1).trans (a3 c (fun z => hi (by rw [← g2, z]; rfl)))
  · rw [← fSs_6 d, p2 (6 + d) (by omega)]
    exact a6 q hq
  · cases e : fiSs i with
    | none => exact (psh_o X e).2
    | some c =>
      obtain ⟨g1, g2⟩ := lieSs.2 i c e
      rw [← g2]
      refine (p2 c g1).trans (a7 c (fun z => n1 ?_) (fun z => n2 ?_) (fun z => n3 ?_))
      · rw [← g2, z]; rfl
      · rw [← g2, z]; rfl
      · rw [← g2, z, fSs_6]
/-- all but tape and store -/
theorem st_rel {S S9 M M9 : wS} {t9 R9 : Nat} {rz : Nat → Nat} (h : Rel S M) (hs : ∀ i, 3 ≤ i → ¬ (52 ≤ i ∧ i < 60) → i < 282 → S9.1 i = S.1 i ∧ S9.2.1 i = S.2.1 i) (g0 : ∃ q, M9.1 0 11 = nI q) (gf : ∀ k, (k ≠ 0 ∧ k ≠ 8 ∧ k ≠ 11 ∧ k ≠ 12 ∧ k ≠ 34 ∧ k ≠ 38 ∧ k ≠ 39) → M9.1 0 k = M.1 0 k) (ga : ∀ i, (i ≠ 7 ∧ i ≠ 8 ∧ i ≠ 9 ∧ i ≠ 28 ∧ i ≠ 29 ∧ i ≠ 30) → M9.2.1 i = M.2.1 i) (hT : RT S9 M9 t9) (hR : RR S9 M9 R9 rz) : Rel S9 M9 := by
  obtain ⟨h1, -, ⟨ks, h3⟩, ⟨d, h4⟩, h5, ⟨lv, lz, h6⟩, ⟨pv, h7⟩, -⟩ := h
  exact ⟨⟨(ga 1 (by decide)).trans h1.1, (ga 2 (by decide)).trans h1.2.1, (ga 3 (by decide)).trans h1.2.2.1, g0⟩,
    ⟨t9, hT⟩,
    ⟨ks, h3.cg (fun i hi => hs i (by unfold cK at hi; omega) (by unfold cK at hi; omega) (by unfold cK at hi; omega)) (gf 14 (by decide)) (ga 11 (by decide))⟩,
    ⟨d, h4.cg (fun i hi => hs i (by unfold cD at hi; omega) (by unfold cD at hi; omega) (by unfold cD at hi; omega)) (gf 16 (by decide)) (ga 12 (by decide)) (ga 13 (by decide)) (ga 14 (by decide)) (ga 15 (by decide))⟩,
    h5.cg (fun i hi => hs i (by unfold cG at hi; omega) (by unfold cG at hi; omega) (by unfold cG at hi; omega)) (ga 16 (by decide)) (ga 17 (by decide)) (ga 18 (by decide)) (ga 19 (by decide)) (ga 20 (by decide)),
    ⟨lv, lz, h6.cg (fun i hi => hs i (by unfold cB at hi; omega) (by unfold cB at hi; omega) (by unfold cB at hi; omega)) (ga 1 (by decide)) (ga 2 (by decide)) (ga 22 (by decide)) (ga 23 (by decide)) (ga 24 (by decide)) (ga 25 (by decide))⟩,
    ⟨pv, h7.cg (fun i hi => hs i (by unfold cP at hi; omega) (by unfold cP at hi; omega) (by unfold cP at hi; omega)) (gf 32 (by decide)) (ga 27 (by decide))⟩,
    ⟨R9, rz, hR⟩⟩
/-- behind the spot's working -/
theorem spS_o (M : wS) (t q : Nat) : (∀ k, k ≠ 0 → k ≠ 8 → k ≠ 11 → (spS (sI M 0 0 (nI 0)) t q).1 0 k = M.1 0 k) ∧ (∃ q9, (spS (sI M 0 0 (nI 0)) t q).1 0 11 = nI q9) ∧ ∀ i, i ≠ 7 → i ≠ 8 → i ≠ 9 → (spS (sI M 0 0 (nI 0)) t q).2.1 i = M.2.1 i := by
  unfold spS
  obtain ⟨a, b, c⟩ := wrk_o (sI M 0 0 (nI 0)) (nI 0) (cps ((sI M 0 0 (nI 0)).2.1 7) ((sI M 0 0 (nI 0)).2.1 10) t) t q
  exact ⟨fun k h0 h1 h2 => (a k h1 h2).trans (by simp [sI, va_up, h0]), ⟨_, b⟩, fun i h1 h2 h3 => c i h1 h2 h3⟩
