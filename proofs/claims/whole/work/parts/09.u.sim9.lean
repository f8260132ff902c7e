set_option maxRecDepth 4096 in
theorem sim_keep {S M S9 M9 : wS} {r r9 : Int32} (h : Rel S M) (t R9 : Nat) (rz : Nat → Nat) (q : Nat) (hT : RT S M t) (hR : RR S M R9 rz) (hc : (fun r S' => (40 < t ∧ r = (-102) ∧ S' = S) ∨ (t ≤ 40 ∧ ∃ T9, wr1 S T9 56 (spH t (S.2.1 59)) ∧ (((∀ i, i < R9 → ¬ ((pul T9 fSs).2.1 3 i = (spD t (S.2.1 59)) ∧ rwIs (pul T9 fSs) rz i t)) ∧ R9 = 40 ∧ r = (-103) ∧ S' = sI T9 52 5 (nI (cnt ((pul T9 fSs).2.1 3) (spD t (S.2.1 59)) R9))) ∨ (∃ k, (k < R9 ∧ (pul T9 fSs).2.1 3 k = (spD t (S.2.1 59)) ∧ rwIs (pul T9 fSs) rz k t ∧ (∀ i, i < k → ¬ ((pul T9 fSs).2.1 3 i = (spD t (S.2.1 59)) ∧ rwIs (pul T9 fSs) rz i t))) ∧ r = nI k ∧ S' = sI (sI (sI T9 52 5 (nI (cnt ((pul T9 fSs).2.1 3) (spD t (S.2.1 59)) (k + 1)))) 52 4 (nI (cnt ((pul T9 fSs).2.1 3) (spD t (S.2.1 59)) (k + 1)))) 58 1 (nI 0)) ∨ ((∀ i, i < R9 → ¬ ((pul T9 fSs).2.1 3 i = (spD t (S.2.1 59)) ∧ rwIs (pul T9 fSs) rz i t)) ∧ R9 < 40 ∧ r = nI R9 ∧ S' = sI (psh (sI (sI T9 52 5 (nI (cnt ((pul T9 fSs).2.1 3) (spD t (S.2.1 59)) R9))) 52 4 (nI (cnt ((pul T9 fSs).2.1 3) (spD t (S.2.1 59)) R9))) fiSs (saS (pul (sI (sI T9 52 5 (nI (cnt ((pul T9 fSs).2.1 3) (spD t (S.2.1 59)) R9))) 52 4 (nI (cnt ((pul T9 fSs).2.1 3) (spD t (S.2.1 59)) R9))) fSs) (spD t (S.2.1 59)) R9 t)) 58 1 (nI 0))))) r S9) (hm : (fun r S' => (40 < t ∧ r = (-102) ∧ S' = sI M 0 0 (nI 0)) ∨ (t ≤ 40 ∧ (∀ i, i < R9 → ¬ (M.2.1 30 i = (spX (sI M 0 0 (nI 0)) t) ∧ rowIs M rz i t)) ∧ R9 = 40 ∧ r = (-103) ∧ S' = sI (spS (sI M 0 0 (nI 0)) t q) 0 39 (nI (cnt (M.2.1 30) (spX (sI M 0 0 (nI 0)) t) R9))) ∨ (t ≤ 40 ∧ ∃ k, k < R9 ∧ M.2.1 30 k = (spX (sI M 0 0 (nI 0)) t) ∧ rowIs M rz k t ∧ (∀ i, i < k → ¬ (M.2.1 30 i = (spX (sI M 0 0 (nI 0)) t) ∧ rowIs M rz i t)) ∧ r = nI k ∧ S' = sI (sI (sI (spS (sI M 0 0 (nI 0)) t q) 0 39 (nI (cnt (M.2.1 30) (spX (sI M 0 0 (nI 0)) t) (k + 1)))) 0 38 (nI (cnt (M.2.1 30) (spX (sI M 0 0 (nI 0)) t) (k + 1)))) 0 12 (nI 0)) ∨ (t ≤ 40 ∧ (∀ i, i < R9 → ¬ (M.2.1 30 i = (spX (sI M 0 0 (nI 0)) t) ∧ rowIs M rz i t)) ∧ R9 < 40 ∧ r = nI R9 ∧ S' = sI (sI (sB (sB (sB (sI (sI (spS (sI M 0 0 (nI 0)) t q) 0 39 (nI (cnt (M.2.1 30) (spX (sI M 0 0 (nI 0)) t) R9))) 0 38 (nI (cnt (M.2.1 30) (spX (sI M 0 0 (nI 0)) t) R9))) 28 (upd (M.2.1 28) R9 (nI t))) 30 (upd (M.2.1 30) R9 (spX (sI M 0 0 (nI 0)) t))) 29 (pts (M.2.1 29) (40 * R9) (M.2.1 10) t)) 0 34 (nI (R9 + 1))) 0 12 (nI 0))) r9 M9) : r = r9 ∧ Rel S9 M9 := by
  have h0 := h
  rcases hc with ⟨a1, hr, hS9⟩ | ⟨ht40, T9, hw, ⟨hno, hR40, hr, hS9⟩ | ⟨k, hk, hr, hS9⟩ | ⟨hno, hR40, hr, hS9⟩⟩
  · rcases hm with ⟨b1, hr9, hM9⟩ | ⟨ht9, hno9, hR9, hr9, hM9⟩ | ⟨ht9, k', hk9a, hk9b, hk9c, hk9d, hr9, hM9⟩ | ⟨ht9, hno9, hR9, hr9, hM9⟩
    · subst hM9; obtain rfl := hS9; exact ⟨by rw [hr, hr9], h0.th _⟩
    · omega
    · omega
    · omega
  · rcases hm with ⟨b1, hr9, hM9⟩ | ⟨ht9, hno9, hR9, hr9, hM9⟩ | ⟨ht9, k', hk9a, hk9b, hk9c, hk9d, hr9, hM9⟩ | ⟨ht9, hno9, hR9, hr9, hM9⟩
    · omega
    · obtain ⟨o1, o2, o3⟩ := spS_o M t q
      obtain ⟨X, hX⟩ : ∃ z, z = spS (sI M 0 0 (nI 0)) t q := ⟨_, rfl⟩
      rw [← hX] at o1 o2 o3 hM9
      have w5 : ∀ i, 3 ≤ i → i ≠ 56 → T9.1 i = S.1 i ∧ T9.2.1 i = S.2.1 i := hw.1
      have hs1 : ∀ i, i ≠ 52 → S9.1 i = T9.1 i := fun i hi => by rw [hS9]; simp [sI, va_up, hi]
      have hs2 : ∀ i, S9.2.1 i = T9.2.1 i := fun i => by rw [hS9]; rfl
      have hs : ∀ i, 3 ≤ i → ¬ (52 ≤ i ∧ i < 60) → i < 282 → S9.1 i = S.1 i ∧ S9.2.1 i = S.2.1 i := fun i n1 n2 n3 => by
        obtain ⟨z1, z2⟩ := w5 i n1 (by omega)
        exact ⟨(hs1 i (by omega)).trans z1, (hs2 i ).trans z2⟩
      refine ⟨by rw [hr, hr9], st_rel h0 hs (by rw [hM9]; exact o2) (fun k hk => by rw [hM9]; exact (by simp [sI, sB, va_up, hk.2.2.2.1, hk.2.2.2.2.1, hk.2.2.2.2.2.1, hk.2.2.2.2.2.2] : _ = X.1 0 k).trans (o1 k (by omega) (by omega) (by omega))) (fun i hi => by rw [hM9]; exact (by simp [sI, sB, va_up, hi.2.2.2.1, hi.2.2.2.2.1, hi.2.2.2.2.2] : _ = X.2.1 i).trans (o3 i (by omega) (by omega) (by omega))) (hT.cg (fun i hi => ⟨(hs1 i (by unfold cTa at hi; omega)).trans (w5 i (by unfold cTa at hi; omega) (by unfold cTa at hi; omega)).1, (hs2 i).trans (w5 i (by unfold cTa at hi; omega) (by unfold cTa at hi; omega)).2⟩) (by rw [hM9]; exact o1 12 (by decide) (by decide) (by decide)) (by rw [hM9]; exact o3 10 (by decide) (by decide) (by decide))) (RR_k hR ?_ ?_ ((hs2 54).trans (w5 54 (by decide) (by decide)).2) ((hs2 55).trans (w5 55 (by decide) (by decide)).2) (fun i hi => (hs2 _).trans (w5 _ (by omega) (by omega)).2) ?_ (by rw [hM9]; exact o3 28 (by decide) (by decide) (by decide)) (by rw [hM9]; exact o3 29 (by decide) (by decide) (by decide)) (by rw [hM9]; exact o3 30 (by decide) (by decide) (by decide)))⟩
      · rw [hS9]
        show T9.1 52 3 = _
        rw [(w5 52 (by decide) (by decide)).1]
      · rw [hS9, hM9]
        show T9.1 52 4 = X.1 0 38
        rw [(w5 52 (by decide) (by decide)).1, o1 38 (by decide) (by decide) (by decide)]
        exact hR.2.2.2.1
      · rw [hM9]
        exact o1 34 (by decide) (by decide) (by decide)
    · exact absurd ((st_iff h0.1 hT hR hw hk9a).mpr ⟨hk9b, hk9c⟩) (hno _ hk9a)
    · omega
  · rcases hm with ⟨b1, hr9, hM9⟩ | ⟨ht9, hno9, hR9, hr9, hM9⟩ | ⟨ht9, k', hk9a, hk9b, hk9c, hk9d, hr9, hM9⟩ | ⟨ht9, hno9, hR9, hr9, hM9⟩
    · omega
    · exact absurd ((st_iff h0.1 hT hR hw hk.1).mp ⟨hk.2.1, hk.2.2.1⟩) (hno9 _ hk.1)
    · have e8 : k = k' := by
        rcases Nat.lt_trichotomy k k' with z | z | z
        · exact absurd ((st_iff h0.1 hT hR hw hk.1).mp ⟨hk.2.1, hk.2.2.1⟩) (hk9d k z)
        · exact z
        · exact absurd ((st_iff h0.1 hT hR hw hk9a).mpr ⟨hk9b, hk9c⟩) (hk.2.2.2 k' z)
      subst e8
      obtain ⟨o1, o2, o3⟩ := spS_o M t q
      obtain ⟨X, hX⟩ : ∃ z, z = spS (sI M 0 0 (nI 0)) t q := ⟨_, rfl⟩
      rw [← hX] at o1 o2 o3 hM9
      have w5 : ∀ i, 3 ≤ i → i ≠ 56 → T9.1 i = S.1 i ∧ T9.2.1 i = S.2.1 i := hw.1
      have hs1 : ∀ i, i ≠ 52 ∧ i ≠ 58 → S9.1 i = T9.1 i := fun i hi => by rw [hS9]; simp [sI, va_up, hi.1, hi.2]
      have hs2 : ∀ i, S9.2.1 i = T9.2.1 i := fun i => by rw [hS9]; rfl
      have hs : ∀ i, 3 ≤ i → ¬ (52 ≤ i ∧ i < 60) → i < 282 → S9.1 i = S.1 i ∧ S9.2.1 i = S.2.1 i := fun i n1 n2 n3 => by
        obtain ⟨z1, z2⟩ := w5 i n1 (by omega)
        exact ⟨(hs1 i (by omega)).trans z1, (hs2 i ).trans z2⟩
      refine ⟨by rw [hr, hr9], st_rel h0 hs (by rw [hM9]; exact o2) (fun k hk => by rw [hM9]; exact (by simp [sI, sB, va_up, hk.2.2.2.1, hk.2.2.2.2.1, hk.2.2.2.2.2.1, hk.2.2.2.2.2.2] : _ = X.1 0 k).trans (o1 k (by omega) (by omega) (by omega))) (fun i hi => by rw [hM9]; exact (by simp [sI, sB, va_up, hi.2.2.2.1, hi.2.2.2.2.1, hi.2.2.2.2.2] : _ = X.2.1 i).trans (o3 i (by omega) (by omega) (by omega))) (RT_0 hT (by rw [hS9]; rfl) ((hs2 59).trans (w5 59 (by decide) (by decide)).2) (by rw [hM9]; rfl)) (RR_k hR ?_ ?_ ((hs2 54).trans (w5 54 (by decide) (by decide)).2) ((hs2 55).trans (w5 55 (by decide) (by decide)).2) (fun i hi => (hs2 _).trans (w5 _ (by omega) (by omega)).2) ?_ (by rw [hM9]; exact o3 28 (by decide) (by decide) (by decide)) (by rw [hM9]; exact o3 29 (by decide) (by decide) (by decide)) (by rw [hM9]; exact o3 30 (by decide) (by decide) (by decide)))⟩
      · rw [hS9]
        show T9.1 52 3 = _
        rw [(w5 52 (by decide) (by decide)).1]
      · rw [hS9, hM9]
        show nI (cnt _ _ (k + 1)) = nI (cnt _ _ (k + 1))
        rw [st_cnt h0.1 hT hR hw (by have := hk.1; omega)]
      · rw [hM9]
        exact o1 34 (by decide) (by decide) (by decide)
    · exact absurd ((st_iff h0.1 hT hR hw hk.1).mp ⟨hk.2.1, hk.2.2.1⟩) (hno9 _ hk.1)
  · rcases hm with ⟨b1, hr9, hM9⟩ | ⟨ht9, hno9, hR9, hr9, hM9⟩ | ⟨ht9, k', hk9a, hk9b, hk9c, hk9d, hr9, hM9⟩ | ⟨ht9, hno9, hR9, hr9, hM9⟩
    · omega
    · omega
    · exact absurd ((st_iff h0.1 hT hR hw hk9a).mpr ⟨hk9b, hk9c⟩) (hno _ hk9a)
    · obtain ⟨o1, o2, o3⟩ := spS_o M t q
      obtain ⟨X, hX⟩ : ∃ z, z = spS (sI M 0 0 (nI 0)) t q := ⟨_, rfl⟩
      rw [← hX] at o1 o2 o3 hM9
      have w5 : ∀ i, 3 ≤ i → i ≠ 56 → T9.1 i = S.1 i ∧ T9.2.1 i = S.2.1 i := hw.1
      obtain ⟨U, hU⟩ : ∃ z, z = sI (sI T9 52 5 (nI (cnt ((pul T9 fSs).2.1 3) (spD t (S.2.1 59)) R9))) 52 4 (nI (cnt ((pul T9 fSs).2.1 3) (spD t (S.2.1 59)) R9)) := ⟨_, rfl⟩
      rw [← hU] at hS9
      have u1 : ∀ i, i ≠ 52 → U.1 i = T9.1 i := fun i hi => by rw [hU]; simp [sI, va_up, hi]
      have u2 : ∀ i, U.2.1 i = T9.2.1 i := fun i => by rw [hU]; rfl
      have u4 : U.1 52 4 = nI (cnt (M.2.1 30) (spX (sI M 0 0 (nI 0)) t) R9) := by rw [hU, ← st_cnt h0.1 hT hR hw (Nat.le_refl _)]; rfl
      obtain ⟨v1, v2, v3, v4, v5, v6, v7⟩ := sas_o U (spD t (S.2.1 59)) R9 t hR40
      generalize psh U fiSs (saS (pul U fSs) (spD t (S.2.1 59)) R9 t) = V at hS9 v1 v2 v3 v4 v5 v6 v7
      have hs1 : ∀ i, i ≠ 52 ∧ i ≠ 58 → S9.1 i = T9.1 i := fun i hi => by
        rw [← u1 i hi.1, ← v3 i hi.1, hS9]; simp [sI, va_up, hi.2]
      have hs2 : ∀ i, i ≠ 54 ∧ i ≠ 55 ∧ i ≠ 282 + R9 → S9.2.1 i = T9.2.1 i := fun i hi => by
        rw [← u2 i, ← v7 i hi.1 hi.2.1 hi.2.2, hS9]; rfl
      have hs : ∀ i, 3 ≤ i → ¬ (52 ≤ i ∧ i < 60) → i < 282 → S9.1 i = S.1 i ∧ S9.2.1 i = S.2.1 i := fun i n1 n2 n3 => by
        obtain ⟨z1, z2⟩ := w5 i n1 (by omega)
        exact ⟨(hs1 i (by omega)).trans z1, (hs2 i (by omega)).trans z2⟩
      refine ⟨by rw [hr, hr9], st_rel h0 hs (by rw [hM9]; exact o2) (fun k hk => by rw [hM9]; exact (by simp [sI, sB, va_up, hk.2.2.2.1, hk.2.2.2.2.1, hk.2.2.2.2.2.1, hk.2.2.2.2.2.2] : _ = X.1 0 k).trans (o1 k (by omega) (by omega) (by omega))) (fun i hi => by rw [hM9]; exact (by simp [sI, sB, va_up, hi.2.2.2.1, hi.2.2.2.2.1, hi.2.2.2.2.2] : _ = X.2.1 i).trans (o3 i (by omega) (by omega) (by omega))) (RT_0 hT (by rw [hS9]; rfl) ((hs2 59 (by omega)).trans (w5 59 (by decide) (by decide)).2) (by rw [hM9]; rfl)) (RR_add (x := spD t (S.2.1 59)) hR hT hR40 ht40 ?_ ?_ ?_ ?_ (fun i hi hne => (hs2 _ (by omega)).trans (w5 _ (by omega) (by omega)).2) (fun z hz => ?_) (by rw [hM9]; rfl) (by rw [hM9]; rfl) (by rw [hM9]; rfl) (by rw [hM9, spX_eq hT h0.1]; rfl))⟩
      · rw [hS9]; exact v1
      · rw [hS9, hM9]
        exact (v2 4 (by decide)).trans u4
      · rw [hS9]
        show V.2.1 54 = _
        rw [v4, u2, (w5 54 (by decide) (by decide)).2]
      · rw [hS9]
        show V.2.1 55 = _
        rw [v5, u2, (w5 55 (by decide) (by decide)).2]
      · rw [hS9]
        show V.2.1 (282 + R9) z = _
        rw [v6 z hz, u2, (w5 59 (by decide) (by decide)).2]
set_option maxRecDepth 4096 in
theorem sim_find {S M S9 M9 : wS} {r r9 : Int32} (h : Rel S M) (t R9 : Nat) (rz : Nat → Nat) (q : Nat) (hT : RT S M t) (hR : RR S M R9 rz) (hc : (fun r S' => (40 < t ∧ r = (-102) ∧ S' = S) ∨ (t ≤ 40 ∧ ∃ T9, wr1 S T9 56 (spH t (S.2.1 59)) ∧ ((∃ k, (k < R9 ∧ (pul T9 fSs).2.1 3 k = (spD t (S.2.1 59)) ∧ rwIs (pul T9 fSs) rz k t ∧ (∀ i, i < k → ¬ ((pul T9 fSs).2.1 3 i = (spD t (S.2.1 59)) ∧ rwIs (pul T9 fSs) rz i t))) ∧ r = nI k ∧ S' = sI (sI (sI T9 52 5 (nI (cnt ((pul T9 fSs).2.1 3) (spD t (S.2.1 59)) (k + 1)))) 52 4 (nI (cnt ((pul T9 fSs).2.1 3) (spD t (S.2.1 59)) (k + 1)))) 58 1 (nI 0)) ∨ ((∀ i, i < R9 → ¬ ((pul T9 fSs).2.1 3 i = (spD t (S.2.1 59)) ∧ rwIs (pul T9 fSs) rz i t)) ∧ r = (-1) ∧ S' = sI (sI (sI T9 52 5 (nI (cnt ((pul T9 fSs).2.1 3) (spD t (S.2.1 59)) R9))) 52 4 (nI (cnt ((pul T9 fSs).2.1 3) (spD t (S.2.1 59)) R9))) 58 1 (nI 0))))) r S9) (hm : (fun r S' => (40 < t ∧ r = (-102) ∧ S' = sI M 0 0 (nI 0)) ∨ (t ≤ 40 ∧ ∃ k, k < R9 ∧ M.2.1 30 k = (spX (sI M 0 0 (nI 0)) t) ∧ rowIs M rz k t ∧ (∀ i, i < k → ¬ (M.2.1 30 i = (spX (sI M 0 0 (nI 0)) t) ∧ rowIs M rz i t)) ∧ r = nI k ∧ S' = sI (sI (sI (spS (sI M 0 0 (nI 0)) t q) 0 39 (nI (cnt (M.2.1 30) (spX (sI M 0 0 (nI 0)) t) (k + 1)))) 0 38 (nI (cnt (M.2.1 30) (spX (sI M 0 0 (nI 0)) t) (k + 1)))) 0 12 (nI 0)) ∨ (t ≤ 40 ∧ (∀ i, i < R9 → ¬ (M.2.1 30 i = (spX (sI M 0 0 (nI 0)) t) ∧ rowIs M rz i t)) ∧ r = (-1) ∧ S' = sI (sI (sI (spS (sI M 0 0 (nI 0)) t q) 0 39 (nI (cnt (M.2.1 30) (spX (sI M 0 0 (nI 0)) t) R9))) 0 38 (nI (cnt (M.2.1 30) (spX (sI M 0 0 (nI 0)) t) R9))) 0 12 (nI 0))) r9 M9) : r = r9 ∧ Rel S9 M9 := by
  have h0 := h
  rcases hc with ⟨a1, hr, hS9⟩ | ⟨ht40, T9, hw, ⟨k, hk, hr, hS9⟩ | ⟨hno, hr, hS9⟩⟩
  · rcases hm with ⟨b1, hr9, hM9⟩ | ⟨ht9, k', hk9a, hk9b, hk9c, hk9d, hr9, hM9⟩ | ⟨ht9, hno9, hr9, hM9⟩
    · subst hM9; obtain rfl := hS9; exact ⟨by rw [hr, hr9], h0.th _⟩
    · omega
    · omega
  · rcases hm with ⟨b1, hr9, hM9⟩ | ⟨ht9, k', hk9a, hk9b, hk9c, hk9d, hr9, hM9⟩ | ⟨ht9, hno9, hr9, hM9⟩
    · omega
    · have e8 : k = k' := by
        rcases Nat.lt_trichotomy k k' with z | z | z
        · exact absurd ((st_iff h0.1 hT hR hw hk.1).mp ⟨hk.2.1, hk.2.2.1⟩) (hk9d k z)
        · exact z
        · exact absurd ((st_iff h0.1 hT hR hw hk9a).mpr ⟨hk9b, hk9c⟩) (hk.2.2.2 k' z)
      subst e8
      obtain ⟨o1, o2, o3⟩ := spS_o M t q
      obtain ⟨X, hX⟩ : ∃ z, z = spS (sI M 0 0 (nI 0)) t q := ⟨_, rfl⟩
      rw [← hX] at o1 o2 o3 hM9
      have w5 : ∀ i, 3 ≤ i → i ≠ 56 → T9.1 i = S.1 i ∧ T9.2.1 i = S.2.1 i := hw.1
      have hs1 : ∀ i, i ≠ 52 ∧ i ≠ 58 → S9.1 i = T9.1 i := fun i hi => by rw [hS9]; simp [sI, va_up, hi.1, hi.2]
      have hs2 : ∀ i, S9.2.1 i = T9.2.1 i := fun i => by rw [hS9]; rfl
      have hs : ∀ i, 3 ≤ i → ¬ (52 ≤ i ∧ i < 60) → i < 282 → S9.1 i = S.1 i ∧ S9.2.1 i = S.2.1 i := fun i n1 n2 n3 => by
        obtain ⟨z1, z2⟩ := w5 i n1 (by omega)
        exact ⟨(hs1 i (by omega)).trans z1, (hs2 i ).trans z2⟩
      refine ⟨by rw [hr, hr9], st_rel h0 hs (by rw [hM9]; exact o2) (fun k hk => by rw [hM9]; exact (by simp [sI, sB, va_up, hk.2.2.2.1, hk.2.2.2.2.1, hk.2.2.2.2.2.1, hk.2.2.2.2.2.2] : _ = X.1 0 k).trans (o1 k (by omega) (by omega) (by omega))) (fun i hi => by rw [hM9]; exact (by simp [sI, sB, va_up, hi.2.2.2.1, hi.2.2.2.2.1, hi.2.2.2.2.2] : _ = X.2.1 i).trans (o3 i (by omega) (by omega) (by omega))) (RT_0 hT (by rw [hS9]; rfl) ((hs2 59).trans (w5 59 (by decide) (by decide)).2) (by rw [hM9]; rfl)) (RR_k hR ?_ ?_ ((hs2 54).trans (w5 54 (by decide) (by decide)).2) ((hs2 55).trans (w5 55 (by decide) (by decide)).2) (fun i hi => (hs2 _).trans (w5 _ (by omega) (by omega)).2) ?_ (by rw [hM9]; exact o3 28 (by decide) (by decide) (by decide)) (by rw [hM9]; exact o3 29 (by decide) (by decide) (by decide)) (by rw [hM9]; exact o3 30 (by decide) (by decide) (by decide)))⟩
      · rw [hS9]
        show T9.1 52 3 = _
        rw [(w5 52 (by decide) (by decide)).1]
      · rw [hS9, hM9]
        show nI (cnt _ _ (k + 1)) = nI (cnt _ _ (k + 1))
        rw [st_cnt h0.1 hT hR hw (by have := hk.1; omega)]
      · rw [hM9]
        exact o1 34 (by decide) (by decide) (by decide)
    · exact absurd ((st_iff h0.1 hT hR hw hk.1).mp ⟨hk.2.1, hk.2.2.1⟩) (hno9 _ hk.1)
  · rcases hm with ⟨b1, hr9, hM9⟩ | ⟨ht9, k', hk9a, hk9b, hk9c, hk9d, hr9, hM9⟩ | ⟨ht9, hno9, hr9, hM9⟩
    · omega
    · exact absurd ((st_iff h0.1 hT hR hw hk9a).mpr ⟨hk9b, hk9c⟩) (hno _ hk9a)
    · obtain ⟨o1, o2, o3⟩ := spS_o M t q
      obtain ⟨X, hX⟩ : ∃ z, z = spS (sI M 0 0 (nI 0)) t q := ⟨_, rfl⟩
      rw [← hX] at o1 o2 o3 hM9
      have w5 : ∀ i, 3 ≤ i → i ≠ 56 → T9.1 i = S.1 i ∧ T9.2.1 i = S.2.1 i := hw.1
      have hs1 : ∀ i, i ≠ 52 ∧ i ≠ 58 → S9.1 i = T9.1 i := fun i hi => by rw [hS9]; simp [sI, va_up, hi.1, hi.2]
      have hs2 : ∀ i, S9.2.1 i = T9.2.1 i := fun i => by rw [hS9]; rfl
      have hs : ∀ i, 3 ≤ i → ¬ (52 ≤ i ∧ i < 60) → i < 282 → S9.1 i = S.1 i ∧ S9.2.1 i = S.2.1 i := fun i n1 n2 n3 => by
        obtain ⟨z1, z2⟩ := w5 i n1 (by omega)
        exact ⟨(hs1 i (by omega)).trans z1, (hs2 i ).trans z2⟩
      refine ⟨by rw [hr, hr9], st_rel h0 hs (by rw [hM9]; exact o2) (fun k hk => by rw [hM9]; exact (by simp [sI, sB, va_up, hk.2.2.2.1, hk.2.2.2.2.1, hk.2.2.2.2.2.1, hk.2.2.2.2.2.2] : _ = X.1 0 k).trans (o1 k (by omega) (by omega) (by omega))) (fun i hi => by rw [hM9]; exact (by simp [sI, sB, va_up, hi.2.2.2.1, hi.2.2.2.2.1, hi.2.2.2.2.2] : _ = X.2.1 i).trans (o3 i (by omega) (by omega) (by omega))) (RT_0 hT (by rw [hS9]; rfl) ((hs2 59).trans (w5 59 (by decide) (by decide)).2) (by rw [hM9]; rfl)) (RR_k hR ?_ ?_ ((hs2 54).trans (w5 54 (by decide) (by decide)).2) ((hs2 55).trans (w5 55 (by decide) (by decide)).2) (fun i hi => (hs2 _).trans (w5 _ (by omega) (by omega)).2) ?_ (by rw [hM9]; exact o3 28 (by decide) (by decide) (by decide)) (by rw [hM9]; exact o3 29 (by decide) (by decide) (by decide)) (by rw [hM9]; exact o3 30 (by decide) (by decide) (by decide)))⟩
      · rw [hS9]
        show T9.1 52 3 = _
        rw [(w5 52 (by decide) (by decide)).1]
      · rw [hS9, hM9]
        show nI (cnt _ _ R9) = nI (cnt _ _ R9)
        rw [st_cnt h0.1 hT hR hw (Nat.le_refl _)]
      · rw [hM9]
        exact o1 34 (by decide) (by decide) (by decide)
