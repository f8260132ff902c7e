set_option maxRecDepth 4096 in
theorem sim_feed {S M S9 M9 : wS} {r r9 : Int32} (h : Rel S M) (n : Int32) (v : Int64) (t : Nat) (hT : RT S M t) (hc : (fun r S' => (oo1 n 8 ∧ r = (-102) ∧ S' = S) ∨ (∃ k, k < 8 ∧ n = nI (k + 1) ∧ 200 < t + (k + 1) ∧ r = (-103) ∧ S' = S) ∨ (∃ k, k < 8 ∧ n = nI (k + 1) ∧ t + (k + 1) ≤ 200 ∧ r = nI (t + (k + 1)) ∧ S' = sI (sB S 59 (pts (S.2.1 59) t (fdS v k) ((k + 1)))) 58 1 (nI (t + (k + 1))))) r S9) (hm : (fun r S' => (inF n (nI 1) (nI 8) = 0 ∧ r = (-102) ∧ S' = sI M 0 0 (nI 0)) ∨ (∃ k, k < 8 ∧ n = nI (k + 1) ∧ 200 < t + (k + 1) ∧ r = (-103) ∧ S' = sI M 0 0 (nI 0)) ∨ (∃ k, k < 8 ∧ n = nI (k + 1) ∧ t + (k + 1) ≤ 200 ∧ r = nI (t + (k + 1)) ∧ S' = sI (sB (sI M 0 0 (nI 0)) 10 (pts (M.2.1 10) t (fdB v k) ((k + 1)))) 0 12 (nI (t + (k + 1))))) r9 M9) : r = r9 ∧ Rel S9 M9 := by
  have h0 := h
  obtain ⟨h1, ⟨t9, h2⟩, ⟨ks, h3⟩, ⟨d, h4⟩, h5, ⟨lv, lz, h6⟩, ⟨pv, h7⟩, ⟨R9, rz, h8⟩⟩ := h
  rcases hc with ⟨a1, rfl, rfl⟩ | ⟨k, hk, rfl, a1, rfl, rfl⟩ | ⟨k, hk, rfl, a1, rfl, hS9⟩
  · rcases hm with ⟨b1, rfl, rfl⟩ | ⟨j, hj, e, -⟩ | ⟨j, hj, e, -⟩
    · exact ⟨rfl, h0.th _⟩
    · exact absurd e (a1 j hj)
    · exact absurd e (a1 j hj)
  · rcases hm with ⟨b1, -⟩ | ⟨j, hj, e, b1, rfl, rfl⟩ | ⟨j, hj, e, b1, -⟩
    · exact absurd rfl (inF_oo1 b1 (by decide) k hk)
    · exact ⟨rfl, h0.th _⟩
    · have := nIe e (by omega) (by omega); omega
  · rcases hm with ⟨b1, -⟩ | ⟨j, hj, e, b1, -⟩ | ⟨j, hj, e, b1, rfl, hM9⟩
    · exact absurd rfl (inF_oo1 b1 (by decide) k hk)
    · have := nIe e (by omega) (by omega); omega
    · have e9 := nIe e (by omega) (by omega)
      obtain rfl : k = j := by omega
      have hs : ∀ i, i ≠ 58 → i ≠ 59 → S9.1 i = S.1 i ∧ S9.2.1 i = S.2.1 i := fun i a b => by rw [hS9]; exact ⟨by simp [sI, sB, va_up, a], by simp [sI, sB, va_up, b]⟩
      subst hM9
      exact ⟨rfl, ⟨h1, ⟨_, RT_feed hT a1 (by rw [hS9]; rfl) (by rw [hS9]; rfl) rfl rfl⟩, ⟨ks, h3.cg (fun i hi => hs i (by unfold cK at hi; omega) (by unfold cK at hi; omega)) rfl rfl⟩, ⟨d, h4.cg (fun i hi => hs i (by unfold cD at hi; omega) (by unfold cD at hi; omega)) rfl rfl rfl rfl rfl⟩, h5.cg (fun i hi => hs i (by unfold cG at hi; omega) (by unfold cG at hi; omega)) rfl rfl rfl rfl rfl, ⟨lv, lz, h6.cg (fun i hi => hs i (by unfold cB at hi; omega) (by unfold cB at hi; omega)) rfl rfl rfl rfl rfl rfl⟩, ⟨pv, h7.cg (fun i hi => hs i (by unfold cP at hi; omega) (by unfold cP at hi; omega)) rfl rfl⟩, ⟨R9, rz, h8.cg (fun i hi => hs i (by unfold cR at hi; omega) (by unfold cR at hi; omega)) rfl rfl rfl rfl rfl⟩⟩⟩
set_option maxRecDepth 4096 in
theorem sim_key {S M S9 M9 : wS} {r r9 : Int32} (h : Rel S M) (t : Nat) (hT : RT S M t) (hc : (fun r S' => r = nI t ∧ S' = sI (sI (sB S 61 (va_cpy (S.2.1 59) (S.2.1 61) 0 0 t)) 60 1 (nI t)) 58 1 (nI 0)) r S9) (hm : (fun r S' => r = nI t ∧ S' = sI (sB (sI (sI M 0 0 (nI 0)) 0 14 (nI t)) 11 (cps (M.2.1 11) (M.2.1 10) t)) 0 12 (nI 0)) r9 M9) : r = r9 ∧ Rel S9 M9 := by
  have h0 := h
  obtain ⟨h1, ⟨t9, h2⟩, ⟨ks, h3⟩, ⟨d, h4⟩, h5, ⟨lv, lz, h6⟩, ⟨pv, h7⟩, ⟨R9, rz, h8⟩⟩ := h
  obtain ⟨rfl, hS9⟩ := hc
  obtain ⟨rfl, rfl⟩ := hm
  have hs : ∀ i, i ≠ 58 → i ≠ 60 → i ≠ 61 → S9.1 i = S.1 i ∧ S9.2.1 i = S.2.1 i := fun i a b c => by rw [hS9]; exact ⟨by simp [sI, sB, va_up, a, b], by simp [sI, sB, va_up, c]⟩
  exact ⟨rfl, ⟨h1, ⟨0, RT_0 hT (by rw [hS9]; rfl) (by rw [hS9]; rfl) rfl⟩, ⟨t, RS_key hT h3 (by rw [hS9]; rfl) (by rw [hS9]; rfl) rfl rfl⟩, ⟨d, h4.cg (fun i hi => hs i (by unfold cD at hi; omega) (by unfold cD at hi; omega) (by unfold cD at hi; omega)) rfl rfl rfl rfl rfl⟩, h5.cg (fun i hi => hs i (by unfold cG at hi; omega) (by unfold cG at hi; omega) (by unfold cG at hi; omega)) rfl rfl rfl rfl rfl, ⟨lv, lz, h6.cg (fun i hi => hs i (by unfold cB at hi; omega) (by unfold cB at hi; omega) (by unfold cB at hi; omega)) rfl rfl rfl rfl rfl rfl⟩, ⟨pv, h7.cg (fun i hi => hs i (by unfold cP at hi; omega) (by unfold cP at hi; omega) (by unfold cP at hi; omega)) rfl rfl⟩, ⟨R9, rz, h8.cg (fun i hi => hs i (by unfold cR at hi; omega) (by unfold cR at hi; omega) (by unfold cR at hi; omega)) rfl rfl rfl rfl rfl⟩⟩⟩
