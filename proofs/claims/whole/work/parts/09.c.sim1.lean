set_option maxRecDepth 4096 in
theorem sim_feed {S M S9 M9 : wS} {r r9 : Int32} (h : Rel S M) (n : Int32) (v : Int64) (t : Nat) (hT : RT S M t) (hc : (fun r S' => (oo1 n 8 ∧ r = (-102) ∧ S' = S) ∨ (∃ k, k < 8 ∧ n = nI (k + 1) ∧ 200 < t + (k + 1) ∧ r = (-103) ∧ S' = S) ∨ (∃ k, k < 8 ∧ n = nI (k + 1) ∧ t + (k + 1) ≤ 200 ∧ r = nI (t + (k + 1)) ∧ S' = sI (sB S 59 (pts (S.2.1 59) t (fdS v k) ((k + 1)))) 58 1 (nI (t + (k + 1))))) r S9) (hm : (fun r S' => (inF n (nI 1) (nI 8) = 0 ∧ r = (-102) ∧ S' = sI M 0 0 (nI 0)) ∨ (∃ k, k < 8 ∧ n = nI (k + 1) ∧ 200 < t + (k + 1) ∧ r = (-103) ∧ S' = sI M 0 0 (nI 0)) ∨ (∃ k, k < 8 ∧ n = nI (k + 1) ∧ t + (k + 1) ≤ 200 ∧ r = nI (t + (k + 1)) ∧ S' = sI (sB (sI M 0 0 (nI 0)) 10 (pts (M.2.1 10) t (fdB v k) ((k + 1)))) 0 12 (nI (t + (k + 1))))) r9 M9) : r = r9 ∧ Rel S9 M9 := by
  have h0 := h
  obtain ⟨h1, ⟨t9, h2⟩, ⟨ks, h3⟩, ⟨d, h4⟩, h5, ⟨lv, lz, h6⟩, ⟨pv, h7⟩, ⟨R9, rz, h8⟩⟩ := h
  rcases hc with ⟨a1, rfl, rfl⟩ | ⟨k, hk, rfl, a1, rfl, rfl⟩ | ⟨k, hk, rfl, a1, rfl, hS9⟩
  · rcases hm with ⟨b1, rfl, rfl⟩ | ⟨j, hj, e, -⟩ | ⟨j, hj, e, -⟩
    · exact ⟨rfl, h0.th _⟩
    · exact absurd e (a1 j hj)
    · exact absurd e (a1 j hj)
  · rcases hm with ⟨b1, -⟩ | ⟨j, hj, e, b1, rfl, rfl⟩ | ⟨j, hj, e, b1, -⟩
    · exact absurd rfl (inF_oo1 b1 (by decide) k hk)
    · exact ⟨rfl, h0.th _⟩
    · have := nIe e (by omega) (by omega); omega
  · rcases hm with ⟨b1, -⟩ | ⟨j, hj, e, b1, -⟩ | ⟨j, hj, e, b1, rfl, hM9⟩
    · exact absurd rfl (inF_oo1 b1 (by decide) k hk)
    · have := nIe e (by omega) (by omega); omega
    · have e9 := nIe e (by omega) (by omega)
      obtain rfl : k = j := by omega
      have hs : ∀ i, i ≠ 58 → i ≠ 59 → S9.1 i = S.1 i ∧ S9.2.1 i = S.2.1 i := fun i a b => by rw [hS9]; exact ⟨by simp [sI, sB, va_up, a], by simp [sI, sB, va_up, b]⟩
      subst hM9
      exact ⟨rfl, ⟨h1, ⟨_, RT_feed hT a1 (by rw [hS9]; rfl) (by rw [hS9]; rfl) rfl rfl⟩, ⟨ks, h3.cg (fun i hi => hs i (by unfold cK at hi; omega) (by unfold cK at hi; omega)) rfl rfl⟩, ⟨d, h4.cg (fun i hi => hs i (by unfold cD at hi; omega) (by unfold cD at hi; omega)) rfl rfl rfl rfl rfl⟩, h5.cg (fun i hi => hs i (by unfold cG at hi; omega) (by unfold cG at hi; omega)) rfl rfl rfl rfl rfl, ⟨lv, lz, h6.cg (fun i hi => hs i (by unfold cB at hi; omega) (by unfold cB at hi; omega)) rfl rfl rfl rfl rfl rfl⟩, ⟨pv, h7.cg (fun i hi => hs i (by unfold cP at hi; omega) (by unfold cP at hi; omega)) rfl rfl⟩, ⟨R9, rz, h8.cg (fun i hi => hs i (by unfold cR at hi; omega) (by unfold cR at hi; omega)) rfl rfl rfl rfl rfl⟩⟩⟩
set_option maxRecDepth 4096 in
theorem sim_key {S M S9 M9 : wS} {r r9 : Int32} (h : Rel S M) (t : Nat) (hT : RT S M t) (hc : (fun r S' => r = nI t ∧ S' = sI (sI (sB S 61 (va_cpy (S.2.1 59) (S.2.1 61) 0 0 t)) 60 1 (nI t)) 58 1 (nI 0)) r S9) (hm : (fun r S' => r = nI t ∧ S' = sI (sB (sI (sI M 0 0 (nI 0)) 0 14 (nI t)) 11 (cps (M.2.1 11) (M.2.1 10) t)) 0 12 (nI 0)) r9 M9) : r = r9 ∧ Rel S9 M9 := by
  have h0 := h
  obtain ⟨h1, ⟨t9, h2⟩, ⟨ks, h3⟩, ⟨d, h4⟩, h5, ⟨lv, lz, h6⟩, ⟨pv, h7⟩, ⟨R9, rz, h8⟩⟩ := h
  obtain ⟨rfl, hS9⟩ := hc
  obtain ⟨rfl, rfl⟩ := hm
  have hs : ∀ i, i ≠ 58 → i ≠ 60 → i ≠ 61 → S9.1 i = S.1 i ∧ S9.2.1 i = S.2.1 i := fun i a b c => by rw [hS9]; exact ⟨by simp [sI, sB, va_up, a, b], by simp [sI, sB, va_up, c]⟩
  exact ⟨rfl, ⟨h1, ⟨0, RT_0 hT (by rw [hS9]; rfl) (by rw [hS9]; rfl) rfl⟩, ⟨t, RS_key hT h3 (by rw [hS9]; rfl) (by rw [hS9]; rfl) rfl rfl⟩, ⟨d, h4.cg (fun i hi => hs i (by unfold cD at hi; omega) (by unfold cD at hi; omega) (by unfold cD at hi; omega)) rfl rfl rfl rfl rfl⟩, h5.cg (fun i hi => hs i (by unfold cG at hi; omega) (by unfold cG at hi; omega) (by unfold cG at hi; omega)) rfl rfl rfl rfl rfl, ⟨lv, lz, h6.cg (fun i hi => hs i (by unfold cB at hi; omega) (by unfold cB at hi; omega) (by unfold cB at hi; omega)) rfl rfl rfl rfl rfl rfl⟩, ⟨pv, h7.cg (fun i hi => hs i (by unfold cP at hi; omega) (by unfold cP at hi; omega) (by unfold cP at hi; omega)) rfl rfl⟩, ⟨R9, rz, h8.cg (fun i hi => hs i (by unfold cR at hi; omega) (by unfold cR at hi; omega) (by unfold cR at hi; omega)) rfl rfl rfl rfl rfl⟩⟩⟩
set_option maxRecDepth 4096 in
theorem sim_told {S M S9 M9 : wS} {r r9 : Int32} (h : Rel S M) (g x : Int32) (d : Nat) (hD : RD S M d) (hc : (fun r S' => (oor g d ∧ r = (-101) ∧ S' = S) ∨ (∃ e, e < d ∧ g = nI e ∧ x = nI 0 ∧ r = S.2.1 34 e ∧ S' = S) ∨ (∃ e, e < d ∧ g = nI e ∧ x = nI 1 ∧ r = nI (l32 (S.2.1 34 e)) ∧ S' = S) ∨ (∃ e, e < d ∧ g = nI e ∧ x = nI 2 ∧ r = S.2.1 35 e ∧ S' = S) ∨ (∃ e, e < d ∧ g = nI e ∧ (x.toInt < 0 ∨ (2 : Int) < x.toInt) ∧ r = (-102) ∧ S' = S)) r S9) (hm : (fun r S' => (inF g (nI 0) (nI d - nI 1) = 0 ∧ r = (-101) ∧ S' = sI M 0 0 (nI 0)) ∨ (∃ e, e < d ∧ g = nI e ∧ x = 0 ∧ r = M.2.1 12 e ∧ S' = sI M 0 0 (nI 0)) ∨ (∃ e, e < d ∧ g = nI e ∧ x = nI 1 ∧ r = nI (l32 (M.2.1 12 e)) ∧ S' = sI M 0 0 (nI 0)) ∨ (∃ e, e < d ∧ g = nI e ∧ x = nI 2 ∧ r = M.2.1 13 e ∧ S' = sI M 0 0 (nI 0)) ∨ (∃ e, e < d ∧ g = nI e ∧ ¬ x = 0 ∧ ¬ x = nI 1 ∧ ¬ x = nI 2 ∧ r = (-102) ∧ S' = sI M 0 0 (nI 0))) r9 M9) : r = r9 ∧ Rel S9 M9 := by
  have h0 := h
  have hd2 := hD.2.2.1
  rcases hc with ⟨a1, hr, hS9⟩ | ⟨e, he, e1, hx, hr, hS9⟩ | ⟨e, he, e1, hx, hr, hS9⟩ | ⟨e, he, e1, hx, hr, hS9⟩ | ⟨e, he, e1, hx, hr, hS9⟩
  · rcases hm with ⟨b1, hr9, hM9⟩ | ⟨f, he9, e9, hx9, hr9, hM9⟩ | ⟨f, he9, e9, hx9, hr9, hM9⟩ | ⟨f, he9, e9, hx9, hr9, hM9⟩ | ⟨f, he9, e9, hn0, hn1, hn2, hr9, hM9⟩
    · obtain rfl := hr; obtain rfl := hr9; obtain rfl := hS9; subst hM9; exact ⟨rfl, h0.th _⟩
    · exact absurd e9 (a1 _ he9)
    · exact absurd e9 (a1 _ he9)
    · exact absurd e9 (a1 _ he9)
    · exact absurd e9 (a1 _ he9)
  · rcases hm with ⟨b1, hr9, hM9⟩ | ⟨f, he9, e9, hx9, hr9, hM9⟩ | ⟨f, he9, e9, hx9, hr9, hM9⟩ | ⟨f, he9, e9, hx9, hr9, hM9⟩ | ⟨f, he9, e9, hn0, hn1, hn2, hr9, hM9⟩
    · exact absurd e1 (inF_oord b1 (by omega) _ he)
    · have e8 := nIe (e1.symm.trans e9) (by omega) (by omega)
      subst e8; subst hM9; obtain rfl := hS9
      exact ⟨by rw [hr, hr9]; exact (hD.2.2.2 e he).1, h0.th _⟩
    · exact absurd (hx.symm.trans hx9) (by decide)
    · exact absurd (hx.symm.trans hx9) (by decide)
    · exact absurd hx hn0
  · rcases hm with ⟨b1, hr9, hM9⟩ | ⟨f, he9, e9, hx9, hr9, hM9⟩ | ⟨f, he9, e9, hx9, hr9, hM9⟩ | ⟨f, he9, e9, hx9, hr9, hM9⟩ | ⟨f, he9, e9, hn0, hn1, hn2, hr9, hM9⟩
    · exact absurd e1 (inF_oord b1 (by omega) _ he)
    · exact absurd (hx.symm.trans hx9) (by decide)
    · have e8 := nIe (e1.symm.trans e9) (by omega) (by omega)
      subst e8; subst hM9; obtain rfl := hS9
      exact ⟨by rw [hr, hr9]; exact (by rw [(hD.2.2.2 e he).1]), h0.th _⟩
    · exact absurd (hx.symm.trans hx9) (by decide)
    · exact absurd hx hn1
  · rcases hm with ⟨b1, hr9, hM9⟩ | ⟨f, he9, e9, hx9, hr9, hM9⟩ | ⟨f, he9, e9, hx9, hr9, hM9⟩ | ⟨f, he9, e9, hx9, hr9, hM9⟩ | ⟨f, he9, e9, hn0, hn1, hn2, hr9, hM9⟩
    · exact absurd e1 (inF_oord b1 (by omega) _ he)
    · exact absurd (hx.symm.trans hx9) (by decide)
    · exact absurd (hx.symm.trans hx9) (by decide)
    · have e8 := nIe (e1.symm.trans e9) (by omega) (by omega)
      subst e8; subst hM9; obtain rfl := hS9
      exact ⟨by rw [hr, hr9]; exact (hD.2.2.2 e he).2.1, h0.th _⟩
    · exact absurd hx hn2
  · rcases hm with ⟨b1, hr9, hM9⟩ | ⟨f, he9, e9, hx9, hr9, hM9⟩ | ⟨f, he9, e9, hx9, hr9, hM9⟩ | ⟨f, he9, e9, hx9, hr9, hM9⟩ | ⟨f, he9, e9, hn0, hn1, hn2, hr9, hM9⟩
    · exact absurd e1 (inF_oord b1 (by omega) _ he)
    · rw [hx9] at hx; exact absurd hx (by decide)
    · rw [hx9] at hx; exact absurd hx (by decide)
    · rw [hx9] at hx; exact absurd hx (by decide)
    · subst hM9; obtain rfl := hS9
      exact ⟨by rw [hr, hr9], h0.th _⟩
set_option maxRecDepth 4096 in
theorem sim_about {S M S9 M9 : wS} {r r9 : Int32} (h : Rel S M) (x : Int32) (R9 : Nat) (rz : Nat → Nat) (hR : RR S M R9 rz) (hc : (fun r S' => (x = nI 0 ∧ r = S.1 58 1 ∧ S' = S) ∨ (x = nI 1 ∧ r = S.1 31 5 ∧ S' = S) ∨ (x = nI 2 ∧ r = S.1 52 3 ∧ S' = S) ∨ (x = nI 3 ∧ r = nI (pjo (S.2.1 55) R9 R9) ∧ S' = S) ∨ (x = nI 4 ∧ r = S.1 52 4 ∧ S' = S) ∨ (x = nI 5 ∧ r = nI 1 ∧ S' = S) ∨ ((x.toInt < 0 ∨ (5 : Int) < x.toInt) ∧ r = (-102) ∧ S' = S)) r S9) (hm : (fun r S' => (x = nI 0 ∧ r = M.1 0 12 ∧ S' = sI M 0 0 (nI 0)) ∨ (x = nI 1 ∧ r = M.1 0 16 ∧ S' = sI M 0 0 (nI 0)) ∨ (x = nI 2 ∧ r = M.1 0 34 ∧ S' = sI M 0 0 (nI 0)) ∨ (x = nI 3 ∧ r = nI (pout (M.2.1 30) R9) ∧ S' = sI M 0 0 (nI 0)) ∨ (x = nI 4 ∧ r = M.1 0 38 ∧ S' = sI M 0 0 (nI 0)) ∨ (x = nI 5 ∧ r = nI 1 ∧ S' = sI M 0 0 (nI 0)) ∨ ((x.toInt < 0 ∨ (5 : Int) < x.toInt) ∧ r = (-102) ∧ S' = sI M 0 0 (nI 0))) r9 M9) : r = r9 ∧ Rel S9 M9 := by
  have h0 := h
  obtain ⟨h1, ⟨t9, h2⟩, ⟨ks, h3⟩, ⟨d, h4⟩, h5, ⟨lv, lz, h6⟩, ⟨pv, h7⟩, ⟨R8, rz8, h8⟩⟩ := h
  rcases hc with ⟨hx, hr, hS9⟩ | ⟨hx, hr, hS9⟩ | ⟨hx, hr, hS9⟩ | ⟨hx, hr, hS9⟩ | ⟨hx, hr, hS9⟩ | ⟨hx, hr, hS9⟩ | ⟨hx, hr, hS9⟩
  · rcases hm with ⟨hx9, hr9, hM9⟩ | ⟨hx9, hr9, hM9⟩ | ⟨hx9, hr9, hM9⟩ | ⟨hx9, hr9, hM9⟩ | ⟨hx9, hr9, hM9⟩ | ⟨hx9, hr9, hM9⟩ | ⟨hx9, hr9, hM9⟩
    · subst hM9; obtain rfl := hS9
      exact ⟨by rw [hr, hr9]; rw [h2.1, h2.2.1], h0.th _⟩
    · exact absurd (hx.symm.trans hx9) (by decide)
    · exact absurd (hx.symm.trans hx9) (by decide)
    · exact absurd (hx.symm.trans hx9) (by decide)
    · exact absurd (hx.symm.trans hx9) (by decide)
    · exact absurd (hx.symm.trans hx9) (by decide)
    · rw [hx] at hx9; exact absurd hx9 (by decide)
  · rcases hm with ⟨hx9, hr9, hM9⟩ | ⟨hx9, hr9, hM9⟩ | ⟨hx9, hr9, hM9⟩ | ⟨hx9, hr9, hM9⟩ | ⟨hx9, hr9, hM9⟩ | ⟨hx9, hr9, hM9⟩ | ⟨hx9, hr9, hM9⟩
    · exact absurd (hx.symm.trans hx9) (by decide)
    · subst hM9; obtain rfl := hS9
      exact ⟨by rw [hr, hr9]; rw [h4.1, h4.2.1], h0.th _⟩
    · exact absurd (hx.symm.trans hx9) (by decide)
    · exact absurd (hx.symm.trans hx9) (by decide)
    · exact absurd (hx.symm.trans hx9) (by decide)
    · exact absurd (hx.symm.trans hx9) (by decide)
    · rw [hx] at hx9; exact absurd hx9 (by decide)
  · rcases hm with ⟨hx9, hr9, hM9⟩ | ⟨hx9, hr9, hM9⟩ | ⟨hx9, hr9, hM9⟩ | ⟨hx9, hr9, hM9⟩ | ⟨hx9, hr9, hM9⟩ | ⟨hx9, hr9, hM9⟩ | ⟨hx9, hr9, hM9⟩
    · exact absurd (hx.symm.trans hx9) (by decide)
    · exact absurd (hx.symm.trans hx9) (by decide)
    · subst hM9; obtain rfl := hS9
      exact ⟨by rw [hr, hr9]; rw [h8.1, h8.2.1], h0.th _⟩
    · exact absurd (hx.symm.trans hx9) (by decide)
    · exact absurd (hx.symm.trans hx9) (by decide)
    · exact absurd (hx.symm.trans hx9) (by decide)
    · rw [hx] at hx9; exact absurd hx9 (by decide)
  · rcases hm with ⟨hx9, hr9, hM9⟩ | ⟨hx9, hr9, hM9⟩ | ⟨hx9, hr9, hM9⟩ | ⟨hx9, hr9, hM9⟩ | ⟨hx9, hr9, hM9⟩ | ⟨hx9, hr9, hM9⟩ | ⟨hx9, hr9, hM9⟩
    · exact absurd (hx.symm.trans hx9) (by decide)
    · exact absurd (hx.symm.trans hx9) (by decide)
    · exact absurd (hx.symm.trans hx9) (by decide)
    · subst hM9; obtain rfl := hS9
      exact ⟨by rw [hr, hr9]; rw [pjo_pout]; exact congrArg nI (pout_cg _ (fun i hi => (hR.2.2.2.2 i hi).2.2.2.1)), h0.th _⟩
    · exact absurd (hx.symm.trans hx9) (by decide)
    · exact absurd (hx.symm.trans hx9) (by decide)
    · rw [hx] at hx9; exact absurd hx9 (by decide)
  · rcases hm with ⟨hx9, hr9, hM9⟩ | ⟨hx9, hr9, hM9⟩ | ⟨hx9, hr9, hM9⟩ | ⟨hx9, hr9, hM9⟩ | ⟨hx9, hr9, hM9⟩ | ⟨hx9, hr9, hM9⟩ | ⟨hx9, hr9, hM9⟩
    · exact absurd (hx.symm.trans hx9) (by decide)
    · exact absurd (hx.symm.trans hx9) (by decide)
    · exact absurd (hx.symm.trans hx9) (by decide)
    · exact absurd (hx.symm.trans hx9) (by decide)
    · subst hM9; obtain rfl := hS9
      exact ⟨by rw [hr, hr9]; exact h8.2.2.2.1, h0.th _⟩
    · exact absurd (hx.symm.trans hx9) (by decide)
    · rw [hx] at hx9; exact absurd hx9 (by decide)
  · rcases hm with ⟨hx9, hr9, hM9⟩ | ⟨hx9, hr9, hM9⟩ | ⟨hx9, hr9, hM9⟩ | ⟨hx9, hr9, hM9⟩ | ⟨hx9, hr9, hM9⟩ | ⟨hx9, hr9, hM9⟩ | ⟨hx9, hr9, hM9⟩
    · exact absurd (hx.symm.trans hx9) (by decide)
    · exact absurd (hx.symm.trans hx9) (by decide)
    · exact absurd (hx.symm.trans hx9) (by decide)
    · exact absurd (hx.symm.trans hx9) (by decide)
    · exact absurd (hx.symm.trans hx9) (by decide)
    · subst hM9; obtain rfl := hS9
      exact ⟨by rw [hr, hr9], h0.th _⟩
    · rw [hx] at hx9; exact absurd hx9 (by decide)
  · rcases hm with ⟨hx9, hr9, hM9⟩ | ⟨hx9, hr9, hM9⟩ | ⟨hx9, hr9, hM9⟩ | ⟨hx9, hr9, hM9⟩ | ⟨hx9, hr9, hM9⟩ | ⟨hx9, hr9, hM9⟩ | ⟨hx9, hr9, hM9⟩
    · rw [hx9] at hx; exact absurd hx (by decide)
    · rw [hx9] at hx; exact absurd hx (by decide)
    · rw [hx9] at hx; exact absurd hx (by decide)
    · rw [hx9] at hx; exact absurd hx (by decide)
    · rw [hx9] at hx; exact absurd hx (by decide)
    · rw [hx9] at hx; exact absurd hx (by decide)
    · subst hM9; obtain rfl := hS9
      exact ⟨by rw [hr, hr9], h0.th _⟩
set_option maxRecDepth 4096 in
theorem sim_drop {S M S9 M9 : wS} {r r9 : Int32} (h : Rel S M) (a : Int32) (lv lz : Nat → Nat) (hB : RB S M lv lz) (hc : (fun r S' => (oor a 4 ∧ r = (-102) ∧ S' = S) ∨ (∃ tr, tr < 4 ∧ a = nI tr ∧ r = nI (lv tr) ∧ S' = sI S (38 + 3 * tr) 2 (nI 0))) r S9) (hm : (fun r S' => (inF a (nI 0) (nI 3) = 0 ∧ r = (-102) ∧ S' = sI M 0 0 (nI 0)) ∨ (∃ tr, tr ≤ 3 ∧ a = nI tr ∧ r = nI (lv tr) ∧ S' = sB (sI M 0 0 (nI 0)) 22 (upd (M.2.1 22) tr (nI 0)))) r9 M9) : r = r9 ∧ Rel S9 M9 := by
  have h0 := h
  obtain ⟨h1, ⟨t9, h2⟩, ⟨ks, h3⟩, ⟨d, h4⟩, h5, ⟨lv8, lz8, h6⟩, ⟨pv, h7⟩, ⟨R9, rz, h8⟩⟩ := h
  rcases hc with ⟨a1, hr, hS9⟩ | ⟨tr, htr, e1, hr, hS9⟩
  · rcases hm with ⟨b1, hr9, hM9⟩ | ⟨q, hq, e9, hr9, hM9⟩
    · subst hM9; obtain rfl := hS9
      exact ⟨by rw [hr, hr9], h0.th _⟩
    · exact absurd e9 (a1 q (by omega))
  · rcases hm with ⟨b1, hr9, hM9⟩ | ⟨q, hq, e9, hr9, hM9⟩
    · exact absurd e1 (inF_oor b1 (by decide) tr htr)
    · have e8 := nIe (e1.symm.trans e9) (by omega) (by omega)
      subst e8
      have hs : ∀ i, i ≠ 38 + 3 * tr → S9.1 i = S.1 i ∧ S9.2.1 i = S.2.1 i := fun i a => by rw [hS9]; exact ⟨by simp [sI, va_up, a], rfl⟩
      subst hM9
      refine ⟨by rw [hr, hr9], ⟨h1, ⟨t9, h2.cg (fun i hi => hs i (by unfold cTa at hi; omega)) rfl rfl⟩, ⟨ks, h3.cg (fun i hi => hs i (by unfold cK at hi; omega)) rfl rfl⟩, ⟨d, h4.cg (fun i hi => hs i (by unfold cD at hi; omega)) rfl rfl rfl rfl rfl⟩, h5.cg (fun i hi => hs i (by unfold cG at hi; omega)) rfl rfl rfl rfl rfl, ?_, ⟨pv, h7.cg (fun i hi => hs i (by unfold cP at hi; omega)) rfl rfl⟩, ⟨R9, rz, h8.cg (fun i hi => hs i (by unfold cR at hi; omega)) rfl rfl rfl rfl rfl⟩⟩⟩
      refine ⟨fun j => if j = tr then 0 else lv j, lz, fun j hj => ?_⟩
      dsimp only
      by_cases c : j = tr
      · subst c
        rw [if_pos rfl]
        refine ⟨by rw [hS9]; simp [sI, va_up], pk_us, by omega, fun a ha => absurd ha (Nat.not_lt_zero a)⟩
      · rw [if_neg c]
        obtain ⟨g1, g2, g3, g4⟩ := hB j hj
        refine ⟨by rw [(hs _ (by omega)).1]; exact g1, by show upd (M.2.1 22) tr (nI 0) j = _; rw [pk_un c]; exact g2, g3, fun a ha => ?_⟩
        rw [(hs (39 + 3 * j) (by omega)).2, (hs (182 + 24 * j + a) (by omega)).2]
        exact g4 a ha
set_option maxRecDepth 4096 in
theorem sim_same {S M S9 M9 : wS} {r r9 : Int32} (h : Rel S M) (ga gb : Int32) (d : Nat) (hD : RD S M d) (hc : (fun r S' => ((oor ga d ∨ oor gb d) ∧ r = (-101) ∧ S' = S) ∨ (∃ a b, a < d ∧ b < d ∧ ga = nI a ∧ gb = nI b ∧ (¬ l32 (S.2.1 34 a) = l32 (S.2.1 34 b) ∨ ∃ q, q < l32 (S.2.1 34 a) ∧ ¬ S.2.1 (62 + a) q = S.2.1 (62 + b) q) ∧ r = nI 0 ∧ S' = S) ∨ (∃ a b, a < d ∧ b < d ∧ ga = nI a ∧ gb = nI b ∧ l32 (S.2.1 34 a) = l32 (S.2.1 34 b) ∧ (∀ q, q < l32 (S.2.1 34 a) → S.2.1 (62 + a) q = S.2.1 (62 + b) q) ∧ r = nI 1 ∧ S' = S)) r S9) (hm : (fun r S' => ((inF ga (nI 0) (nI d - nI 1) = 0 ∨ inF gb (nI 0) (nI d - nI 1) = 0) ∧ r = (-101) ∧ S' = sI M 0 0 (nI 0)) ∨ (∃ a b, a < d ∧ b < d ∧ ga = nI a ∧ gb = nI b ∧ (¬ l32 (M.2.1 12 a) = l32 (M.2.1 12 b) ∨ ∃ q, q < l32 (M.2.1 12 a) ∧ ¬ M.2.1 14 (32 * a + q) = M.2.1 14 (32 * b + q)) ∧ r = nI 0 ∧ S' = sI M 0 0 (nI 0)) ∨ (∃ a b, a < d ∧ b < d ∧ ga = nI a ∧ gb = nI b ∧ l32 (M.2.1 12 a) = l32 (M.2.1 12 b) ∧ (∀ q, q < l32 (M.2.1 12 a) → M.2.1 14 (32 * a + q) = M.2.1 14 (32 * b + q)) ∧ r = nI 1 ∧ S' = sI M 0 0 (nI 0))) r9 M9) : r = r9 ∧ Rel S9 M9 := by
  have h0 := h
  have hd2 := hD.2.2.1
  rcases hc with ⟨a1, hr, hS9⟩ | ⟨a, b, ha, hb, e1, f1, hd9, hr, hS9⟩ | ⟨a, b, ha, hb, e1, f1, hl, hal, hr, hS9⟩
  · rcases hm with ⟨b1, hr9, hM9⟩ | ⟨a9, b9, ha9, hb9, e9, f9, hd8, hr9, hM9⟩ | ⟨a9, b9, ha9, hb9, e9, f9, hl9, hal9, hr9, hM9⟩
    · subst hM9; obtain rfl := hS9; exact ⟨by rw [hr, hr9], h0.th _⟩
    · rcases a1 with a1 | a1
      · exact absurd e9 (a1 _ ha9)
      · exact absurd f9 (a1 _ hb9)
    · rcases a1 with a1 | a1
      · exact absurd e9 (a1 _ ha9)
      · exact absurd f9 (a1 _ hb9)
  · rcases hm with ⟨b1, hr9, hM9⟩ | ⟨a9, b9, ha9, hb9, e9, f9, hd8, hr9, hM9⟩ | ⟨a9, b9, ha9, hb9, e9, f9, hl9, hal9, hr9, hM9⟩
    · rcases b1 with b1 | b1
      · exact absurd e1 (inF_oord b1 (by omega) _ ha)
      · exact absurd f1 (inF_oord b1 (by omega) _ hb)
    · have e8 := nIe (e1.symm.trans e9) (by omega) (by omega)
      have f8 := nIe (f1.symm.trans f9) (by omega) (by omega)
      subst e8; subst f8
      obtain ⟨p1, p2, p3, p4⟩ := hD.2.2.2 a ha
      obtain ⟨q1, q2, q3, q4⟩ := hD.2.2.2 b hb
      subst hM9; obtain rfl := hS9; exact ⟨by rw [hr, hr9], h0.th _⟩
    · have e8 := nIe (e1.symm.trans e9) (by omega) (by omega)
      have f8 := nIe (f1.symm.trans f9) (by omega) (by omega)
      subst e8; subst f8
      obtain ⟨p1, p2, p3, p4⟩ := hD.2.2.2 a ha
      obtain ⟨q1, q2, q3, q4⟩ := hD.2.2.2 b hb
      exfalso
      rcases hd9 with c | ⟨q, hq, c⟩
      · exact c (by rw [p1, q1]; exact hl9)
      · rw [p1] at hq
        refine c (sb_inj (p3 q hq).2 (q3 q (by rw [← hl9]; exact hq)).2 ?_)
        have h9 := hal9 q hq
        rw [(p3 q hq).1, (q3 q (by rw [← hl9]; exact hq)).1] at h9
        exact h9
  · rcases hm with ⟨b1, hr9, hM9⟩ | ⟨a9, b9, ha9, hb9, e9, f9, hd8, hr9, hM9⟩ | ⟨a9, b9, ha9, hb9, e9, f9, hl9, hal9, hr9, hM9⟩
    · rcases b1 with b1 | b1
      · exact absurd e1 (inF_oord b1 (by omega) _ ha)
      · exact absurd f1 (inF_oord b1 (by omega) _ hb)
    · have e8 := nIe (e1.symm.trans e9) (by omega) (by omega)
      have f8 := nIe (f1.symm.trans f9) (by omega) (by omega)
      subst e8; subst f8
      obtain ⟨p1, p2, p3, p4⟩ := hD.2.2.2 a ha
      obtain ⟨q1, q2, q3, q4⟩ := hD.2.2.2 b hb
      exfalso
      rcases hd8 with c | ⟨q, hq, c⟩
      · exact c (by rw [← p1, ← q1]; exact hl)
      · refine c ?_
        have hl2 : l32 (M.2.1 12 a) = l32 (M.2.1 12 b) := by rw [← p1, ← q1]; exact hl
        rw [(p3 q hq).1, (q3 q (by rw [← hl2]; exact hq)).1]
        unfold ub
        rw [hal q (by rw [p1]; exact hq)]
    · have e8 := nIe (e1.symm.trans e9) (by omega) (by omega)
      have f8 := nIe (f1.symm.trans f9) (by omega) (by omega)
      subst e8; subst f8
      obtain ⟨p1, p2, p3, p4⟩ := hD.2.2.2 a ha
      obtain ⟨q1, q2, q3, q4⟩ := hD.2.2.2 b hb
      subst hM9; obtain rfl := hS9; exact ⟨by rw [hr, hr9], h0.th _⟩
set_option maxRecDepth 4096 in
theorem sim_clear {S M S9 M9 : wS} {r r9 : Int32} (h : Rel S M)  (hc : (fun r S' => r = S.1 31 5 ∧ S' = clD S) r S9) (hm : (fun r S' => r = M.1 0 16 ∧ S' = clS M) r9 M9) : r = r9 ∧ Rel S9 M9 := by
  have h0 := h
  obtain ⟨h1, ⟨t9, h2⟩, ⟨ks, h3⟩, ⟨d, h4⟩, h5, ⟨lv, lz, h6⟩, ⟨pv, h7⟩, ⟨R9, rz, h8⟩⟩ := h
  obtain ⟨hr, rfl⟩ := hc
  obtain ⟨hr9, rfl⟩ := hm
  refine ⟨by rw [hr, hr9, h4.1, h4.2.1], h1, ⟨0, rfl, rfl, by omega, fun k hk => absurd hk (Nat.not_lt_zero k), h2.2.2.2.2⟩, ⟨0, rfl, rfl, by omega, fun k hk => absurd hk (Nat.not_lt_zero k), h3.2.2.2.2⟩, ⟨0, rfl, rfl, by omega, fun k hk => absurd hk (Nat.not_lt_zero k)⟩, fun j hj => ?_, ⟨fun _ => 0, lz, fun j hj => ?_⟩, ⟨0, rfl, rfl, by omega, fun k hk => absurd hk (Nat.not_lt_zero k)⟩, ⟨0, rz, rfl, rfl, by omega, rfl, fun k hk => absurd hk (Nat.not_lt_zero k)⟩⟩
  · obtain ⟨n, b1, b2, -⟩ := h5 j hj
    refine ⟨n, b1, b2, Or.inl ?_⟩
    rcases (show j = 0 ∨ j = 1 ∨ j = 2 ∨ j = 3 by omega) with rfl | rfl | rfl | rfl <;> exact ⟨rfl, rfl⟩
  · refine ⟨?_, ?_, Nat.zero_le _, fun a ha => absurd ha (Nat.not_lt_zero a)⟩
    · rcases (show j = 0 ∨ j = 1 ∨ j = 2 ∨ j = 3 by omega) with rfl | rfl | rfl | rfl <;> rfl
    · rcases (show j = 0 ∨ j = 1 ∨ j = 2 ∨ j = 3 by omega) with rfl | rfl | rfl | rfl <;> rfl
set_option maxRecDepth 4096 in
theorem sim_leaf {S M S9 M9 : wS} {r r9 : Int32} (h : Rel S M) (a x : Int32) (t : Nat) (hT : RT S M t) (lv lz : Nat → Nat) (hB : RB S M lv lz) (hc : (fun r S' => ((oor a 4 ∨ oor x 8 ∨ 40 < t) ∧ r = (-102) ∧ S' = S) ∨ (∃ tr kd, tr < 4 ∧ kd < 8 ∧ a = nI tr ∧ x = nI kd ∧ t ≤ 40 ∧ lv tr = 12 ∧ r = (-103) ∧ S' = S) ∨ (∃ tr kd, tr < 4 ∧ kd < 8 ∧ a = nI tr ∧ x = nI kd ∧ t ≤ 40 ∧ lv tr < 12 ∧ r = nI (lv tr + 1) ∧ ∃ T, slP S tr (lv tr) kd t T ∧ S' = sI T (38 + 3 * tr) 2 (nI (lv tr + 1)))) r S9) (hm : (fun r S' => ((inF a (nI 0) (nI 3) = 0 ∨ inF x (nI 0) (nI 7) = 0 ∨ 40 < t) ∧ r = (-102) ∧ S' = sI M 0 0 (nI 0)) ∨ (∃ tr kd, tr ≤ 3 ∧ kd ≤ 7 ∧ a = nI tr ∧ x = nI kd ∧ t ≤ 40 ∧ lv tr = 12 ∧ r = (-103) ∧ S' = sI M 0 0 (nI 0)) ∨ (∃ tr kd, tr ≤ 3 ∧ kd ≤ 7 ∧ a = nI tr ∧ x = nI kd ∧ t ≤ 40 ∧ lv tr < 12 ∧ r = nI (lv tr + 1) ∧ S' = sB (lyS (sI M 0 0 (nI 0)) (12 * tr + lv tr) (nI kd) t) 22 (upd (M.2.1 22) tr (nI (lv tr + 1))))) r9 M9) : r = r9 ∧ Rel S9 M9 := by
  have h0 := h
  obtain ⟨h1, ⟨t9, h2⟩, ⟨ks, h3⟩, ⟨d, h4⟩, h5, ⟨lv8, lz8, h6⟩, ⟨pv, h7⟩, ⟨R9, rz, h8⟩⟩ := h
  have hlv := fun j hj => (hB j hj).2.2.1
  rcases hc with ⟨a1, hr, hS9⟩ | ⟨tr, kd, htr, hkd, e1, f1, ht40, hl12, hr, hS9⟩ | ⟨tr, kd, htr, hkd, e1, f1, ht40, hl12, hr, hS9⟩
  · rcases hm with ⟨b1, hr9, hM9⟩ | ⟨q, kq, hq, hkq, e9, f9, hq40, hq12, hr9, hM9⟩ | ⟨q, kq, hq, hkq, e9, f9, hq40, hq12, hr9, hM9⟩
    · subst hM9; obtain rfl := hS9; exact ⟨by rw [hr, hr9], h0.th _⟩
    · rcases a1 with c | c | c
      · exact absurd e9 (c _ (by omega))
      · exact absurd f9 (c _ (by omega))
      · omega
    · rcases a1 with c | c | c
      · exact absurd e9 (c _ (by omega))
      · exact absurd f9 (c _ (by omega))
      · omega
  · rcases hm with ⟨b1, hr9, hM9⟩ | ⟨q, kq, hq, hkq, e9, f9, hq40, hq12, hr9, hM9⟩ | ⟨q, kq, hq, hkq, e9, f9, hq40, hq12, hr9, hM9⟩
    · rcases b1 with c | c | c
      · exact absurd e1 (inF_oor c (by decide) _ htr)
      · exact absurd f1 (inF_oor c (by decide) _ hkd)
      · omega
    · have e8 := nIe (e1.symm.trans e9) (by omega) (by omega)
      have f8 := nIe (f1.symm.trans f9) (by omega) (by omega)
      subst e8; subst f8
      subst hM9; obtain rfl := hS9; exact ⟨by rw [hr, hr9], h0.th _⟩
    · have e8 := nIe (e1.symm.trans e9) (by omega) (by omega)
      have f8 := nIe (f1.symm.trans f9) (by omega) (by omega)
      subst e8; subst f8
      omega
  · rcases hm with ⟨b1, hr9, hM9⟩ | ⟨q, kq, hq, hkq, e9, f9, hq40, hq12, hr9, hM9⟩ | ⟨q, kq, hq, hkq, e9, f9, hq40, hq12, hr9, hM9⟩
    · rcases b1 with c | c | c
      · exact absurd e1 (inF_oor c (by decide) _ htr)
      · exact absurd f1 (inF_oor c (by decide) _ hkd)
      · omega
    · have e8 := nIe (e1.symm.trans e9) (by omega) (by omega)
      have f8 := nIe (f1.symm.trans f9) (by omega) (by omega)
      subst e8; subst f8
      omega
    · have e8 := nIe (e1.symm.trans e9) (by omega) (by omega)
      have f8 := nIe (f1.symm.trans f9) (by omega) (by omega)
      subst e8; subst f8
      obtain ⟨T, hT9, hS9⟩ := hS9
      obtain ⟨y1, y2, y3, y4, y5⟩ := slP_o htr (by omega) hT9
      have hs1 : ∀ i, 3 ≤ i → i ≠ 58 → i ≠ 38 + 3 * tr → i ≠ 182 + 24 * tr + lv tr → S9.1 i = S.1 i := fun i q1 q2 q3 q4 => by
        rw [hS9]
        show va_up T.1 (38 + 3 * tr) _ i = _
        rw [va_up_ne _ _ q3]
        exact (y4 i q1 q2).resolve_right q4
      have hs2 : ∀ i, 3 ≤ i → i ≠ 39 + 3 * tr → i ≠ 182 + 24 * tr + lv tr → S9.2.1 i = S.2.1 i := fun i q1 q2 q3 => by rw [hS9]; exact y5 i q1 q2 q3
      have hs : ∀ i, (3 ≤ i ∧ i ≠ 58 ∧ i ≠ 38 + 3 * tr ∧ i ≠ 39 + 3 * tr ∧ i ≠ 182 + 24 * tr + lv tr) → S9.1 i = S.1 i ∧ S9.2.1 i = S.2.1 i := fun i q => ⟨hs1 i (by omega) (by omega) (by omega) (by omega), hs2 i (by omega) (by omega) (by omega)⟩
      subst hM9
      refine ⟨by rw [hr, hr9], ⟨h1, ⟨0, RT_0 hT (by rw [hS9]; show va_up T.1 _ _ 58 1 = _; rw [va_up_ne _ _ (by omega)]; exact y1) (hs2 59 (by decide) (by omega) (by omega)) rfl⟩, ⟨ks, h3.cg (fun i hi => hs i (by unfold cK at hi; omega)) rfl rfl⟩, ⟨d, h4.cg (fun i hi => hs i (by unfold cD at hi; omega)) rfl rfl rfl rfl rfl⟩, h5.cg (fun i hi => hs i (by unfold cG at hi; omega)) rfl rfl rfl rfl rfl, ?_, ⟨pv, h7.cg (fun i hi => hs i (by unfold cP at hi; omega)) rfl rfl⟩, ⟨R9, rz, h8.cg (fun i hi => hs i (by unfold cR at hi; omega)) rfl rfl rfl rfl rfl⟩⟩⟩
      refine ⟨fun j => if j = tr then lv tr + 1 else lv j, fun i => if i = 12 * tr + lv tr then t else lz i, RB_lay (lv := lv) (lz := lz) (if_pos rfl) (fun i hi => if_neg hi) hB hT h1 ht40 htr (by omega) (fun j hj => ?_) (by rw [hS9]; exact y2) (fun j hj hn => hs2 _ (by omega) (by omega) (by omega)) (fun k hk => by rw [hS9]; exact y3 k hk) (fun j a hj ha hn => hs2 _ (by omega) (by omega) (by omega)) rfl rfl rfl rfl rfl⟩
      by_cases c : j = tr
      · subst c
        rw [if_pos rfl]
        exact ⟨by rw [hS9]; show va_up T.1 _ _ _ 2 = _; rw [up_at]; exact up_at _ _ _, pk_us, by omega, fun a ha => by omega⟩
      · rw [if_neg c]
        obtain ⟨g1, g2, g3, g4⟩ := hB j hj
        exact ⟨by rw [hs1 _ (by omega) (by omega) (by omega) (by omega)]; exact g1, by show upd (M.2.1 22) tr _ j = _; rw [pk_un c]; exact g2, g3, fun a ha => Or.inr ha⟩
set_option maxRecDepth 4096 in
theorem sim_change {S M S9 M9 : wS} {r r9 : Int32} (h : Rel S M) (a b x : Int32) (t : Nat) (hT : RT S M t) (lv lz : Nat → Nat) (hB : RB S M lv lz) (hc : (fun r S' => (oor a 4 ∧ r = (-102) ∧ S' = S) ∨ (∃ tr, tr < 4 ∧ a = nI tr ∧ oor b (lv tr) ∧ r = (-101) ∧ S' = S) ∨ (∃ tr lf, tr < 4 ∧ a = nI tr ∧ b = nI lf ∧ lf < lv tr ∧ (oor x 8 ∨ 40 < t) ∧ r = (-102) ∧ S' = S) ∨ (∃ tr lf kd, tr < 4 ∧ a = nI tr ∧ b = nI lf ∧ lf < lv tr ∧ kd < 8 ∧ x = nI kd ∧ t ≤ 40 ∧ r = S.2.1 (39 + 3 * tr) lf ∧ slP S tr lf kd t S')) r S9) (hm : (fun r S' => (inF a (nI 0) (nI 3) = 0 ∧ r = (-102) ∧ S' = sI M 0 0 (nI 0)) ∨ (∃ tr, tr ≤ 3 ∧ a = nI tr ∧ inF b (nI 0) (nI (lv tr) - nI 1) = 0 ∧ r = (-101) ∧ S' = sI M 0 0 (nI 0)) ∨ (∃ tr lf, tr ≤ 3 ∧ a = nI tr ∧ b = nI lf ∧ lf < lv tr ∧ (inF x (nI 0) (nI 7) = 0 ∨ 40 < t) ∧ r = (-102) ∧ S' = sI M 0 0 (nI 0)) ∨ (∃ tr lf kd, tr ≤ 3 ∧ a = nI tr ∧ b = nI lf ∧ lf < lv tr ∧ kd ≤ 7 ∧ x = nI kd ∧ t ≤ 40 ∧ r = M.2.1 23 (12 * tr + lf) ∧ S' = lyS (sI M 0 0 (nI 0)) (12 * tr + lf) (nI kd) t)) r9 M9) : r = r9 ∧ Rel S9 M9 := by
  have h0 := h
  obtain ⟨h1, ⟨t9, h2⟩, ⟨ks, h3⟩, ⟨d, h4⟩, h5, ⟨lv8, lz8, h6⟩, ⟨pv, h7⟩, ⟨R9, rz, h8⟩⟩ := h
  have hlv := fun j hj => (hB j hj).2.2.1
  rcases hc with ⟨a1, hr, hS9⟩ | ⟨tr, htr, e1, a1, hr, hS9⟩ | ⟨tr, lf, htr, e1, f1, hlf, hbad, hr, hS9⟩ | ⟨tr, lf, kd, htr, e1, f1, hlf, hkd, g1, ht40, hr, hS9⟩
  · rcases hm with ⟨b1, hr9, hM9⟩ | ⟨q, hq, e9, b1, hr9, hM9⟩ | ⟨q, lq, hq, e9, f9, hlf9, hbad9, hr9, hM9⟩ | ⟨q, lq, kq, hq, e9, f9, hlf9, hkq, g9, hq40, hr9, hM9⟩
    · subst hM9; obtain rfl := hS9; exact ⟨by rw [hr, hr9], h0.th _⟩
    · exact absurd e9 (a1 _ (by omega))
    · exact absurd e9 (a1 _ (by omega))
    · exact absurd e9 (a1 _ (by omega))
  · rcases hm with ⟨b1, hr9, hM9⟩ | ⟨q, hq, e9, b1, hr9, hM9⟩ | ⟨q, lq, hq, e9, f9, hlf9, hbad9, hr9, hM9⟩ | ⟨q, lq, kq, hq, e9, f9, hlf9, hkq, g9, hq40, hr9, hM9⟩
    · exact absurd e1 (inF_oor b1 (by decide) _ htr)
    · have e8 := nIe (e1.symm.trans e9) (by omega) (by omega)
      subst e8
      have hl9 := hlv _ htr
      subst hM9; obtain rfl := hS9; exact ⟨by rw [hr, hr9], h0.th _⟩
    · have e8 := nIe (e1.symm.trans e9) (by omega) (by omega)
      subst e8
      have hl9 := hlv _ htr
      exact absurd f9 (a1 _ hlf9)
    · have e8 := nIe (e1.symm.trans e9) (by omega) (by omega)
      subst e8
      have hl9 := hlv _ htr
      exact absurd f9 (a1 _ hlf9)
  · rcases hm with ⟨b1, hr9, hM9⟩ | ⟨q, hq, e9, b1, hr9, hM9⟩ | ⟨q, lq, hq, e9, f9, hlf9, hbad9, hr9, hM9⟩ | ⟨q, lq, kq, hq, e9, f9, hlf9, hkq, g9, hq40, hr9, hM9⟩
    · exact absurd e1 (inF_oor b1 (by decide) _ htr)
    · have e8 := nIe (e1.symm.trans e9) (by omega) (by omega)
      subst e8
      have hl9 := hlv _ htr
      exact absurd f1 (inF_oord b1 (by omega) _ hlf)
    · have e8 := nIe (e1.symm.trans e9) (by omega) (by omega)
      subst e8
      have hl9 := hlv _ htr
      have f8 := nIe (f1.symm.trans f9) (by omega) (by omega)
      subst f8
      subst hM9; obtain rfl := hS9; exact ⟨by rw [hr, hr9], h0.th _⟩
    · have e8 := nIe (e1.symm.trans e9) (by omega) (by omega)
      subst e8
      have hl9 := hlv _ htr
      have f8 := nIe (f1.symm.trans f9) (by omega) (by omega)
      subst f8
      rcases hbad with c | c
      · exact absurd g9 (c _ (by omega))
      · omega
  · rcases hm with ⟨b1, hr9, hM9⟩ | ⟨q, hq, e9, b1, hr9, hM9⟩ | ⟨q, lq, hq, e9, f9, hlf9, hbad9, hr9, hM9⟩ | ⟨q, lq, kq, hq, e9, f9, hlf9, hkq, g9, hq40, hr9, hM9⟩
    · exact absurd e1 (inF_oor b1 (by decide) _ htr)
    · have e8 := nIe (e1.symm.trans e9) (by omega) (by omega)
      subst e8
      have hl9 := hlv _ htr
      exact absurd f1 (inF_oord b1 (by omega) _ hlf)
    · have e8 := nIe (e1.symm.trans e9) (by omega) (by omega)
      subst e8
      have hl9 := hlv _ htr
      have f8 := nIe (f1.symm.trans f9) (by omega) (by omega)
      subst f8
      rcases hbad9 with c | c
      · exact absurd g1 (inF_oor c (by decide) _ hkd)
      · omega
    · have e8 := nIe (e1.symm.trans e9) (by omega) (by omega)
      subst e8
      have hl9 := hlv _ htr
      have f8 := nIe (f1.symm.trans f9) (by omega) (by omega)
      subst f8
      have g8 := nIe (g1.symm.trans g9) (by omega) (by omega)
      subst g8
      obtain ⟨y1, y2, y3, y4, y5⟩ := slP_o htr (by omega) hS9
      have hs : ∀ i, (3 ≤ i ∧ i ≠ 58 ∧ i ≠ 39 + 3 * tr ∧ i ≠ 182 + 24 * tr + lf) → S9.1 i = S.1 i ∧ S9.2.1 i = S.2.1 i := fun i q => ⟨(y4 i (by omega) (by omega)).resolve_right (by omega), y5 i (by omega) (by omega) (by omega)⟩
      subst hM9
      have hk9 := (hB tr htr).2.2.2 lf hlf
      refine ⟨by rw [hr, hr9]; exact hk9.1, ⟨h1, ⟨0, RT_0 hT y1 (y5 59 (by decide) (by omega) (by omega)) rfl⟩, ⟨ks, h3.cg (fun i hi => hs i (by unfold cK at hi; omega)) rfl rfl⟩, ⟨d, h4.cg (fun i hi => hs i (by unfold cD at hi; omega)) rfl rfl rfl rfl rfl⟩, h5.cg (fun i hi => hs i (by unfold cG at hi; omega)) rfl rfl rfl rfl rfl, ?_, ⟨pv, h7.cg (fun i hi => hs i (by unfold cP at hi; omega)) rfl rfl⟩, ⟨R9, rz, h8.cg (fun i hi => hs i (by unfold cR at hi; omega)) rfl rfl rfl rfl rfl⟩⟩⟩
      refine ⟨lv, fun i => if i = 12 * tr + lf then t else lz i, RB_lay (lv := lv) (lz := lz) (if_pos rfl) (fun i hi => if_neg hi) hB hT h1 ht40 htr (by omega) (fun j hj => ?_) y2 (fun j hj hn => y5 _ (by omega) (by omega) (by omega)) y3 (fun j a hj ha hn => y5 _ (by omega) (by omega) (by omega)) rfl rfl rfl rfl rfl⟩
      obtain ⟨g1, g2, g3, g4⟩ := hB j hj
      exact ⟨by rw [(y4 (38 + 3 * j) (by omega) (by omega)).resolve_right (by omega)]; exact g1, g2, g3, fun a ha => Or.inr ha⟩
