theorem pl_sch (f g : Nat → Int32) (t : Nat) (ht : t < 64) : schN (va_cpy f g 0 0 16) 48 t = schN f 48 t := by
  obtain ⟨n, hn⟩ : ∃ n, n = 48 := ⟨48, rfl⟩
  rw [← hn]
  exact schN_cg (fun q hq => by rw [pk_cpy_in (by omega) (by omega), show 0 + (q - 0) = q by omega]) n t (by omega)
theorem simR_table {S M S9 M9 : wS} {r r9 : Int32} (h : Rel S M) (x : Int32) (hc : (fun r S' => ∃ t, t < 64 ∧ x = nI t ∧ r = kC t ∧ S' = S) r S9) (hm : (fun r S' => (inF x (nI 0) (nI 63) = 0 ∧ r = nI 0 ∧ S' = sI M 0 0 (nI 1)) ∨ (∃ t, t ≤ 63 ∧ x = nI t ∧ r = M.2.1 1 t ∧ S' = sI M 0 0 (nI 0))) r9 M9) : M9.1 0 0 = nI 0 ∧ r = r9 ∧ Rel S9 M9 := by
  obtain ⟨t, ht, e1, hr, hS9⟩ := hc
  rcases hm with ⟨b1, hr9, hM9⟩ | ⟨q, hq, e9, hr9, hM9⟩
  · exact absurd e1 (inF_oor b1 (by decide) _ ht)
  · have e8 := nIe (e1.symm.trans e9) (by omega) (by omega)
    subst e8
    subst hM9; obtain rfl := hS9
    exact ⟨rfl, by rw [hr, hr9, h.1.1], h.th _⟩
theorem simE_table {S M S9 M9 : wS} {r9 : Int32} {E9 : String} (h : Rel S M) (x : Int32) (hc : (fun E9 S' => E9 = rnA ∧ oor x 64 ∧ S' = S) E9 S9) (hm : (fun r S' => (inF x (nI 0) (nI 63) = 0 ∧ r = nI 0 ∧ S' = sI M 0 0 (nI 1)) ∨ (∃ t, t ≤ 63 ∧ x = nI t ∧ r = M.2.1 1 t ∧ S' = sI M 0 0 (nI 0))) r9 M9) : M9.1 0 0 = nI 1 ∧ Rel S9 M9 := by
  obtain ⟨-, a1, hS9⟩ := hc
  rcases hm with ⟨b1, hr9, hM9⟩ | ⟨q, hq, e9, hr9, hM9⟩
  · subst hM9; obtain rfl := hS9
    exact ⟨rfl, h.th _⟩
  · exact absurd e9 (a1 _ (by omega))
theorem simR_plan {S M S9 M9 : wS} {r r9 : Int64} (h : Rel S M) (g x : Int32) (d : Nat) (hD : RD S M d) (hc : (fun r S' => (oor g d ∧ r = (-101) ∧ S' = S) ∨ (∃ e t, e < d ∧ g = nI e ∧ t < 64 ∧ x = nI t ∧ r = (schN (va_cpy (S.2.1 (122 + e)) (S.2.1 36) 0 0 16) 48 t).toInt64 ∧ S' = sB S 36 (schN (va_cpy (S.2.1 (122 + e)) (S.2.1 36) 0 0 16) 48))) r S9) (hm : (fun r S' => (inF g (nI 0) (nI d - nI 1) = 0 ∧ r = (-101) ∧ S' = sI M 0 0 (nI 0)) ∨ (∃ e, e < d ∧ g = nI e ∧ inF x (nI 0) (nI 63) = 0 ∧ r = 0 ∧ S' = sI (sI M 0 0 (nI 0)) 0 0 (nI 1)) ∨ (∃ e t, e < d ∧ g = nI e ∧ t ≤ 63 ∧ x = nI t ∧ r = (M.2.1 15 (64 * e + t)).toInt64 ∧ S' = sI (sI M 0 0 (nI 0)) 0 0 (nI 0))) r9 M9) : M9.1 0 0 = nI 0 ∧ r = r9 ∧ Rel S9 M9 := by
  have hd2 := hD.2.2.1
  rcases hc with ⟨a1, hr, hS9⟩ | ⟨e, t, he, e1, ht, f1, hr, hS9⟩
  · rcases hm with ⟨b1, hr9, hM9⟩ | ⟨q, hq, e9, b2, hr9, hM9⟩ | ⟨q, t9, hq, e9, ht9, f9, hr9, hM9⟩
    · subst hM9; obtain rfl := hS9
      exact ⟨rfl, by rw [hr, hr9], h.th _⟩
    · exact absurd e9 (a1 _ hq)
    · exact absurd e9 (a1 _ hq)
  · rcases hm with ⟨b1, hr9, hM9⟩ | ⟨q, hq, e9, b2, hr9, hM9⟩ | ⟨q, t9, hq, e9, ht9, f9, hr9, hM9⟩
    · exact absurd e1 (inF_oord b1 (by omega) _ he)
    · exact absurd f1 (inF_oor b2 (by decide) _ ht)
    · have e8 := nIe (e1.symm.trans e9) (by omega) (by omega)
      subst e8
      have f8 := nIe (f1.symm.trans f9) (by omega) (by omega)
      subst f8
      refine ⟨by rw [hM9]; rfl, ?_, ?_⟩
      · rw [hr, hr9, (hD.2.2.2 e he).2.2.2 t ht, pl_sch _ _ t ht]
      · rw [hM9]
        exact Rel.th (Rel.th (Rel.c36 h (fun i a => by rw [hS9]; exact ⟨rfl, by simp [sB, va_up, a]⟩)) _) _
theorem simE_plan {S M S9 M9 : wS} {r9 : Int64} {E9 : String} (h : Rel S M) (g x : Int32) (d : Nat) (hD : RD S M d) (hc : (fun E9 S' => E9 = rnA ∧ (∃ e, e < d ∧ g = nI e) ∧ oor x 64 ∧ S' = S) E9 S9) (hm : (fun r S' => (inF g (nI 0) (nI d - nI 1) = 0 ∧ r = (-101) ∧ S' = sI M 0 0 (nI 0)) ∨ (∃ e, e < d ∧ g = nI e ∧ inF x (nI 0) (nI 63) = 0 ∧ r = 0 ∧ S' = sI (sI M 0 0 (nI 0)) 0 0 (nI 1)) ∨ (∃ e t, e < d ∧ g = nI e ∧ t ≤ 63 ∧ x = nI t ∧ r = (M.2.1 15 (64 * e + t)).toInt64 ∧ S' = sI (sI M 0 0 (nI 0)) 0 0 (nI 0))) r9 M9) : M9.1 0 0 = nI 1 ∧ Rel S9 M9 := by
  have hd2 := hD.2.2.1
  obtain ⟨-, ⟨e, he, e1⟩, a1, hS9⟩ := hc
  rcases hm with ⟨b1, hr9, hM9⟩ | ⟨q, hq, e9, b2, hr9, hM9⟩ | ⟨q, t9, hq, e9, ht9, f9, hr9, hM9⟩
  · exact absurd e1 (inF_oord b1 (by omega) _ he)
  · refine ⟨by rw [hM9]; rfl, ?_⟩
    rw [hM9]; obtain rfl := hS9
    exact (h.th _).th _
  · exact absurd f9 (a1 _ (by omega))
theorem simR_read {S M S9 M9 : wS} {r r9 : Int64} (h : Rel S M) (g x i : Int32) (d : Nat) (hD : RD S M d) (hc : (fun r S' => (oor g d ∧ r = (-101) ∧ S' = S) ∨ (∃ e, e < d ∧ g = nI e ∧ oor x 5 ∧ r = (-102) ∧ S' = S) ∨ (∃ e w k, e < d ∧ g = nI e ∧ w ≤ 4 ∧ x = nI w ∧ i = nI k ∧ k + wn w ≤ l32 (S.2.1 34 e) ∧ r = cvC w (rdS (fun q => S.2.1 (62 + e) (k + q)) (wn w)) ∧ S' = S)) r S9) (hm : (fun r S' => (inF g (nI 0) (nI d - nI 1) = 0 ∧ r = (-101) ∧ S' = sI M 0 0 (nI 0)) ∨ (∃ e, e < d ∧ g = nI e ∧ inF x (nI 0) (nI 4) = 0 ∧ r = (-102) ∧ S' = sI M 0 0 (nI 0)) ∨ (∃ e w, e < d ∧ g = nI e ∧ w ≤ 4 ∧ x = nI w ∧ inF i (nI 0) (nI (l32 (M.2.1 12 e) - wn w)) = 0 ∧ r = 0 ∧ S' = sI (sI M 0 0 (nI 0)) 0 0 (nI 1)) ∨ (∃ e w k, e < d ∧ g = nI e ∧ w ≤ 4 ∧ x = nI w ∧ i = nI k ∧ k + wn w ≤ l32 (M.2.1 12 e) ∧ r = cvL w (rdv (fun q => M.2.1 14 (32 * e + k + q)) (wn w)) ∧ S' = sI M 0 0 (nI 0))) r9 M9) : M9.1 0 0 = nI 0 ∧ r = r9 ∧ Rel S9 M9 := by
  have hd2 := hD.2.2.1
  rcases hc with ⟨a1, hr, hS9⟩ | ⟨e, he, e1, a2, hr, hS9⟩ | ⟨e, w, k, he, e1, hw, f1, g1, hk, hr, hS9⟩
  · rcases hm with ⟨b1, hr9, hM9⟩ | ⟨q, hq, e9, b2, hr9, hM9⟩ | ⟨q, w9, hq, e9, hw9, f9, b3, hr9, hM9⟩ | ⟨q, w9, k9, hq, e9, hw9, f9, g9, hk9, hr9, hM9⟩
    · subst hM9; obtain rfl := hS9
      exact ⟨rfl, by rw [hr, hr9], h.th _⟩
    · exact absurd e9 (a1 _ hq)
    · exact absurd e9 (a1 _ hq)
    · exact absurd e9 (a1 _ hq)
  · rcases hm with ⟨b1, hr9, hM9⟩ | ⟨q, hq, e9, b2, hr9, hM9⟩ | ⟨q, w9, hq, e9, hw9, f9, b3, hr9, hM9⟩ | ⟨q, w9, k9, hq, e9, hw9, f9, g9, hk9, hr9, hM9⟩
    · exact absurd e1 (inF_oord b1 (by omega) _ he)
    · subst hM9; obtain rfl := hS9
      exact ⟨rfl, by rw [hr, hr9], h.th _⟩
    · exact absurd f9 (a2 _ (by omega))
    · exact absurd f9 (a2 _ (by omega))
  · rcases hm with ⟨b1, hr9, hM9⟩ | ⟨q, hq, e9, b2, hr9, hM9⟩ | ⟨q, w9, hq, e9, hw9, f9, b3, hr9, hM9⟩ | ⟨q, w9, k9, hq, e9, hw9, f9, g9, hk9, hr9, hM9⟩
    · exact absurd e1 (inF_oord b1 (by omega) _ he)
    · exact absurd f1 (inF_oor b2 (by decide) _ (by omega))
    · have e8 := nIe (e1.symm.trans e9) (by omega) (by omega)
      have f8 := nIe (f1.symm.trans f9) (by omega) (by omega)
      subst e8; subst f8
      have hd9 := hD.2.2.2 e he
      rw [hd9.1] at hk
      have hwn := wn_le w hw
      have hl9 := l32_in (M.2.1 12 e)
      exact absurd g1 (inF_oor b3 (by omega) _ (by omega))
    · have e8 := nIe (e1.symm.trans e9) (by omega) (by omega)
      have f8 := nIe (f1.symm.trans f9) (by omega) (by omega)
      subst e8; subst f8
      have hd9 := hD.2.2.2 e he
      rw [hd9.1] at hk
      have hl9 := l32_in (M.2.1 12 e)
      have g8 := nIe (g1.symm.trans g9) (by omega) (by omega)
      subst g8
      subst hM9; obtain rfl := hS9
      refine ⟨rfl, ?_, h.th _⟩
      rw [hr, hr9]
      exact cv_eq hw (fun q hq => by rw [Nat.add_assoc]; exact (hd9.2.2.1 (k + q) (by omega)).1)
theorem simE_read {S M S9 M9 : wS} {r9 : Int64} {E9 : String} (h : Rel S M) (g x i : Int32) (d : Nat) (hD : RD S M d) (hc : (fun E9 S' => E9 = rnA ∧ (∃ e w, e < d ∧ g = nI e ∧ w ≤ 4 ∧ x = nI w ∧ oor i (l32 (S.2.1 34 e) - wn w + 1)) ∧ S' = S) E9 S9) (hm : (fun r S' => (inF g (nI 0) (nI d - nI 1) = 0 ∧ r = (-101) ∧ S' = sI M 0 0 (nI 0)) ∨ (∃ e, e < d ∧ g = nI e ∧ inF x (nI 0) (nI 4) = 0 ∧ r = (-102) ∧ S' = sI M 0 0 (nI 0)) ∨ (∃ e w, e < d ∧ g = nI e ∧ w ≤ 4 ∧ x = nI w ∧ inF i (nI 0) (nI (l32 (M.2.1 12 e) - wn w)) = 0 ∧ r = 0 ∧ S' = sI (sI M 0 0 (nI 0)) 0 0 (nI 1)) ∨ (∃ e w k, e < d ∧ g = nI e ∧ w ≤ 4 ∧ x = nI w ∧ i = nI k ∧ k + wn w ≤ l32 (M.2.1 12 e) ∧ r = cvL w (rdv (fun q => M.2.1 14 (32 * e + k + q)) (wn w)) ∧ S' = sI M 0 0 (nI 0))) r9 M9) : M9.1 0 0 = nI 1 ∧ Rel S9 M9 := by
  have hd2 := hD.2.2.1
  obtain ⟨-, ⟨e, w, he, e1, hw, f1, a1⟩, hS9⟩ := hc
  rcases hm with ⟨b1, hr9, hM9⟩ | ⟨q, hq, e9, b2, hr9, hM9⟩ | ⟨q, w9, hq, e9, hw9, f9, b3, hr9, hM9⟩ | ⟨q, w9, k9, hq, e9, hw9, f9, g9, hk9, hr9, hM9⟩
  · exact absurd e1 (inF_oord b1 (by omega) _ he)
  · exact absurd f1 (inF_oor b2 (by decide) _ (by omega))
  · have e8 := nIe (e1.symm.trans e9) (by omega) (by omega)
    have f8 := nIe (f1.symm.trans f9) (by omega) (by omega)
    subst e8; subst f8
    refine ⟨by rw [hM9]; rfl, ?_⟩
    rw [hM9]; obtain rfl := hS9
    exact (h.th _).th _
  · have e8 := nIe (e1.symm.trans e9) (by omega) (by omega)
    have f8 := nIe (f1.symm.trans f9) (by omega) (by omega)
    subst e8; subst f8
    rw [(hD.2.2.2 e he).1] at a1
    exact absurd g9 (a1 _ (by omega))
