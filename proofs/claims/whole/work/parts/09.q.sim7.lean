set_option maxRecDepth 4096 in
theorem sim_prove {S M S9 M9 : wS} {r r9 : Int32} (h : Rel S M) (a b : Int32) (lv lz : Nat → Nat) (hB : RB S M lv lz) (hc : (fun r S' => (oor a 4 ∧ r = (-102) ∧ S' = S) ∨ (∃ tr, tr < 4 ∧ a = nI tr ∧ oor b (lv tr) ∧ r = (-101) ∧ S' = S) ∨ (∃ tr lf T9 X, tr < 4 ∧ a = nI tr ∧ lf < lv tr ∧ b = nI lf ∧ r = nI (pvL kC wC0 4 (lv tr) lf (lfF M lz tr)).length ∧ clO S T9 tr (lv tr) ∧ GP (pul T9 (fPg tr)) X (pvL kC wC0 4 (lv tr) lf (lfF M lz tr)) ∧ S' = psh T9 (fiPg tr) X)) r S9) (hm : (fun r S' => (inF a (nI 0) (nI 3) = 0 ∧ r = (-102) ∧ S' = sI M 0 0 (nI 0)) ∨ (∃ tr, tr ≤ 3 ∧ a = nI tr ∧ inF b (nI 0) (nI (lv tr) - nI 1) = 0 ∧ r = (-101) ∧ S' = sI M 0 0 (nI 0)) ∨ (∃ tr lf S1, tr ≤ 3 ∧ a = nI tr ∧ lf < lv tr ∧ b = nI lf ∧ (agP (sI M 0 0 (nI 0)) S1 ∧ r = nI (pvL (M.2.1 1) (M.2.1 2) 4 (lv tr) lf (lfF M lz tr)).length ∧ S1.1 0 32 = nI (pvL (M.2.1 1) (M.2.1 2) 4 (lv tr) lf (lfF M lz tr)).length ∧ ∀ k, k < (pvL (M.2.1 1) (M.2.1 2) 4 (lv tr) lf (lfF M lz tr)).length → ∀ j, j < 8 → S1.2.1 27 (8 * k + j) = (pvL (M.2.1 1) (M.2.1 2) 4 (lv tr) lf (lfF M lz tr)).getD k (fun _ => 0) j) ∧ S' = S1)) r9 M9) : r = r9 ∧ Rel S9 M9 := by
  have h0 := h
  rcases hc with ⟨a1, hr, hS9⟩ | ⟨tr, htr, e1, a2, hr, hS9⟩ | ⟨tr, lf, T9, X, htr, e1, hlf, f1, hr, hcl, hGP, hS9⟩
  · rcases hm with ⟨b1, hr9, hM9⟩ | ⟨q, hq, e9, b2, hr9, hM9⟩ | ⟨q, lf9, S1, hq, e9, hlf9, f9, hm9, hM9⟩
    · subst hM9; obtain rfl := hS9; exact ⟨by rw [hr, hr9], h0.th _⟩
    · exact absurd e9 (a1 _ (by omega))
    · exact absurd e9 (a1 _ (by omega))
  · rcases hm with ⟨b1, hr9, hM9⟩ | ⟨q, hq, e9, b2, hr9, hM9⟩ | ⟨q, lf9, S1, hq, e9, hlf9, f9, hm9, hM9⟩
    · exact absurd e1 (inF_oor b1 (by decide) _ htr)
    · subst hM9; obtain rfl := hS9; exact ⟨by rw [hr, hr9], h0.th _⟩
    · have e8 := nIe (e1.symm.trans e9) (by omega) (by omega)
      subst e8
      have hl12 := (hB tr htr).2.2.1
      exact absurd f9 (a2 _ hlf9)
  · rcases hm with ⟨b1, hr9, hM9⟩ | ⟨q, hq, e9, b2, hr9, hM9⟩ | ⟨q, lf9, S1, hq, e9, hlf9, f9, hm9, hM9⟩
    · exact absurd e1 (inF_oor b1 (by decide) _ htr)
    · have e8 := nIe (e1.symm.trans e9) (by omega) (by omega)
      subst e8
      have hl12 := (hB tr htr).2.2.1
      exact absurd f1 (inF_oord b2 (by omega) _ hlf)
    · have e8 := nIe (e1.symm.trans e9) (by omega) (by omega)
      subst e8
      have hl12 := (hB tr htr).2.2.1
      have f8 := nIe (f1.symm.trans f9) (by omega) (by omega)
      subst f8
      obtain ⟨hag, hr9, m1, m2⟩ := hm9
      rw [h0.1.1, h0.1.2.1] at hr9 m1 m2
      have hP := pvL_le kC wC0 4 (lv tr) lf (lfF M lz tr)
      obtain ⟨s1, s2, s3⟩ := gp_o htr hP hGP
      rw [← hS9] at s1 s2 s3
      subst hM9
      exact ⟨by rw [hr, hr9], prove_rel h0 hB htr hP hcl s1 s2 s3 hag m1 m2⟩
