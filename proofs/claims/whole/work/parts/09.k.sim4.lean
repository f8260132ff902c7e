set_option maxRecDepth 4096 in
theorem sim_digest {S M S9 M9 : wS} {r r9 : Int32} (h : Rel S M) (x : Int32) (t d ks : Nat) (hT : RT S M t) (hS : RS S M ks) (hD : RD S M d) (hc : (fun r S' => (oor x 3 ∧ r = (-102) ∧ S' = S) ∨ (∃ k, k ≤ 2 ∧ x = nI k ∧ d = 60 ∧ r = (-103) ∧ S' = S) ∨ (∃ (k : Nat) (U : wS) (lk : Nat → Int32) (bl : Nat), k ≤ 2 ∧ x = nI k ∧ d < 60 ∧ r = nI d ∧ ((k ≠ 2 ∧ bl = 0) ∨ (k = 2 ∧ lk = lk0 ks (S.2.1 61) ∧ bl = lkQ ks)) ∧ bgO S U 0 ∧ fin9 (sI U 58 1 (nI 0)) 0 k lk (ext (fun _ => 0) 0 (S.2.1 59)) bl (0 + t) d S')) r S9) (hm : (fun r S' => (inF x (nI 0) (nI 2) = 0 ∧ r = (-102) ∧ S' = sI M 0 0 (nI 0)) ∨ (∃ k, k ≤ 2 ∧ x = nI k ∧ d = 60 ∧ r = (-103) ∧ S' = sI M 0 0 (nI 0)) ∨ (x = nI 0 ∧ d < 60 ∧ r = nI d ∧ S' = sI (md0t (sI M 0 0 (nI 0)) d t) 0 12 (nI 0)) ∨ (x = nI 1 ∧ d < 60 ∧ r = nI d ∧ S' = sI (md1t (sI M 0 0 (nI 0)) d t) 0 12 (nI 0)) ∨ (x = nI 2 ∧ d < 60 ∧ r = nI d ∧ S' = sI (md2t (pkS (sI M 0 0 (nI 0)) ks 0) d t (pkQ ks)) 0 12 (nI 0))) r9 M9) : r = r9 ∧ Rel S9 M9 := by
  have h0 := h
  rcases hc with ⟨a1, hr, hS9⟩ | ⟨k, hk, e1, hd60, hr, hS9⟩ | ⟨k, U, lk, bl, hk, e1, hd3, hr, hkk, hbo, hf⟩
  · rcases hm with ⟨b1, hr9, hM9⟩ | ⟨q, hq, e9, hd9, hr9, hM9⟩ | ⟨e9, hd9, hr9, hM9⟩ | ⟨e9, hd9, hr9, hM9⟩ | ⟨e9, hd9, hr9, hM9⟩
    · subst hM9; obtain rfl := hS9; exact ⟨by rw [hr, hr9], h0.th _⟩
    · exact absurd e9 (a1 _ (by omega))
    · exact absurd e9 (a1 _ (by omega))
    · exact absurd e9 (a1 _ (by omega))
    · exact absurd e9 (a1 _ (by omega))
  · rcases hm with ⟨b1, hr9, hM9⟩ | ⟨q, hq, e9, hd9, hr9, hM9⟩ | ⟨e9, hd9, hr9, hM9⟩ | ⟨e9, hd9, hr9, hM9⟩ | ⟨e9, hd9, hr9, hM9⟩
    · exact absurd e1 (inF_oor b1 (by decide) _ (by omega))
    · subst hM9; obtain rfl := hS9; exact ⟨by rw [hr, hr9], h0.th _⟩
    · omega
    · omega
    · omega
  · rcases hm with ⟨b1, hr9, hM9⟩ | ⟨q, hq, e9, hd9, hr9, hM9⟩ | ⟨e9, hd9, hr9, hM9⟩ | ⟨e9, hd9, hr9, hM9⟩ | ⟨e9, hd9, hr9, hM9⟩
    · exact absurd e1 (inF_oor b1 (by decide) _ (by omega))
    · omega
    · have e8 := nIe (e1.symm.trans e9) (by omega) (by decide)
      subst e8
      rcases hkk with ⟨-, rfl⟩ | ⟨c, -⟩
      · refine ⟨by rw [hr, hr9], ?_⟩
        rw [hM9]
        exact dig_rel01 (z := nI 0) (by decide) (fun X x2 x3 => (if_pos (by decide)).trans x2) h0 hT hD hd3 hbo hf
      · exact absurd c (by decide)
    · have e8 := nIe (e1.symm.trans e9) (by omega) (by decide)
      subst e8
      rcases hkk with ⟨-, rfl⟩ | ⟨c, -⟩
      · refine ⟨by rw [hr, hr9], ?_⟩
        rw [hM9]
        exact dig_rel01 (z := nI 1) (by decide) (fun X x2 x3 => (if_neg (by decide)).trans x3) h0 hT hD hd3 hbo hf
      · exact absurd c (by decide)
    · have e8 := nIe (e1.symm.trans e9) (by omega) (by decide)
      subst e8
      rcases hkk with ⟨c, -⟩ | ⟨-, hlk, rfl⟩
      · exact absurd rfl c
      · refine ⟨by rw [hr, hr9], ?_⟩
        rw [hM9]
        exact dig_rel2 rfl h0 hT hS hD hd3 hbo hlk hf
