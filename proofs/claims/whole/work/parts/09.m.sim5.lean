set_option maxRecDepth 4096 in
theorem sim_end {S M S9 M9 : wS} {r r9 : Int32} (h : Rel S M) (s0 : Int32) (d : Nat) (hD : RD S M d) (so : Nat → Nat) (lk : Nat → Nat → Int32) (bl : Nat → Nat) (g : Nat → Nat → Int32) (n : Nat → Nat) (hP : ∀ j, j < 4 → M.2.1 19 j = nI (n j) ∧ n j ≤ 2000 ∧ ((S.1 (15 + 3 * (j + 1)) 3 = nI 0 ∧ M.2.1 20 j = (-1)) ∨ RO S M j (so j) (lk j) (bl j) (g j) (n j))) (hc : (fun r S' => (oor s0 4 ∧ r = (-102) ∧ S' = S) ∨ (∃ j, j < 4 ∧ s0 = nI j ∧ S.1 (15 + 3 * (j + 1)) 3 = nI 0 ∧ r = (-104) ∧ S' = S) ∨ (∃ j, j < 4 ∧ s0 = nI j ∧ S.1 (15 + 3 * (j + 1)) 3 = nI 1 ∧ d = 60 ∧ r = (-103) ∧ S' = S) ∨ (∃ j, j < 4 ∧ s0 = nI j ∧ S.1 (15 + 3 * (j + 1)) 3 = nI 1 ∧ d < 60 ∧ r = nI d ∧ fin9 (sI S (15 + 3 * (j + 1)) 3 (nI (0))) (j + 1) (so j) (lk j) (g j) (bl j) (n j) d S')) r S9) (hm : (fun r S' => (inF s0 (nI 0) (nI 3) = 0 ∧ r = (-102) ∧ S' = sI M 0 0 (nI 0)) ∨ (∃ j, j ≤ 3 ∧ s0 = nI j ∧ ¬ 0 ≤ M.2.1 20 j ∧ r = (-104) ∧ S' = sI M 0 0 (nI 0)) ∨ (∃ j, j ≤ 3 ∧ s0 = nI j ∧ 0 ≤ M.2.1 20 j ∧ d = 60 ∧ r = (-103) ∧ S' = sI M 0 0 (nI 0)) ∨ (∃ j, j ≤ 3 ∧ s0 = nI j ∧ M.2.1 20 j = nI 0 ∧ d < 60 ∧ r = nI d ∧ S' = sB (md0s (sI M 0 0 (nI 0)) d j (n j)) 20 (upd ((md0s (sI M 0 0 (nI 0)) d j (n j)).2.1 20) j (-1))) ∨ (∃ j, j ≤ 3 ∧ s0 = nI j ∧ M.2.1 20 j = nI 1 ∧ d < 60 ∧ r = nI d ∧ S' = sB (md1s (sI M 0 0 (nI 0)) d j (n j)) 20 (upd ((md1s (sI M 0 0 (nI 0)) d j (n j)).2.1 20) j (-1))) ∨ (∃ j, j ≤ 3 ∧ s0 = nI j ∧ M.2.1 20 j = nI 2 ∧ d < 60 ∧ r = nI d ∧ S' = sB (md2s (sI M 0 0 (nI 0)) d j (n j) (bl j)) 20 (upd ((md2s (sI M 0 0 (nI 0)) d j (n j) (bl j)).2.1 20) j (-1)))) r9 M9) : r = r9 ∧ Rel S9 M9 := by
  have h0 := h
  rcases hc with ⟨a1, hr, hS9⟩ | ⟨j, hj, e1, ho, hr, hS9⟩ | ⟨j, hj, e1, ho, hd60, hr, hS9⟩ | ⟨j, hj, e1, ho, hd3, hr, hf⟩
  · rcases hm with ⟨b1, hr9, hM9⟩ | ⟨q, hq, e9, ho9, hr9, hM9⟩ | ⟨q, hq, e9, ho9, hd9, hr9, hM9⟩ | ⟨q, hq, e9, ho9, hd9, hr9, hM9⟩ | ⟨q, hq, e9, ho9, hd9, hr9, hM9⟩ | ⟨q, hq, e9, ho9, hd9, hr9, hM9⟩
    · subst hM9; obtain rfl := hS9; exact ⟨by rw [hr, hr9], h0.th _⟩
    · exact absurd e9 (a1 _ (by omega))
    · exact absurd e9 (a1 _ (by omega))
    · exact absurd e9 (a1 _ (by omega))
    · exact absurd e9 (a1 _ (by omega))
    · exact absurd e9 (a1 _ (by omega))
  · rcases hm with ⟨b1, hr9, hM9⟩ | ⟨q, hq, e9, ho9, hr9, hM9⟩ | ⟨q, hq, e9, ho9, hd9, hr9, hM9⟩ | ⟨q, hq, e9, ho9, hd9, hr9, hM9⟩ | ⟨q, hq, e9, ho9, hd9, hr9, hM9⟩ | ⟨q, hq, e9, ho9, hd9, hr9, hM9⟩
    · exact absurd e1 (inF_oor b1 (by decide) _ hj)
    · have e8 := nIe (e1.symm.trans e9) (by omega) (by omega)
      subst e8
      obtain ⟨p1, p2, p3⟩ := hP j hj
      subst hM9; obtain rfl := hS9; exact ⟨by rw [hr, hr9], h0.th _⟩
    · have e8 := nIe (e1.symm.trans e9) (by omega) (by omega)
      subst e8
      obtain ⟨p1, p2, p3⟩ := hP j hj
      rcases p3 with ⟨c1, c2⟩ | c
      · rw [c2] at ho9; exact absurd ho9 (by decide)
      · have c0 := c.1; rw [ho] at c0; exact absurd c0 (by decide)
    · have e8 := nIe (e1.symm.trans e9) (by omega) (by omega)
      subst e8
      obtain ⟨p1, p2, p3⟩ := hP j hj
      rcases p3 with ⟨c1, c2⟩ | c
      · rw [c2] at ho9; exact absurd ho9 (by decide)
      · have c0 := c.1; rw [ho] at c0; exact absurd c0 (by decide)
    · have e8 := nIe (e1.symm.trans e9) (by omega) (by omega)
      subst e8
      obtain ⟨p1, p2, p3⟩ := hP j hj
      rcases p3 with ⟨c1, c2⟩ | c
      · rw [c2] at ho9; exact absurd ho9 (by decide)
      · have c0 := c.1; rw [ho] at c0; exact absurd c0 (by decide)
    · have e8 := nIe (e1.symm.trans e9) (by omega) (by omega)
      subst e8
      obtain ⟨p1, p2, p3⟩ := hP j hj
      rcases p3 with ⟨c1, c2⟩ | c
      · rw [c2] at ho9; exact absurd ho9 (by decide)
      · have c0 := c.1; rw [ho] at c0; exact absurd c0 (by decide)
  · rcases hm with ⟨b1, hr9, hM9⟩ | ⟨q, hq, e9, ho9, hr9, hM9⟩ | ⟨q, hq, e9, ho9, hd9, hr9, hM9⟩ | ⟨q, hq, e9, ho9, hd9, hr9, hM9⟩ | ⟨q, hq, e9, ho9, hd9, hr9, hM9⟩ | ⟨q, hq, e9, ho9, hd9, hr9, hM9⟩
    · exact absurd e1 (inF_oor b1 (by decide) _ hj)
    · have e8 := nIe (e1.symm.trans e9) (by omega) (by omega)
      subst e8
      obtain ⟨p1, p2, p3⟩ := hP j hj
      rcases p3 with ⟨c1, c2⟩ | c
      · rw [ho] at c1; exact absurd c1 (by decide)
      · rw [c.2.1] at ho9; exact absurd (nI_pos' (by have := c.2.2.1; omega)) ho9
    · have e8 := nIe (e1.symm.trans e9) (by omega) (by omega)
      subst e8
      obtain ⟨p1, p2, p3⟩ := hP j hj
      subst hM9; obtain rfl := hS9; exact ⟨by rw [hr, hr9], h0.th _⟩
    · omega
    · omega
    · omega
  · rcases hm with ⟨b1, hr9, hM9⟩ | ⟨q, hq, e9, ho9, hr9, hM9⟩ | ⟨q, hq, e9, ho9, hd9, hr9, hM9⟩ | ⟨q, hq, e9, ho9, hd9, hr9, hM9⟩ | ⟨q, hq, e9, ho9, hd9, hr9, hM9⟩ | ⟨q, hq, e9, ho9, hd9, hr9, hM9⟩
    · exact absurd e1 (inF_oor b1 (by decide) _ hj)
    · have e8 := nIe (e1.symm.trans e9) (by omega) (by omega)
      subst e8
      obtain ⟨p1, p2, p3⟩ := hP j hj
      rcases p3 with ⟨c1, c2⟩ | c
      · rw [ho] at c1; exact absurd c1 (by decide)
      · rw [c.2.1] at ho9; exact absurd (nI_pos' (by have := c.2.2.1; omega)) ho9
    · omega
    · have e8 := nIe (e1.symm.trans e9) (by omega) (by omega)
      subst e8
      obtain ⟨p1, p2, p3⟩ := hP j hj
      rcases p3 with ⟨c1, c2⟩ | c
      · rw [ho] at c1; exact absurd c1 (by decide)
      have e7 := nIe (c.2.1.symm.trans ho9) (by have := c.2.2.1; omega) (by decide)
      rw [e7] at hf c
      refine ⟨by rw [hr, hr9], ?_⟩
      rw [hM9]
      exact end_rel01 (z := nI 0) (by decide) (fun X x2 x3 => (if_pos (by decide)).trans x2) h0 hD hd3 hj p1 p2 c hf
    · have e8 := nIe (e1.symm.trans e9) (by omega) (by omega)
      subst e8
      obtain ⟨p1, p2, p3⟩ := hP j hj
      rcases p3 with ⟨c1, c2⟩ | c
      · rw [ho] at c1; exact absurd c1 (by decide)
      have e7 := nIe (c.2.1.symm.trans ho9) (by have := c.2.2.1; omega) (by decide)
      rw [e7] at hf c
      refine ⟨by rw [hr, hr9], ?_⟩
      rw [hM9]
      exact end_rel01 (z := nI 1) (by decide) (fun X x2 x3 => (if_neg (by decide)).trans x3) h0 hD hd3 hj p1 p2 c hf
    · have e8 := nIe (e1.symm.trans e9) (by omega) (by omega)
      subst e8
      obtain ⟨p1, p2, p3⟩ := hP j hj
      rcases p3 with ⟨c1, c2⟩ | c
      · rw [ho] at c1; exact absurd c1 (by decide)
      have e7 := nIe (c.2.1.symm.trans ho9) (by have := c.2.2.1; omega) (by decide)
      rw [e7] at hf c
      refine ⟨by rw [hr, hr9], ?_⟩
      rw [hM9]
      exact end_rel2 rfl h0 hD hd3 hj p1 p2 c hf
set_option maxRecDepth 4096 in
theorem sim_open {S M S9 M9 : wS} {r r9 : Int32} (h : Rel S M) (s0 x : Int32) (ks : Nat) (hS : RS S M ks) (so : Nat → Nat) (lk : Nat → Nat → Int32) (bl : Nat → Nat) (g : Nat → Nat → Int32) (n : Nat → Nat) (hP : ∀ j, j < 4 → M.2.1 19 j = nI (n j) ∧ n j ≤ 2000 ∧ ((S.1 (15 + 3 * (j + 1)) 3 = nI 0 ∧ M.2.1 20 j = (-1)) ∨ RO S M j (so j) (lk j) (bl j) (g j) (n j))) (hc : (fun r S' => ((oor s0 4 ∨ oor x 3) ∧ r = (-102) ∧ S' = S) ∨ (∃ j k, j < 4 ∧ k ≤ 2 ∧ s0 = nI j ∧ x = nI k ∧ S.1 (15 + 3 * (j + 1)) 3 = nI 1 ∧ r = (-104) ∧ S' = S) ∨ (∃ (j k : Nat) (U : wS) (lk : Nat → Int32) (bl : Nat), j < 4 ∧ k ≤ 2 ∧ s0 = nI j ∧ x = nI k ∧ S.1 (15 + 3 * (j + 1)) 3 = nI 0 ∧ r = nI 1 ∧ ((k ≠ 2 ∧ bl = 0) ∨ (k = 2 ∧ lk = lk0 ks (S.2.1 61) ∧ bl = lkQ ks)) ∧ bgO S U (j + 1) ∧ MO (pul U (fMg (j + 1) 58)) k lk bl (fun _ => 0) 0 ∧ S' = sI U (15 + 3 * (j + 1)) 3 (nI 1))) r S9) (hm : (fun r S' => ((inF s0 (nI 0) (nI 3) = 0 ∨ inF x (nI 0) (nI 2) = 0) ∧ r = (-102) ∧ S' = sI M 0 0 (nI 0)) ∨ (∃ j k, j ≤ 3 ∧ k ≤ 2 ∧ s0 = nI j ∧ x = nI k ∧ ¬ M.2.1 20 j < 0 ∧ r = (-104) ∧ S' = sI M 0 0 (nI 0)) ∨ (∃ j k, j ≤ 3 ∧ k ≤ 2 ∧ s0 = nI j ∧ x = nI k ∧ M.2.1 20 j < 0 ∧ ¬ k = 2 ∧ r = nI 1 ∧ S' = sB (sB (sI M 0 0 (nI 0)) 20 (upd (M.2.1 20) j (nI k))) 19 (upd (M.2.1 19) j (nI 0))) ∨ (∃ j, j ≤ 3 ∧ s0 = nI j ∧ x = nI 2 ∧ M.2.1 20 j < 0 ∧ r = nI 1 ∧ S' = pkS (sB (sB (sI M 0 0 (nI 0)) 20 (upd (M.2.1 20) j (nI 2))) 19 (upd (M.2.1 19) j (nI 0))) ks (j + 1))) r9 M9) : r = r9 ∧ Rel S9 M9 := by
  have h0 := h
  rcases hc with ⟨a1, hr, hS9⟩ | ⟨j, k, hj, hk, e1, f1, ho, hr, hS9⟩ | ⟨j, k, U, lk9, bl9, hj, hk, e1, f1, ho, hr, hkk, hbo, hMO, hS9⟩
  · rcases hm with ⟨b1, hr9, hM9⟩ | ⟨q, q2, hq, hq2, e9, f9, ho9, hr9, hM9⟩ | ⟨q, q2, hq, hq2, e9, f9, ho9, h2q, hr9, hM9⟩ | ⟨q, hq, e9, f9, ho9, hr9, hM9⟩
    · subst hM9; obtain rfl := hS9; exact ⟨by rw [hr, hr9], h0.th _⟩
    · exact a1.elim (fun a => absurd e9 (a _ (by omega))) (fun a => absurd f9 (a _ (by omega)))
    · exact a1.elim (fun a => absurd e9 (a _ (by omega))) (fun a => absurd f9 (a _ (by omega)))
    · exact a1.elim (fun a => absurd e9 (a _ (by omega))) (fun a => absurd f9 (a _ (by omega)))
  · rcases hm with ⟨b1, hr9, hM9⟩ | ⟨q, q2, hq, hq2, e9, f9, ho9, hr9, hM9⟩ | ⟨q, q2, hq, hq2, e9, f9, ho9, h2q, hr9, hM9⟩ | ⟨q, hq, e9, f9, ho9, hr9, hM9⟩
    · exact b1.elim (fun b => absurd e1 (inF_oor b (by decide) _ hj)) (fun b => absurd f1 (inF_oor b (by decide) _ (by omega)))
    · have e8 := nIe (e1.symm.trans e9) (by omega) (by omega)
      have f8 := nIe (f1.symm.trans f9) (by omega) (by omega)
      subst e8; subst f8
      obtain ⟨p1, p2, p3⟩ := hP j hj
      subst hM9; obtain rfl := hS9; exact ⟨by rw [hr, hr9], h0.th _⟩
    · have e8 := nIe (e1.symm.trans e9) (by omega) (by omega)
      have f8 := nIe (f1.symm.trans f9) (by omega) (by omega)
      subst e8; subst f8
      obtain ⟨p1, p2, p3⟩ := hP j hj
      rcases p3 with ⟨c1, c2⟩ | c
      · rw [ho] at c1; exact absurd c1 (by decide)
      · rw [c.2.1] at ho9; have := c.2.2.1; exact absurd ho9 (nI_pos (by omega))
    · have e8 := nIe (e1.symm.trans e9) (by omega) (by omega)
      have f8 := nIe (f1.symm.trans f9) (by omega) (by omega)
      subst e8; subst f8
      obtain ⟨p1, p2, p3⟩ := hP j hj
      rcases p3 with ⟨c1, c2⟩ | c
      · rw [ho] at c1; exact absurd c1 (by decide)
      · rw [c.2.1] at ho9; have := c.2.2.1; exact absurd ho9 (nI_pos (by omega))
  · rcases hm with ⟨b1, hr9, hM9⟩ | ⟨q, q2, hq, hq2, e9, f9, ho9, hr9, hM9⟩ | ⟨q, q2, hq, hq2, e9, f9, ho9, h2q, hr9, hM9⟩ | ⟨q, hq, e9, f9, ho9, hr9, hM9⟩
    · exact b1.elim (fun b => absurd e1 (inF_oor b (by decide) _ hj)) (fun b => absurd f1 (inF_oor b (by decide) _ (by omega)))
    · have e8 := nIe (e1.symm.trans e9) (by omega) (by omega)
      have f8 := nIe (f1.symm.trans f9) (by omega) (by omega)
      subst e8; subst f8
      obtain ⟨p1, p2, p3⟩ := hP j hj
      rcases p3 with ⟨c1, c2⟩ | c
      · rw [c2] at ho9; exact absurd (by decide) ho9
      · have c0 := c.1; rw [ho] at c0; exact absurd c0 (by decide)
    · have e8 := nIe (e1.symm.trans e9) (by omega) (by omega)
      have f8 := nIe (f1.symm.trans f9) (by omega) (by omega)
      subst e8; subst f8
      obtain ⟨p1, p2, p3⟩ := hP j hj
      rcases hkk with ⟨-, rfl⟩ | ⟨c, -⟩
      · refine ⟨by rw [hr, hr9], ?_⟩
        rw [hM9]
        exact open_rel h0 hj hk hbo hMO hS9 (Or.inl ⟨h2q, rfl⟩) h0.1.2.2.2 (fun k a _ _ => by simp [sI, sB, va_up, a]) (fun i _ _ _ _ _ a b => by simp [sI, sB, va_up, a, b]) (fun _ _ => rfl) (fun _ _ => rfl) rfl rfl
      · exact absurd c h2q
    · have e8 := nIe (e1.symm.trans e9) (by omega) (by omega)
      have f8 := nIe (f1.symm.trans f9) (by omega) (by omega)
      subst e8; subst f8
      obtain ⟨p1, p2, p3⟩ := hP j hj
      rcases hkk with ⟨c, -⟩ | ⟨-, hlk, rfl⟩
      · exact absurd rfl c
      · refine ⟨by rw [hr, hr9], ?_⟩
        have b1 := pkS_I (sB (sB (sI M 0 0 (nI 0)) 20 (upd (M.2.1 20) j (nI 2))) 19 (upd (M.2.1 19) j (nI 0))) ks (j + 1)
        have b2 := pkS_B (sB (sB (sI M 0 0 (nI 0)) 20 (upd (M.2.1 20) j (nI 2))) 19 (upd (M.2.1 19) j (nI 0))) ks (j + 1)
        have e1 : (sB (sB (sI M 0 0 (nI 0)) 20 (upd (M.2.1 20) j (nI 2))) 19 (upd (M.2.1 19) j (nI 0))).2.1 1 = kC := h0.1.1
        have e2 : (sB (sB (sI M 0 0 (nI 0)) 20 (upd (M.2.1 20) j (nI 2))) 19 (upd (M.2.1 19) j (nI 0))).2.1 2 = wC0 := h0.1.2.1
        obtain ⟨p1, p2, p3, p4, p5⟩ := pk_o (pl := j + 1) (key := S.2.1 61) e1 e2 (fun i hi => hS.2.2.2.1 i hi)
        rw [← hM9] at b1 b2 p1 p2 p3 p4 p5
        exact open_rel h0 hj hk hbo hMO hS9 (Or.inr ⟨rfl, fun i hi => by rw [hlk]; exact p1 i hi, p2⟩) p5 (fun k a b c => (b1 k b c).trans (by simp [sI, sB, va_up, a])) (fun i a b c e f g g9 => (b2 i a b c e f).trans (by simp [sI, sB, va_up, g, g9])) p3 p4 ((b2 19 (by decide) (by decide) (by decide) (by decide) (by decide)).trans rfl) ((b2 20 (by decide) (by decide) (by decide) (by decide) (by decide)).trans rfl)
