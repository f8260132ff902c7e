set_option maxRecDepth 4096 in
theorem sim_more {S M S9 M9 : wS} {r r9 : Int32} (h : Rel S M) (s0 : Int32) (t : Nat) (hT : RT S M t) (so : Nat → Nat) (lk : Nat → Nat → Int32) (bl : Nat → Nat) (g : Nat → Nat → Int32) (n : Nat → Nat) (hP : ∀ j, j < 4 → M.2.1 19 j = nI (n j) ∧ n j ≤ 2000 ∧ ((S.1 (15 + 3 * (j + 1)) 3 = nI 0 ∧ M.2.1 20 j = (-1)) ∨ RO S M j (so j) (lk j) (bl j) (g j) (n j))) (hc : (fun r S' => (oor s0 4 ∧ r = (-102) ∧ S' = S) ∨ (∃ j, j < 4 ∧ s0 = nI j ∧ S.1 (15 + 3 * (j + 1)) 3 = nI 0 ∧ r = (-104) ∧ S' = S) ∨ (∃ j, j < 4 ∧ s0 = nI j ∧ S.1 (15 + 3 * (j + 1)) 3 = nI 1 ∧ 2000 < n j + t ∧ r = (-103) ∧ S' = S) ∨ (∃ j U, j < 4 ∧ s0 = nI j ∧ S.1 (15 + 3 * (j + 1)) 3 = nI 1 ∧ n j + t ≤ 2000 ∧ r = nI (n j + t) ∧ bgO S U (j + 1) ∧ MO (pul U (fMg (j + 1) 58)) (so j) (lk j) (bl j) (ext (g j) (n j) (S.2.1 59)) (n j + t) ∧ S' = sI U 58 1 (nI 0))) r S9) (hm : (fun r S' => (inF s0 (nI 0) (nI 3) = 0 ∧ r = (-102) ∧ S' = sI M 0 0 (nI 0)) ∨ (∃ j, j ≤ 3 ∧ s0 = nI j ∧ ¬ 0 ≤ M.2.1 20 j ∧ r = (-104) ∧ S' = sI M 0 0 (nI 0)) ∨ (∃ j, j ≤ 3 ∧ s0 = nI j ∧ 0 ≤ M.2.1 20 j ∧ 2000 < n j + t ∧ r = (-103) ∧ S' = sI M 0 0 (nI 0)) ∨ (∃ j, j ≤ 3 ∧ s0 = nI j ∧ 0 ≤ M.2.1 20 j ∧ n j + t ≤ 2000 ∧ r = nI (n j + t) ∧ S' = sI (sB (sB (sI M 0 0 (nI 0)) 18 (pts (M.2.1 18) (2000 * j + n j) (M.2.1 10) t)) 19 (upd (M.2.1 19) j (nI (n j + t)))) 0 12 (nI 0))) r9 M9) : r = r9 ∧ Rel S9 M9 := by
  have h0 := h
  obtain ⟨h1, ⟨t9, h2⟩, ⟨ks, h3⟩, ⟨d, h4⟩, h5, ⟨lv, lz, h6⟩, ⟨pv, h7⟩, ⟨R9, rz, h8⟩⟩ := h
  rcases hc with ⟨a1, hr, hS9⟩ | ⟨j, hj, e1, ho, hr, hS9⟩ | ⟨j, hj, e1, ho, hnt, hr, hS9⟩ | ⟨j, U, hj, e1, ho, hnt, hr, hbo, hMO, hS9⟩
  · rcases hm with ⟨b1, hr9, hM9⟩ | ⟨q, hq, e9, ho9, hr9, hM9⟩ | ⟨q, hq, e9, ho9, hn9, hr9, hM9⟩ | ⟨q, hq, e9, ho9, hn9, hr9, hM9⟩
    · subst hM9; obtain rfl := hS9; exact ⟨by rw [hr, hr9], h0.th _⟩
    · exact absurd e9 (a1 _ (by omega))
    · exact absurd e9 (a1 _ (by omega))
    · exact absurd e9 (a1 _ (by omega))
  · rcases hm with ⟨b1, hr9, hM9⟩ | ⟨q, hq, e9, ho9, hr9, hM9⟩ | ⟨q, hq, e9, ho9, hn9, hr9, hM9⟩ | ⟨q, hq, e9, ho9, hn9, hr9, hM9⟩
    · exact absurd e1 (inF_oor b1 (by decide) _ hj)
    · have e8 := nIe (e1.symm.trans e9) (by omega) (by omega)
      subst e8
      obtain ⟨p1, p2, p3⟩ := hP j hj
      subst hM9; obtain rfl := hS9; exact ⟨by rw [hr, hr9], h0.th _⟩
    · have e8 := nIe (e1.symm.trans e9) (by omega) (by omega)
      subst e8
      obtain ⟨p1, p2, p3⟩ := hP j hj
      rcases p3 with ⟨c1, c2⟩ | c
      · rw [c2] at ho9; exact absurd ho9 (by decide)
      · have c0 := c.1; rw [ho] at c0; exact absurd c0 (by decide)
    · have e8 := nIe (e1.symm.trans e9) (by omega) (by omega)
      subst e8
      obtain ⟨p1, p2, p3⟩ := hP j hj
      rcases p3 with ⟨c1, c2⟩ | c
      · rw [c2] at ho9; exact absurd ho9 (by decide)
      · have c0 := c.1; rw [ho] at c0; exact absurd c0 (by decide)
  · rcases hm with ⟨b1, hr9, hM9⟩ | ⟨q, hq, e9, ho9, hr9, hM9⟩ | ⟨q, hq, e9, ho9, hn9, hr9, hM9⟩ | ⟨q, hq, e9, ho9, hn9, hr9, hM9⟩
    · exact absurd e1 (inF_oor b1 (by decide) _ hj)
    · have e8 := nIe (e1.symm.trans e9) (by omega) (by omega)
      subst e8
      obtain ⟨p1, p2, p3⟩ := hP j hj
      rcases p3 with ⟨c1, c2⟩ | c
      · rw [ho] at c1; exact absurd c1 (by decide)
      · rw [c.2.1] at ho9; exact absurd (nI_pos' (by have := c.2.2.1; omega)) ho9
    · have e8 := nIe (e1.symm.trans e9) (by omega) (by omega)
      subst e8
      obtain ⟨p1, p2, p3⟩ := hP j hj
      subst hM9; obtain rfl := hS9; exact ⟨by rw [hr, hr9], h0.th _⟩
    · have e8 := nIe (e1.symm.trans e9) (by omega) (by omega)
      subst e8
      obtain ⟨p1, p2, p3⟩ := hP j hj
      omega
  · rcases hm with ⟨b1, hr9, hM9⟩ | ⟨q, hq, e9, ho9, hr9, hM9⟩ | ⟨q, hq, e9, ho9, hn9, hr9, hM9⟩ | ⟨q, hq, e9, ho9, hn9, hr9, hM9⟩
    · exact absurd e1 (inF_oor b1 (by decide) _ hj)
    · have e8 := nIe (e1.symm.trans e9) (by omega) (by omega)
      subst e8
      obtain ⟨p1, p2, p3⟩ := hP j hj
      rcases p3 with ⟨c1, c2⟩ | c
      · rw [ho] at c1; exact absurd c1 (by decide)
      · rw [c.2.1] at ho9; exact absurd (nI_pos' (by have := c.2.2.1; omega)) ho9
    · have e8 := nIe (e1.symm.trans e9) (by omega) (by omega)
      subst e8
      obtain ⟨p1, p2, p3⟩ := hP j hj
      omega
    · have e8 := nIe (e1.symm.trans e9) (by omega) (by omega)
      subst e8
      obtain ⟨p1, p2, p3⟩ := hP j hj
      rcases p3 with ⟨c1, c2⟩ | c
      · rw [ho] at c1; exact absurd c1 (by decide)
      have hs1 : ∀ i, i ≠ 58 → S9.1 i = U.1 i := fun i h => by rw [hS9]; simp [sI, va_up, h]
      have hs2 : ∀ i, S9.2.1 i = U.2.1 i := fun i => by rw [hS9]; rfl
      have hs : ∀ i, (i ≠ 58 ∧ ¬ (3 ≤ i ∧ i < 30)) → S9.1 i = S.1 i ∧ S9.2.1 i = S.2.1 i := fun i q => by
        obtain ⟨z1, z2⟩ := hbo.1 i (by omega) (by omega)
        exact ⟨(hs1 i q.1).trans z1, (hs2 i).trans z2⟩
      have hG := RG_more h5 hT hj c p1 hnt hbo hMO hS9 (M9 := M9) (by rw [hM9]; rfl) (by rw [hM9]; rfl) (by rw [hM9]; rfl) (by rw [hM9]; rfl) (by rw [hM9]; rfl)
      subst hM9
      exact ⟨by rw [hr, hr9], ⟨h1, ⟨0, RT_0 hT (by rw [hS9]; rfl) (by rw [hs2]; exact (hbo.1 59 (by omega) (by omega)).2) rfl⟩, ⟨ks, h3.cg (fun i hi => hs i (by unfold cK at hi; omega)) rfl rfl⟩, ⟨d, h4.cg (fun i hi => hs i (by unfold cD at hi; omega)) rfl rfl rfl rfl rfl⟩, hG, ⟨lv, lz, h6.cg (fun i hi => hs i (by unfold cB at hi; omega)) rfl rfl rfl rfl rfl rfl⟩, ⟨pv, h7.cg (fun i hi => hs i (by unfold cP at hi; omega)) rfl rfl⟩, ⟨R9, rz, h8.cg (fun i hi => hs i (by unfold cR at hi; omega)) rfl rfl rfl rfl rfl⟩⟩⟩
