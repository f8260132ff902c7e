/-- but for one stream's cells the others stand -/
theorem RO.cg1 {S S' M M' : wS} {j k : Nat} {lk : Nat → Int32} {bl : Nat} {g : Nat → Int32} {n : Nat} (h : RO S M j k lk bl g n) (hS : ∀ i, (3 * (j + 1) ≤ i ∧ i < 3 * (j + 1) + 3) ∨ (15 + 3 * (j + 1) ≤ i ∧ i < 18 + 3 * (j + 1)) → S'.1 i = S.1 i ∧ S'.2.1 i = S.2.1 i) (h2 : ∀ i, i < 64 → M'.2.1 16 (64 * (j + 1) + i) = M.2.1 16 (64 * (j + 1) + i)) (h3 : M'.2.1 17 (j + 1) = M.2.1 17 (j + 1)) (h4 : ∀ i, i < n → M'.2.1 18 (2000 * j + i) = M.2.1 18 (2000 * j + i)) (h5 : M'.2.1 20 j = M.2.1 20 j) : RO S' M' j k lk bl g n := by
  obtain ⟨a1, a2, a3, a4, a5, a6⟩ := h
  refine ⟨by rw [(hS _ (Or.inr (by omega))).1]; exact a1, by rw [h5]; exact a2, a3, a4.sm (fun i hi => ?_), fun i hi => by rw [h4 i hi]; exact a5 i hi, ?_⟩
  · refine hS _ ?_
    rcases (show i = 0 ∨ i = 1 ∨ i = 2 ∨ i = 3 ∨ i = 4 ∨ i = 5 by omega) with rfl | rfl | rfl | rfl | rfl | rfl <;> simp only [fMg] <;> omega
  · rcases a6 with b | ⟨b1, b2, b3⟩
    · exact Or.inl b
    · exact Or.inr ⟨b1, fun i hi => by rw [h2 i hi]; exact b2 i hi, by rw [h3]; exact b3⟩
theorem pts_lo {g f : Nat → Int32} {n0 k j : Nat} (h : ¬ (n0 ≤ j ∧ j < n0 + k)) : pts g n0 f k j = g j := by rw [pts_at, if_neg h]
/-- more: stream j has taken the tape -/
theorem RG_more {S U S9 M M9 : wS} {j n t k : Nat} {lk : Nat → Int32} {bl : Nat} {g : Nat → Int32} (hG : RG S M) (hT : RT S M t) (hj : j < 4) (hR : RO S M j k lk bl g n) (hn : M.2.1 19 j = nI n) (hnt : n + t ≤ 2000) (hbo : bgO S U (j + 1)) (hMO : MO (pul U (fMg (j + 1) 58)) k lk bl (ext g n (S.2.1 59)) (n + t)) (hS9 : S9 = sI U 58 1 (nI 0)) (m1 : M9.2.1 18 = pts (M.2.1 18) (2000 * j + n) (M.2.1 10) t) (m2 : M9.2.1 19 = upd (M.2.1 19) j (nI (n + t))) (m3 : M9.2.1 16 = M.2.1 16) (m4 : M9.2.1 17 = M.2.1 17) (m5 : M9.2.1 20 = M.2.1 20) : RG S9 M9 := by
  have hs1 : ∀ i, i ≠ 58 → S9.1 i = U.1 i := fun i h => by rw [hS9]; simp [sI, va_up, h]
  have hs2 : ∀ i, S9.2.1 i = U.2.1 i := fun i => by rw [hS9]; rfl
  intro q hq
  by_cases c : q = j
  · subst c
    refine ⟨n + t, by rw [m2, pk_us], hnt, Or.inr ⟨k, lk, bl, ext g n (S.2.1 59), ?_⟩⟩
    obtain ⟨a1, a2, a3, a4, a5, a6⟩ := hR
    refine ⟨by rw [hs1 _ (by omega), hbo.2]; exact a1, by rw [m5]; exact a2, a3, hMO.sm (fun i hi => ?_), fun i hi => ?_, by rw [m3, m4]; exact a6⟩
    · have : fMg (q + 1) 58 i ≠ 58 := by
        rcases (show i = 0 ∨ i = 1 ∨ i = 2 ∨ i = 3 ∨ i = 4 ∨ i = 5 by omega) with rfl | rfl | rfl | rfl | rfl | rfl <;> simp only [fMg] <;> omega
      exact ⟨hs1 _ this, hs2 _⟩
    · rw [m1]
      unfold ext
      by_cases b : i < n
      · rw [if_pos b, pts_lo (by omega)]; exact a5 i b
      · rw [if_neg b, pts_at, if_pos (by omega), show 2000 * q + i - (2000 * q + n) = i - n by omega]
        exact (hT.2.2.2.1 (i - n) (by omega)).symm
  · obtain ⟨n9, b1, b2, b3⟩ := hG q hq
    have hsU : ∀ i, (3 * (q + 1) ≤ i ∧ i < 3 * (q + 1) + 3) ∨ (15 + 3 * (q + 1) ≤ i ∧ i < 18 + 3 * (q + 1)) → S9.1 i = S.1 i ∧ S9.2.1 i = S.2.1 i := fun i hi => by
      obtain ⟨z1, z2⟩ := hbo.1 i (by omega) (by omega)
      exact ⟨(hs1 i (by omega)).trans z1, (hs2 i).trans z2⟩
    refine ⟨n9, by rw [m2, pk_un c]; exact b1, b2, ?_⟩
    rcases b3 with ⟨c1, c2⟩ | ⟨k9, lk9, bl9, g9, c9⟩
    · exact Or.inl ⟨by rw [(hsU _ (Or.inr (by omega))).1]; exact c1, by rw [m5]; exact c2⟩
    · exact Or.inr ⟨k9, lk9, bl9, g9, c9.cg1 hsU (fun i hi => by rw [m3]) (by rw [m4]) (fun i hi => by rw [m1, pts_lo (by omega)]) (by rw [m5])⟩
/-- an open stream's words, by RG -/
theorem RG.pick {S M : wS} (h : RG S M) : ∃ (so : Nat → Nat) (lk : Nat → Nat → Int32) (bl : Nat → Nat) (g : Nat → Nat → Int32) (n : Nat → Nat), ∀ j, j < 4 → M.2.1 19 j = nI (n j) ∧ n j ≤ 2000 ∧ ((S.1 (15 + 3 * (j + 1)) 3 = nI 0 ∧ M.2.1 20 j = (-1)) ∨ RO S M j (so j) (lk j) (bl j) (g j) (n j)) := by
  have h2 : ∀ j, ∃ (x : Nat × (Nat → Int32) × Nat × (Nat → Int32) × Nat), j < 4 → M.2.1 19 j = nI x.2.2.2.2 ∧ x.2.2.2.2 ≤ 2000 ∧ ((S.1 (15 + 3 * (j + 1)) 3 = nI 0 ∧ M.2.1 20 j = (-1)) ∨ RO S M j x.1 x.2.1 x.2.2.1 x.2.2.2.1 x.2.2.2.2) := fun j => by
    by_cases hj : j < 4
    · obtain ⟨n, b1, b2, b3⟩ := h j hj
      rcases b3 with c | ⟨k, lk, bl, g, c⟩
      · exact ⟨(0, fun _ => 0, 0, fun _ => 0, n), fun _ => ⟨b1, b2, Or.inl c⟩⟩
      · exact ⟨(k, lk, bl, g, n), fun _ => ⟨b1, b2, Or.inr c⟩⟩
    · exact ⟨(0, fun _ => 0, 0, fun _ => 0, 0), fun c => absurd c hj⟩
  have h3 := fun j => (h2 j).choose_spec
  exact ⟨fun j => (h2 j).choose.1, fun j => (h2 j).choose.2.1, fun j => (h2 j).choose.2.2.1, fun j => (h2 j).choose.2.2.2.1, fun j => (h2 j).choose.2.2.2.2, fun j hj => h3 j hj⟩
