set_option maxRecDepth 4096 in
theorem sim_root {S M S9 M9 : wS} {r r9 : Int32} (h : Rel S M) (a : Int32) (d : Nat) (hD : RD S M d) (lv lz : Nat → Nat) (hB : RB S M lv lz) (hc : (fun r S' => (oor a 4 ∧ r = (-102) ∧ S' = S) ∨ (∃ tr, tr < 4 ∧ a = nI tr ∧ d = 60 ∧ r = (-103) ∧ S' = S) ∨ (∃ tr c T9 T10, tr < 4 ∧ a = nI tr ∧ d < 60 ∧ r = nI d ∧ (182 + 24 * tr ≤ c ∧ c < 182 + 24 * tr + 24) ∧ clO S T9 tr (lv tr) ∧ tpP (T9.2.1 c) (lv tr) (topF kC wC0 4 (lv tr) (lfF M lz tr)) ∧ rtO T9 T10 (lv tr) c ∧ S' = psh T10 fiDA (adS (pul T10 fDA) (nI 0) d rtQ))) r S9) (hm : (fun r S' => (inF a (nI 0) (nI 3) = 0 ∧ r = (-102) ∧ S' = sI M 0 0 (nI 0)) ∨ (∃ tr, tr ≤ 3 ∧ a = nI tr ∧ d = 60 ∧ r = (-103) ∧ S' = sI M 0 0 (nI 0)) ∨ (∃ tr S1, tr ≤ 3 ∧ a = nI tr ∧ d < 60 ∧ agM (sI M 0 0 (nI 0)) S1 ∧ (0 < lv tr → ∀ j, j < 8 → S1.2.1 26 j = topF (M.2.1 1) (M.2.1 2) 4 (lv tr) (lfF M lz tr) j) ∧ r = nI d ∧ S' = kst (wrS S1 (lv tr)) (nI 0) d (0 + padL (2 + 4 * 8) / 64))) r9 M9) : r = r9 ∧ Rel S9 M9 := by
  have h0 := h
  obtain ⟨h1, ⟨t9, h2⟩, ⟨ks, h3⟩, ⟨d8, h4⟩, h5, ⟨lv8, lz8, h6⟩, ⟨pv, h7⟩, ⟨R9, rz, h8⟩⟩ := h
  have hd2 := hD.2.2.1
  rcases hc with ⟨a1, hr, hS9⟩ | ⟨tr, htr, e1, hd60, hr, hS9⟩ | ⟨tr, c, T9, T10, htr, e1, hd3, hr, hc9, hcl, htop, hrt, hS9⟩
  · rcases hm with ⟨b1, hr9, hM9⟩ | ⟨q, hq, e9, hd9, hr9, hM9⟩ | ⟨q, S1, hq, e9, hd9, hag, htp, hr9, hM9⟩
    · subst hM9; obtain rfl := hS9; exact ⟨by rw [hr, hr9], h0.th _⟩
    · exact absurd e9 (a1 _ (by omega))
    · exact absurd e9 (a1 _ (by omega))
  · rcases hm with ⟨b1, hr9, hM9⟩ | ⟨q, hq, e9, hd9, hr9, hM9⟩ | ⟨q, S1, hq, e9, hd9, hag, htp, hr9, hM9⟩
    · exact absurd e1 (inF_oor b1 (by decide) _ htr)
    · have e8 := nIe (e1.symm.trans e9) (by omega) (by omega)
      subst e8
      subst hM9; obtain rfl := hS9; exact ⟨by rw [hr, hr9], h0.th _⟩
    · omega
  · rcases hm with ⟨b1, hr9, hM9⟩ | ⟨q, hq, e9, hd9, hr9, hM9⟩ | ⟨q, S1, hq, e9, hd9, hag, htp, hr9, hM9⟩
    · exact absurd e1 (inF_oor b1 (by decide) _ htr)
    · omega
    · have e8 := nIe (e1.symm.trans e9) (by omega) (by omega)
      subst e8
      have hl9 := (hB tr htr).2.2.1
      obtain ⟨sh, so⟩ := shA_D T10 0 d rtQ hd3
      rw [← hS9] at sh so
      have ho : ∀ i, 3 ≤ i → ¬ cD i → (i < 182 + 24 * tr + lv tr ∨ 182 + 24 * tr + 24 ≤ i) → S9.1 i = S.1 i ∧ S9.2.1 i = S.2.1 i := fun i q1 q2 q3 => by
        obtain ⟨z1, z2⟩ := so i q2
        obtain ⟨z3, z4⟩ := hrt.1 i q1
        obtain ⟨z5, z6⟩ := hcl i q1 q3
        exact ⟨z1.trans (z3.trans z5), z2.trans (z4.trans z6)⟩
      have hU : sam cD S T10 := fun i hi => by
        unfold cD at hi
        obtain ⟨z3, z4⟩ := hrt.1 i (by omega)
        obtain ⟨z5, z6⟩ := hcl i (by omega) (by omega)
        exact ⟨z3.trans z5, z4.trans z6⟩
      have hs : ∀ i, (3 ≤ i ∧ ¬ ((31 ≤ i ∧ i ≤ 35) ∨ (62 ≤ i ∧ i < 182)) ∧ (i < 182 ∨ 278 ≤ i)) → S9.1 i = S.1 i ∧ S9.2.1 i = S.2.1 i := fun i q => ho i (by omega) (fun c => by unfold cD at c; omega) (by omega)
      have gA : ∀ i, i ≠ 7 → i ≠ 8 → i ≠ 9 → i ≠ 26 → S1.2.1 i = M.2.1 i := fun i q1 q2 q3 q4 => hag.2.1 i q1 q2 q3 q4
      obtain ⟨w1, w2, w3⟩ := wrS_o S1 (lv tr)
      obtain ⟨x1, x2⟩ := wrS_h (S := S1) hl9 ((gA 1 (by decide) (by decide) (by decide) (by decide)).trans h1.1) ((gA 2 (by decide) (by decide) (by decide) (by decide)).trans h1.2.1) htop (fun hp i hi => (htp hp i hi).trans (by rw [h1.1, h1.2.1]))
      obtain ⟨X, hX⟩ : ∃ z, z = wrS S1 (lv tr) := ⟨_, rfl⟩
      rw [← hX] at hM9 w1 w2 w3 x1 x2
      obtain ⟨k1, k2, k3, k4, k5, k6, k7⟩ := kst_o X (nI 0) d (0 + padL (2 + 4 * 8) / 64)
      rw [← hM9] at k1 k2 k3 k4 k5 k6 k7
      rw [← rtQ_e] at k3
      have hsr : ∀ j, j < 8 → X.2.1 8 j = T10.2.1 1 j := fun j hj => (x1 j hj).trans (hrt.2.1 j hj).symm
      have hsw : ∀ t, t < 64 → X.2.1 9 t = T10.2.1 2 t := fun t ht => (x2 t ht).trans (hrt.2.2.1 t ht).symm
      have hwf : ∃ f : Nat → Int32, ∀ t, t < 64 → T10.2.1 2 t = schN f 48 t := by
        obtain ⟨f, hf⟩ := rtW_sch (lv tr) (T9.2.1 c)
        exact ⟨f, fun t ht => (hrt.2.2.1 t ht).trans (hf t ht)⟩
      have gx : ∀ i, i ≠ 7 → i ≠ 8 → i ≠ 9 → i ≠ 26 → X.2.1 i = M.2.1 i := fun i q1 q2 q3 q4 => (w3 i q1 q2 q3).trans (gA i q1 q2 q3 q4)
      have ga : ∀ i, (i ≠ 7 ∧ i ≠ 8 ∧ i ≠ 9 ∧ i ≠ 26 ∧ i ≠ 12 ∧ i ≠ 13 ∧ i ≠ 14 ∧ i ≠ 15) → M9.2.1 i = M.2.1 i := fun i q => (k7 i (by omega) (by omega) (by omega) (by omega)).trans (gx i (by omega) (by omega) (by omega) (by omega))
      have gf : ∀ k, (k ≠ 0 ∧ k ≠ 8 ∧ k ≠ 11 ∧ k ≠ 16) → M9.1 0 k = M.1 0 k := fun k q => (k6 k (by omega)).trans ((w1 k (by omega) (by omega)).trans ((hag.1 k (by omega) (by omega)).trans (by simp [sI, va_up, q.1])))
      refine ⟨by rw [hr, hr9], ⟨(ga 1 (by decide)).trans h1.1, (ga 2 (by decide)).trans h1.2.1, (ga 3 (by decide)).trans h1.2.2.1, by obtain ⟨q, hq⟩ := w2; exact ⟨q, (k6 11 (by decide)).trans hq⟩⟩, ⟨t9, h2.cg (fun i hi => hs i (by unfold cTa at hi; omega)) (gf 12 (by decide)) (ga 10 (by decide))⟩, ⟨ks, h3.cg (fun i hi => hs i (by unfold cK at hi; omega)) (gf 14 (by decide)) (ga 11 (by decide))⟩, ⟨d + 1, RD_add hD hd3 hU sh hwf k1 (by rw [k2, gx 12 (by decide) (by decide) (by decide) (by decide)]) (by rw [k3, gx 13 (by decide) (by decide) (by decide) (by decide)]) (by rw [k4, gx 14 (by decide) (by decide) (by decide) (by decide)]) (by rw [k5, gx 15 (by decide) (by decide) (by decide) (by decide)]) hsr hsw⟩, h5.cg (fun i hi => hs i (by unfold cG at hi; omega)) (ga 16 (by decide)) (ga 17 (by decide)) (ga 18 (by decide)) (ga 19 (by decide)) (ga 20 (by decide)), ⟨lv, lz, hB.cg2 (fun i q1 q2 => hs i (by omega)) (fun tr2 a q1 q2 => (ho _ (by omega) (fun c => by unfold cD at c; omega) (by have := (hB tr2 q1).2.2.1; by_cases e : tr2 = tr; (subst e; omega); omega)).2) (ga 1 (by decide)) (ga 2 (by decide)) (ga 22 (by decide)) (ga 23 (by decide)) (ga 24 (by decide)) (ga 25 (by decide))⟩, ⟨pv, h7.cg (fun i hi => hs i (by unfold cP at hi; omega)) (gf 32 (by decide)) (ga 27 (by decide))⟩, ⟨R9, rz, h8.cg (fun i hi => hs i (by unfold cR at hi; omega)) (gf 34 (by decide)) (gf 38 (by decide)) (ga 28 (by decide)) (ga 29 (by decide)) (ga 30 (by decide))⟩⟩
