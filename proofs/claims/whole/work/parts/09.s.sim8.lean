set_option maxRecDepth 4096 in
theorem sim_check {S M S9 M9 : wS} {r r9 : Int32} (h : Rel S M) (gd gn gi gk : Int32) (d t pv9 : Nat) (hD : RD S M d) (hT : RT S M t) (hN : RP S M pv9) (hc : (fun r S' => (oor gd d ∧ r = (-101) ∧ S' = S) ∨ (∃ e, e < d ∧ gd = nI e ∧ (oo1 gn 12 ∨ (∃ n, 1 ≤ n ∧ n ≤ 12 ∧ gn = nI n ∧ oor gi n) ∨ (oor gk 8 ∨ 40 < t)) ∧ r = (-102) ∧ S' = S) ∨ (∃ e n i kd, (e < d ∧ gd = nI e ∧ 1 ≤ n ∧ n ≤ 12 ∧ gn = nI n ∧ i < n ∧ gi = nI i ∧ kd < 8 ∧ gk = nI kd ∧ t ≤ 40) ∧ (¬ dueF 4 n i = pv9 ∨ ¬ l32 (S.2.1 34 e) = 32) ∧ r = nI 0 ∧ S' = S) ∨ (∃ e n i kd, (e < d ∧ gd = nI e ∧ 1 ≤ n ∧ n ≤ 12 ∧ gn = nI n ∧ i < n ∧ gi = nI i ∧ kd < 8 ∧ gk = nI kd ∧ t ≤ 40) ∧ dueF 4 n i = pv9 ∧ l32 (S.2.1 34 e) = 32 ∧ ∃ (c1 : Nat → Int32) (T2 T11 : wS), ckF kC wC0 (fun u j => M.2.1 27 (8 * u + j)) pv9 4 n i 0 (lfD kd t (S.2.1 59)) = some (pv9, c1) ∧ (∀ k, k < 32 → T2.2.1 56 k = sbH c1 k) ∧ wr1 S T11 56 (rtH n (T2.2.1 56)) ∧ (((∀ q, q < 32 → T11.2.1 56 q = T11.2.1 (62 + e) q) ∧ r = nI 1) ∨ ((∃ q, q < 32 ∧ ¬ T11.2.1 56 q = T11.2.1 (62 + e) q) ∧ r = nI 0)) ∧ S' = T11)) r S9) (hm : (fun r S' => (inF gd (nI 0) (nI d - nI 1) = 0 ∧ r = (-101) ∧ S' = sI M 0 0 (nI 0)) ∨ (∃ e, e < d ∧ gd = nI e ∧ (inF gn (nI 1) (nI 12) = 0 ∨ (∃ n, 1 ≤ n ∧ n ≤ 12 ∧ gn = nI n ∧ inF gi (nI 0) (nI (n - 1)) = 0) ∨ inF gk (nI 0) (nI 7) = 0 ∨ 40 < t) ∧ r = (-102) ∧ S' = sI M 0 0 (nI 0)) ∨ (∃ e n i kd S1, e < d ∧ gd = nI e ∧ 1 ≤ n ∧ n ≤ 12 ∧ gn = nI n ∧ i < n ∧ gi = nI i ∧ kd ≤ 7 ∧ gk = nI kd ∧ t ≤ 40 ∧ ckF (M.2.1 1) (M.2.1 2) (fun u j => M.2.1 27 (8 * u + j)) pv9 4 n i 0 (shaC (M.2.1 1) (M.2.1 2) (lfB (nI kd) (nI t) (M.2.1 10)) (3 + t)) = none ∧ agM (sI M 0 0 (nI 0)) S1 ∧ r = nI 0 ∧ S' = S1) ∨ (∃ e n i kd S1 u c, e < d ∧ gd = nI e ∧ 1 ≤ n ∧ n ≤ 12 ∧ gn = nI n ∧ i < n ∧ gi = nI i ∧ kd ≤ 7 ∧ gk = nI kd ∧ t ≤ 40 ∧ ckF (M.2.1 1) (M.2.1 2) (fun u j => M.2.1 27 (8 * u + j)) pv9 4 n i 0 (shaC (M.2.1 1) (M.2.1 2) (lfB (nI kd) (nI t) (M.2.1 10)) (3 + t)) = some (u, c) ∧ agM (sI M 0 0 (nI 0)) S1 ∧ (∀ j, j < 8 → S1.2.1 8 j = c j) ∧ ((r = nI 1 ∧ (u = pv9 ∧ ¬ M.2.1 12 e = nI 1) ∧ ∀ q, q < 32 → byH ((wrS (tlS S1 0) n).2.1 8) q = M.2.1 14 (32 * e + q)) ∨ (r = nI 0 ∧ ¬ ((u = pv9 ∧ ¬ M.2.1 12 e = nI 1) ∧ ∀ q, q < 32 → byH ((wrS (tlS S1 0) n).2.1 8) q = M.2.1 14 (32 * e + q)))) ∧ S' = wrS (tlS S1 0) n)) r9 M9) : r = r9 ∧ Rel S9 M9 := by
  have h0 := h
  have hd2 := hD.2.2.1
  have hp4 := hN.2.2.1
  rcases hc with ⟨a1, hr, hS9⟩ | ⟨e, he, e1, a2, hr, hS9⟩ | ⟨e, n, i, kd, hA, a2, hr, hS9⟩ | ⟨e, n, i, kd, hA, hdue, hl, c1, T2, T11, hck1, hT2, hw, hrr, hS9⟩
  · rcases hm with ⟨b1, hr9, hM9⟩ | ⟨q, hq, e9, b2, hr9, hM9⟩ | ⟨q, n', i', kd', S1, hq, e9, hn91, hn92, n9, hi9, i9, hk9, k9, ht9, hck, hag, hr9, hM9⟩ | ⟨q, n', i', kd', S1, u, c, hq, e9, hn91, hn92, n9, hi9, i9, hk9, k9, ht9, hck, hag, h8, hr9, hM9⟩
    · subst hM9; obtain rfl := hS9; exact ⟨by rw [hr, hr9], h0.th _⟩
    · exact absurd e9 (a1 _ (by omega))
    · exact absurd e9 (a1 _ (by omega))
    · exact absurd e9 (a1 _ (by omega))
  · rcases hm with ⟨b1, hr9, hM9⟩ | ⟨q, hq, e9, b2, hr9, hM9⟩ | ⟨q, n', i', kd', S1, hq, e9, hn91, hn92, n9, hi9, i9, hk9, k9, ht9, hck, hag, hr9, hM9⟩ | ⟨q, n', i', kd', S1, u, c, hq, e9, hn91, hn92, n9, hi9, i9, hk9, k9, ht9, hck, hag, h8, hr9, hM9⟩
    · exact absurd e1 (inF_oord b1 (by omega) _ he)
    · subst hM9; obtain rfl := hS9; exact ⟨by rw [hr, hr9], h0.th _⟩
    · rcases a2 with a | ⟨m, m1, m2, m3, a⟩ | a | a
      · exact absurd n9 (by obtain ⟨z, rfl⟩ : ∃ z, n' = z + 1 := ⟨n' - 1, by omega⟩; exact a z (by omega))
      · have z8 := nIe (m3.symm.trans n9) (by omega) (by omega)
        subst z8
        exact absurd i9 (a _ hi9)
      · exact absurd k9 (a _ (by omega))
      · omega
    · rcases a2 with a | ⟨m, m1, m2, m3, a⟩ | a | a
      · exact absurd n9 (by obtain ⟨z, rfl⟩ : ∃ z, n' = z + 1 := ⟨n' - 1, by omega⟩; exact a z (by omega))
      · have z8 := nIe (m3.symm.trans n9) (by omega) (by omega)
        subst z8
        exact absurd i9 (a _ hi9)
      · exact absurd k9 (a _ (by omega))
      · omega
  · rcases hm with ⟨b1, hr9, hM9⟩ | ⟨q, hq, e9, b2, hr9, hM9⟩ | ⟨q, n', i', kd', S1, hq, e9, hn91, hn92, n9, hi9, i9, hk9, k9, ht9, hck, hag, hr9, hM9⟩ | ⟨q, n', i', kd', S1, u, c, hq, e9, hn91, hn92, n9, hi9, i9, hk9, k9, ht9, hck, hag, h8, hr9, hM9⟩
    · obtain ⟨he, e1, -⟩ := hA
      exact absurd e1 (inF_oord b1 (by omega) _ he)
    · obtain ⟨he, e1, hn1, hn2, n1, hi1, i1, hk1, k1, ht40⟩ := hA
      rcases b2 with b | ⟨m, m1, m2, m3, b⟩ | b | b
      · exact absurd n1 (by obtain ⟨z, rfl⟩ : ∃ z, n = z + 1 := ⟨n - 1, by omega⟩; exact inF_oo1 b (by decide) z (by omega))
      · have z8 := nIe (m3.symm.trans n1) (by omega) (by omega)
        subst z8
        obtain ⟨z, rfl⟩ : ∃ z, m = z + 1 := ⟨m - 1, by omega⟩
        exact absurd i1 (inF_oor b (by omega) _ hi1)
      · exact absurd k1 (inF_oor b (by decide) _ hk1)
      · omega
    · obtain ⟨he, e1, hn1, hn2, n1, hi1, i1, hk1, k1, ht40⟩ := hA
      have e8 := nIe (e1.symm.trans e9) (by omega) (by omega)
      have n8 := nIe (n1.symm.trans n9) (by omega) (by omega)
      have i8 := nIe (i1.symm.trans i9) (by omega) (by omega)
      have k8 := nIe (k1.symm.trans k9) (by omega) (by omega)
      subst e8; subst n8; subst i8; subst k8
      have hd9 := hD.2.2.2 e he
      rw [h0.1.1, h0.1.2.1] at hck
      subst hM9; rw [hS9]
      exact ⟨by rw [hr, hr9], h0.ag (fun _ _ _ => ⟨rfl, rfl⟩) hag⟩
    · obtain ⟨he, e1, hn1, hn2, n1, hi1, i1, hk1, k1, ht40⟩ := hA
      have e8 := nIe (e1.symm.trans e9) (by omega) (by omega)
      have n8 := nIe (n1.symm.trans n9) (by omega) (by omega)
      have i8 := nIe (i1.symm.trans i9) (by omega) (by omega)
      have k8 := nIe (k1.symm.trans k9) (by omega) (by omega)
      subst e8; subst n8; subst i8; subst k8
      have hd9 := hD.2.2.2 e he
      rw [h0.1.1, h0.1.2.1] at hck
      have hdu := ckF_du kC wC0 (fun u j => M.2.1 27 (8 * u + j)) pv9 4 n i 0 (shaC kC wC0 (lfB (nI kd) (nI t) (M.2.1 10)) (3 + t)) (by omega)
      have hu : u = dueF 4 n i := by
        by_cases z : 0 + dueF 4 n i ≤ pv9
        · obtain ⟨c', hc'⟩ := hdu.1 z
          rw [hc'] at hck
          simp only [Option.some.injEq, Prod.mk.injEq] at hck
          omega
        · rw [hdu.2 (by omega)] at hck
          exact absurd hck (by simp)
      have hM : Rel S9 M9 := by rw [hM9, hS9]; exact h0.ag (fun _ _ _ => ⟨rfl, rfl⟩) (hag.wr n)
      rcases hr9 with ⟨hr9, ⟨u1, u2⟩, -⟩ | ⟨hr9, -⟩
      · exfalso
        rcases a2 with a | a
        · omega
        · apply a
          unfold l32
          rw [hd9.1, if_neg u2]
      · exact ⟨by rw [hr, hr9], hM⟩
  · rcases hm with ⟨b1, hr9, hM9⟩ | ⟨q, hq, e9, b2, hr9, hM9⟩ | ⟨q, n', i', kd', S1, hq, e9, hn91, hn92, n9, hi9, i9, hk9, k9, ht9, hck, hag, hr9, hM9⟩ | ⟨q, n', i', kd', S1, u, c, hq, e9, hn91, hn92, n9, hi9, i9, hk9, k9, ht9, hck, hag, h8, hr9, hM9⟩
    · obtain ⟨he, e1, -⟩ := hA
      exact absurd e1 (inF_oord b1 (by omega) _ he)
    · obtain ⟨he, e1, hn1, hn2, n1, hi1, i1, hk1, k1, ht40⟩ := hA
      rcases b2 with b | ⟨m, m1, m2, m3, b⟩ | b | b
      · exact absurd n1 (by obtain ⟨z, rfl⟩ : ∃ z, n = z + 1 := ⟨n - 1, by omega⟩; exact inF_oo1 b (by decide) z (by omega))
      · have z8 := nIe (m3.symm.trans n1) (by omega) (by omega)
        subst z8
        obtain ⟨z, rfl⟩ : ∃ z, m = z + 1 := ⟨m - 1, by omega⟩
        exact absurd i1 (inF_oor b (by omega) _ hi1)
      · exact absurd k1 (inF_oor b (by decide) _ hk1)
      · omega
    · obtain ⟨he, e1, hn1, hn2, n1, hi1, i1, hk1, k1, ht40⟩ := hA
      have e8 := nIe (e1.symm.trans e9) (by omega) (by omega)
      have n8 := nIe (n1.symm.trans n9) (by omega) (by omega)
      have i8 := nIe (i1.symm.trans i9) (by omega) (by omega)
      have k8 := nIe (k1.symm.trans k9) (by omega) (by omega)
      subst e8; subst n8; subst i8; subst k8
      have hd9 := hD.2.2.2 e he
      rw [h0.1.1, h0.1.2.1] at hck
      have hdu := ckF_du kC wC0 (fun u j => M.2.1 27 (8 * u + j)) pv9 4 n i 0 (shaC kC wC0 (lfB (nI kd) (nI t) (M.2.1 10)) (3 + t)) (by omega)
      obtain ⟨c', hc'⟩ := hdu.1 (by omega)
      rw [hc'] at hck
      exact absurd hck (by simp)
    · obtain ⟨he, e1, hn1, hn2, n1, hi1, i1, hk1, k1, ht40⟩ := hA
      have e8 := nIe (e1.symm.trans e9) (by omega) (by omega)
      have n8 := nIe (n1.symm.trans n9) (by omega) (by omega)
      have i8 := nIe (i1.symm.trans i9) (by omega) (by omega)
      have k8 := nIe (k1.symm.trans k9) (by omega) (by omega)
      subst e8; subst n8; subst i8; subst k8
      have hd9 := hD.2.2.2 e he
      rw [h0.1.1, h0.1.2.1] at hck
      have hlf := lfD_eq hT h0.1 kd
      rw [h0.1.1, h0.1.2.1] at hlf
      have hcc := ckF_cg kC wC0 (fun u j => M.2.1 27 (8 * u + j)) pv9 4 n i 0 _ _ hlf _ _ _ _ hck1 hck
      have hdu := ckF_du kC wC0 (fun u j => M.2.1 27 (8 * u + j)) pv9 4 n i 0 (shaC kC wC0 (lfB (nI kd) (nI t) (M.2.1 10)) (3 + t)) (by omega)
      obtain ⟨c', hc'⟩ := hdu.1 (by omega)
      have hu : u = pv9 := by
        rw [hc'] at hck
        simp only [Option.some.injEq, Prod.mk.injEq] at hck
        omega
      have hM : Rel S9 M9 := by rw [hM9, hS9]; exact h0.ag (fun i a b => hw.1 i a b) (hag.wr n)
      have hiff := chk_eq h0.1 hD he hn1 hn2 hag h8 hcc hl hT2 hw
      have h12 : ¬ M.2.1 12 e = nI 1 := fun z => by
        unfold l32 at hl
        rw [hd9.1, if_pos z] at hl
        exact absurd hl (by decide)
      refine ⟨?_, hM⟩
      rcases hrr with ⟨y, hr⟩ | ⟨⟨q, hq, y⟩, hr⟩
      · rcases hr9 with ⟨hr9, -, -⟩ | ⟨hr9, z⟩
        · rw [hr, hr9]
        · exact absurd ⟨⟨hu, h12⟩, hiff.mp y⟩ z
      · rcases hr9 with ⟨hr9, -, z⟩ | ⟨hr9, -⟩
        · exact absurd (hiff.mpr z q hq) y
        · rw [hr, hr9]
