set_option maxRecDepth 4096 in
theorem sim_alter {S M S9 M9 : wS} {r r9 : Int32} (h : Rel S M) (a b x : Int32) (pv9 : Nat) (hN : RP S M pv9) (hc : (fun r S' => (oor a pv9 ∧ r = (-101) ∧ S' = S) ∨ (∃ k, k < pv9 ∧ a = nI k ∧ (oor b 32 ∨ oor x 256) ∧ r = (-102) ∧ S' = S) ∨ (∃ k i mk, k < pv9 ∧ a = nI k ∧ i < 32 ∧ b = nI i ∧ mk ≤ 255 ∧ x = nI mk ∧ r = (S.2.1 (278 + k) i ^^^ nI mk).toInt8.toInt32 &&& nI 255 ∧ S' = sB S (278 + k) (upd (S.2.1 (278 + k)) i ((S.2.1 (278 + k) i ^^^ nI mk).toInt8.toInt32)))) r S9) (hm : (fun r S' => (inF a (nI 0) (nI pv9 - nI 1) = 0 ∧ r = (-101) ∧ S' = sI M 0 0 (nI 0)) ∨ (∃ k, k < pv9 ∧ a = nI k ∧ (inF b (nI 0) (nI 31) = 0 ∨ inF x (nI 0) (nI 255) = 0) ∧ r = (-102) ∧ S' = sI M 0 0 (nI 0)) ∨ (∃ k i mk, k < pv9 ∧ a = nI k ∧ i ≤ 31 ∧ b = nI i ∧ mk ≤ 255 ∧ x = nI mk ∧ r = ushr (M.2.1 27 (8 * k + i / 4) ^^^ (nI mk <<< (nI (24 - 8 * (i % 4)) &&& 31))) (24 - 8 * (i % 4)) &&& nI 255 ∧ S' = sB (sI M 0 0 (nI 0)) 27 (upd (M.2.1 27) (8 * k + i / 4) (M.2.1 27 (8 * k + i / 4) ^^^ (nI mk <<< (nI (24 - 8 * (i % 4)) &&& 31)))))) r9 M9) : r = r9 ∧ Rel S9 M9 := by
  have h0 := h
  obtain ⟨h1, ⟨t9, h2⟩, ⟨ks, h3⟩, ⟨d, h4⟩, h5, ⟨lv, lz, h6⟩, ⟨pv, h7⟩, ⟨R9, rz, h8⟩⟩ := h
  have h9 := hN
  have hp4 := hN.2.2.1
  rcases hc with ⟨a1, hr, hS9⟩ | ⟨k, hk, e1, a2, hr, hS9⟩ | ⟨k, i, mk, hk, e1, hi, f1, hm2, g1, hr, hS9⟩
  · rcases hm with ⟨b1, hr9, hM9⟩ | ⟨q, hq, e9, b2, hr9, hM9⟩ | ⟨q, i9, mk9, hq, e9, hi9, f9, hm9, g9, hr9, hM9⟩
    · subst hM9; obtain rfl := hS9; exact ⟨by rw [hr, hr9], h0.th _⟩
    · exact absurd e9 (a1 _ (by omega))
    · exact absurd e9 (a1 _ (by omega))
  · rcases hm with ⟨b1, hr9, hM9⟩ | ⟨q, hq, e9, b2, hr9, hM9⟩ | ⟨q, i9, mk9, hq, e9, hi9, f9, hm9, g9, hr9, hM9⟩
    · exact absurd e1 (inF_oord b1 (by omega) _ hk)
    · subst hM9; obtain rfl := hS9; exact ⟨by rw [hr, hr9], h0.th _⟩
    · exact a2.elim (fun a => absurd f9 (a _ (by omega))) (fun a => absurd g9 (a _ (by omega)))
  · rcases hm with ⟨b1, hr9, hM9⟩ | ⟨q, hq, e9, b2, hr9, hM9⟩ | ⟨q, i9, mk9, hq, e9, hi9, f9, hm9, g9, hr9, hM9⟩
    · exact absurd e1 (inF_oord b1 (by omega) _ hk)
    · exact b2.elim (fun b => absurd f1 (inF_oor b (by decide) _ (by omega))) (fun b => absurd g1 (inF_oor b (by decide) _ (by omega)))
    · have e8 := nIe (e1.symm.trans e9) (by omega) (by omega)
      have f8 := nIe (f1.symm.trans f9) (by omega) (by omega)
      have g8 := nIe (g1.symm.trans g9) (by omega) (by omega)
      subst e8; subst f8; subst g8
      have hs : ∀ i, i ≠ 278 + k → S9.1 i = S.1 i ∧ S9.2.1 i = S.2.1 i := fun i a => by rw [hS9]; exact ⟨rfl, by simp [sB, va_up, a]⟩
      have hN := RP_alter (M9 := M9) hN hk hi hm2 (by rw [hS9]; rfl) (by rw [hS9]; exact up_at _ _ _) (fun u hu => (hs _ (by omega)).2) (by rw [hM9]; rfl) (by rw [hM9]; rfl)
      subst hM9
      exact ⟨by rw [hr, hr9]; exact alt_r h9 hk hi, ⟨h1, ⟨t9, h2.cg (fun i hi => hs i (by unfold cTa at hi; omega)) rfl rfl⟩, ⟨ks, h3.cg (fun i hi => hs i (by unfold cK at hi; omega)) rfl rfl⟩, ⟨d, h4.cg (fun i hi => hs i (by unfold cD at hi; omega)) rfl rfl rfl rfl rfl⟩, h5.cg (fun i hi => hs i (by unfold cG at hi; omega)) rfl rfl rfl rfl rfl, ⟨lv, lz, h6.cg (fun i hi => hs i (by unfold cB at hi; omega)) rfl rfl rfl rfl rfl rfl⟩, ⟨pv9, hN⟩, ⟨R9, rz, h8.cg (fun i hi => hs i (by unfold cR at hi; omega)) rfl rfl rfl rfl rfl⟩⟩⟩
