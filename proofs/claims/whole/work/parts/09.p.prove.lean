theorem pvL_le (K h0 : Nat → Int32) : ∀ g n a f, (pvL K h0 g n a f).length ≤ g
  | 0, _, _, _ => Nat.le_refl _
  | g + 1, n, a, f => by
    have ih := pvL_le K h0 g ((n + 1) / 2) (a / 2) (rsF K h0 n f)
    by_cases h : n ≤ 1
    · rw [pvL_1 _ _ _ _ _ _ h]; exact Nat.zero_le _
    · by_cases hb : bsd a < n
      · rw [pvL_y _ _ _ _ _ _ (by omega) hb, List.length_append, List.length_singleton]; omega
      · rw [pvL_n _ _ _ _ _ _ (by omega) hb]; omega
theorem fPg_5 (tr k : Nat) (hk : k < 4) : fPg tr (5 + k) = 278 + k := by
  rcases (show k = 0 ∨ k = 1 ∨ k = 2 ∨ k = 3 by omega) with rfl | rfl | rfl | rfl <;> rfl
/-- what prove leaves of the class, seen from outside -/
theorem gp_o {T X : wS} {tr : Nat} {P : List (Nat → Int32)} (htr : tr < 4) (hP : P.length ≤ 4) (h : GP (pul T (fPg tr)) X P) : (psh T (fiPg tr) X).1 50 1 = nI P.length ∧ (∀ u, u < P.length → ∀ k, k < 32 → (psh T (fiPg tr) X).2.1 (278 + u) k = sbH (P.getD u (fun _ => 0)) k) ∧ ∀ i, ¬ i = 50 → ¬ (278 ≤ i ∧ i < 282) → (psh T (fiPg tr) X).1 i = T.1 i ∧ (psh T (fiPg tr) X).2.1 i = T.2.1 i := by
  obtain ⟨a1, a2, a3, a4⟩ := h
  have hli := liePg tr htr
  refine ⟨?_, fun u hu k hk => ?_, fun i hi h2 => ?_⟩
  · have e := psh_1 (S := T) hli X (k := 0) (by decide)
    exact (congrFun e 1).trans a1
  · rw [← fPg_5 tr u (by omega), psh_2 hli X (by omega)]
    exact a2 u hu k hk
  · cases e : fiPg tr i with
    | none => exact psh_o X e
    | some c =>
      obtain ⟨g1, g2⟩ := hli.2 i c e
      have hc : c ≠ 0 ∧ (c < 5 ∨ 9 ≤ c) := by
        refine ⟨fun z => hi (by rw [← g2, z]; rfl), ?_⟩
        by_cases q : c < 5 ∨ 9 ≤ c
        · exact q
        · obtain ⟨z, rfl⟩ : ∃ z, c = 5 + z := ⟨c - 5, by omega⟩
          rw [fPg_5 tr z (by omega)] at g2
          omega
      rw [← g2]
      exact ⟨(psh_1 hli X g1).trans (a3 c hc.1), (psh_2 hli X g1).trans (a4 c hc.2)⟩
theorem prove_rel {S T9 S9 M M9 : wS} {tr : Nat} {lv lz : Nat → Nat} {P : List (Nat → Int32)} (h : Rel S M) (hB : RB S M lv lz) (htr : tr < 4) (hP : P.length ≤ 4) (hcl : clO S T9 tr (lv tr)) (s1 : S9.1 50 1 = nI P.length) (s2 : ∀ u, u < P.length → ∀ k, k < 32 → S9.2.1 (278 + u) k = sbH (P.getD u (fun _ => 0)) k) (s3 : ∀ i, ¬ i = 50 → ¬ (278 ≤ i ∧ i < 282) → S9.1 i = T9.1 i ∧ S9.2.1 i = T9.2.1 i) (hag : agP (sI M 0 0 (nI 0)) M9) (m1 : M9.1 0 32 = nI P.length) (m2 : ∀ k, k < P.length → ∀ j, j < 8 → M9.2.1 27 (8 * k + j) = P.getD k (fun _ => 0) j) : Rel S9 M9 := by
  obtain ⟨h1, ⟨t9, h2⟩, ⟨ks, h3⟩, ⟨d, h4⟩, h5, -, ⟨pv, h7⟩, ⟨R9, rz, h8⟩⟩ := h
  have hl := (hB tr htr).2.2.1
  have ho : ∀ i, 3 ≤ i → ¬ i = 50 → ¬ (278 ≤ i ∧ i < 282) → (i < 182 + 24 * tr + lv tr ∨ 182 + 24 * tr + 24 ≤ i) → S9.1 i = S.1 i ∧ S9.2.1 i = S.2.1 i := fun i n0 n1 n2 n3 => by
    obtain ⟨a, b⟩ := s3 i n1 n2
    obtain ⟨c, e⟩ := hcl i n0 n3
    exact ⟨a.trans c, b.trans e⟩
  have hs : ∀ i, 3 ≤ i → ¬ i = 50 → (i < 182 ∨ 282 ≤ i) → S9.1 i = S.1 i ∧ S9.2.1 i = S.2.1 i := fun i n0 n1 n2 => ho i n0 n1 (by omega) (by omega)
  have ga : ∀ i, (i ≠ 7 ∧ i ≠ 8 ∧ i ≠ 9 ∧ i ≠ 26 ∧ i ≠ 27) → M9.2.1 i = M.2.1 i := fun i q => hag.2.1 i (by omega) (by omega) (by omega) (by omega) (by omega)
  have gf : ∀ k, (k ≠ 0 ∧ k ≠ 8 ∧ k ≠ 11 ∧ k ≠ 32) → M9.1 0 k = M.1 0 k := fun k q => (hag.1 k (by omega) (by omega) (by omega)).trans (by simp [sI, va_up, q.1])
  refine ⟨⟨(ga 1 (by decide)).trans h1.1, (ga 2 (by decide)).trans h1.2.1, (ga 3 (by decide)).trans h1.2.2.1, hag.2.2⟩,
    ⟨t9, h2.cg (fun i hi => hs i (by unfold cTa at hi; omega) (by unfold cTa at hi; omega) (by unfold cTa at hi; omega)) (gf 12 (by decide)) (ga 10 (by decide))⟩,
    ⟨ks, h3.cg (fun i hi => hs i (by unfold cK at hi; omega) (by unfold cK at hi; omega) (by unfold cK at hi; omega)) (gf 14 (by decide)) (ga 11 (by decide))⟩,
    ⟨d, h4.cg (fun i hi => hs i (by unfold cD at hi; omega) (by unfold cD at hi; omega) (by unfold cD at hi; omega)) (gf 16 (by decide)) (ga 12 (by decide)) (ga 13 (by decide)) (ga 14 (by decide)) (ga 15 (by decide))⟩,
    h5.cg (fun i hi => hs i (by unfold cG at hi; omega) (by unfold cG at hi; omega) (by unfold cG at hi; omega)) (ga 16 (by decide)) (ga 17 (by decide)) (ga 18 (by decide)) (ga 19 (by decide)) (ga 20 (by decide)),
    ⟨lv, lz, hB.cg2 (fun i q1 q2 => hs i (by omega) (by omega) (by omega)) (fun tr2 a q1 q2 => (ho _ (by omega) (by omega) (by have := (hB tr2 q1).2.2.1; omega) (by have := (hB tr2 q1).2.2.1; by_cases e : tr2 = tr; (subst e; omega); omega)).2) (ga 1 (by decide)) (ga 2 (by decide)) (ga 22 (by decide)) (ga 23 (by decide)) (ga 24 (by decide)) (ga 25 (by decide))⟩,
    ⟨P.length, s1, m1, hP, fun u hu k hk => ?_⟩,
    ⟨R9, rz, h8.cg (fun i hi => hs i (by unfold cR at hi; omega) (by unfold cR at hi; omega) (by unfold cR at hi; omega)) (gf 34 (by decide)) (gf 38 (by decide)) (ga 28 (by decide)) (ga 29 (by decide)) (ga 30 (by decide))⟩⟩
  rw [s2 u hu k hk]
  exact sbH_cg (fun j hj => (m2 u hu j hj).symm) k hk
