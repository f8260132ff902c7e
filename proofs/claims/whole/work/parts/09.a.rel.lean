/-! The class's state and the reference's -/
/-- the cells C of S' are as in S -/
def sam (C : Nat → Prop) (S S' : wS) : Prop := ∀ i, C i → S'.1 i = S.1 i ∧ S'.2.1 i = S.2.1 i
theorem sam.rf {C : Nat → Prop} {S : wS} : sam C S S := fun _ _ => ⟨rfl, rfl⟩
def cTa (i : Nat) : Prop := i = 58 ∨ i = 59
def cK (i : Nat) : Prop := i = 60 ∨ i = 61
def cD (i : Nat) : Prop := (31 ≤ i ∧ i ≤ 35) ∨ (62 ≤ i ∧ i < 182)
def cG (i : Nat) : Prop := (3 ≤ i ∧ i < 15) ∨ (18 ≤ i ∧ i < 30)
def cB (i : Nat) : Prop := (38 ≤ i ∧ i < 50) ∨ (182 ≤ i ∧ i < 278)
def cP (i : Nat) : Prop := i = 50 ∨ (278 ≤ i ∧ i < 282)
def cR (i : Nat) : Prop := (52 ≤ i ∧ i < 56) ∨ (282 ≤ i ∧ i < 322)
def bFit (f : Nat → Int32) : Prop := ∀ k, fits .byte (.int (f k)) = true
/-- the reference's constants -/
def RK (M : wS) : Prop := M.2.1 1 = kC ∧ M.2.1 2 = wC0 ∧ M.2.1 3 = nC0 ∧ ∃ q, M.1 0 11 = nI q
def RT (S M : wS) (t : Nat) : Prop := S.1 58 1 = nI t ∧ M.1 0 12 = nI t ∧ t ≤ 200 ∧ (∀ k, k < t → M.2.1 10 k = ub (S.2.1 59) k) ∧ bFit (S.2.1 59)
def RS (S M : wS) (ks : Nat) : Prop := S.1 60 1 = nI ks ∧ M.1 0 14 = nI ks ∧ ks ≤ 200 ∧ (∀ k, k < ks → M.2.1 11 k = ub (S.2.1 61) k) ∧ bFit (S.2.1 61)
def RD (S M : wS) (d : Nat) : Prop := S.1 31 5 = nI d ∧ M.1 0 16 = nI d ∧ d ≤ 60 ∧ ∀ e, e < d → S.2.1 34 e = M.2.1 12 e ∧ S.2.1 35 e = M.2.1 13 e ∧ (∀ k, k < l32 (M.2.1 12 e) → M.2.1 14 (32 * e + k) = ub (S.2.1 (62 + e)) k ∧ S.2.1 (62 + e) k = (S.2.1 (62 + e) k).toInt8.toInt32) ∧ ∀ t, t < 64 → M.2.1 15 (64 * e + t) = schN (S.2.1 (122 + e)) 48 t
/-- an open stream -/
def RO (S M : wS) (j : Nat) (k : Nat) (lk : Nat → Int32) (bl : Nat) (g : Nat → Int32) (n : Nat) : Prop := S.1 (15 + 3 * (j + 1)) 3 = nI 1 ∧ M.2.1 20 j = nI k ∧ k ≤ 2 ∧ MO (pul S (fMg (j + 1) 58)) k lk bl g n ∧ (∀ i, i < n → g i = M.2.1 18 (2000 * j + i)) ∧ ((k ≠ 2 ∧ bl = 0) ∨ (k = 2 ∧ (∀ i, i < 64 → lk i &&& nI 255 = M.2.1 16 (64 * (j + 1) + i)) ∧ M.2.1 17 (j + 1) = nI bl))
def RG (S M : wS) : Prop := ∀ j, j < 4 → ∃ n, M.2.1 19 j = nI n ∧ n ≤ 2000 ∧ ((S.1 (15 + 3 * (j + 1)) 3 = nI 0 ∧ M.2.1 20 j = (-1)) ∨ ∃ k lk bl g, RO S M j k lk bl g n)
def RB (S M : wS) (lv lz : Nat → Nat) : Prop := ∀ tr, tr < 4 → S.1 (38 + 3 * tr) 2 = nI (lv tr) ∧ M.2.1 22 tr = nI (lv tr) ∧ lv tr ≤ 12 ∧ ∀ a, a < lv tr → S.2.1 (39 + 3 * tr) a = M.2.1 23 (12 * tr + a) ∧ M.2.1 24 (12 * tr + a) = nI (lz (12 * tr + a)) ∧ lz (12 * tr + a) ≤ 40 ∧ ∀ k, k < 32 → S.2.1 (182 + 24 * tr + a) k = sbH (lfF M lz tr a) k
def RP (S M : wS) (pv : Nat) : Prop := S.1 50 1 = nI pv ∧ M.1 0 32 = nI pv ∧ pv ≤ 4 ∧ ∀ u, u < pv → ∀ k, k < 32 → S.2.1 (278 + u) k = sbH (fun j => M.2.1 27 (8 * u + j)) k
def RR (S M : wS) (R9 : Nat) (rz : Nat → Nat) : Prop := S.1 52 3 = nI R9 ∧ M.1 0 34 = nI R9 ∧ R9 ≤ 40 ∧ S.1 52 4 = M.1 0 38 ∧ ∀ i, i < R9 → S.2.1 54 i = nI (rz i) ∧ M.2.1 28 i = nI (rz i) ∧ rz i ≤ 40 ∧ S.2.1 55 i = M.2.1 30 i ∧ ∀ k, k < rz i → M.2.1 29 (40 * i + k) = ub (S.2.1 (282 + i)) k ∧ S.2.1 (282 + i) k = (S.2.1 (282 + i) k).toInt8.toInt32
def Rel (S M : wS) : Prop := RK M ∧ (∃ t, RT S M t) ∧ (∃ ks, RS S M ks) ∧ (∃ d, RD S M d) ∧ RG S M ∧ (∃ lv lz, RB S M lv lz) ∧ (∃ pv, RP S M pv) ∧ ∃ R9 rz, RR S M R9 rz
section CG
variable {S S' M M' : wS}
theorem RT.cg {t : Nat} (h : RT S M t) (hS : sam cTa S S') (h1 : M'.1 0 12 = M.1 0 12) (h2 : M'.2.1 10 = M.2.1 10) : RT S' M' t := by
  unfold RT
  rw [(hS 58 (Or.inl rfl)).1, (hS 59 (Or.inr rfl)).2, h1, h2]; exact h
theorem RS.cg {t : Nat} (h : RS S M t) (hS : sam cK S S') (h1 : M'.1 0 14 = M.1 0 14) (h2 : M'.2.1 11 = M.2.1 11) : RS S' M' t := by
  unfold RS
  rw [(hS 60 (Or.inl rfl)).1, (hS 61 (Or.inr rfl)).2, h1, h2]; exact h
theorem RD.cg {d : Nat} (h : RD S M d) (hS : sam cD S S') (h1 : M'.1 0 16 = M.1 0 16) (h2 : M'.2.1 12 = M.2.1 12) (h3 : M'.2.1 13 = M.2.1 13) (h4 : M'.2.1 14 = M.2.1 14) (h5 : M'.2.1 15 = M.2.1 15) : RD S' M' d := by
  refine ⟨by rw [(hS 31 (Or.inl ⟨by decide, by decide⟩)).1]; exact h.1, h1.trans h.2.1, h.2.2.1, fun e he => ?_⟩
  have hd := h.2.2.1
  rw [(hS 34 (Or.inl ⟨by decide, by decide⟩)).2, (hS 35 (Or.inl ⟨by decide, by decide⟩)).2, (hS (62 + e) (Or.inr (by omega))).2, (hS (122 + e) (Or.inr (by omega))).2, h2, h3, h4, h5]
  exact h.2.2.2 e he
theorem RO.cg {j k : Nat} {lk : Nat → Int32} {bl : Nat} {g : Nat → Int32} {n : Nat} (hj : j < 4) (h : RO S M j k lk bl g n) (hS : sam cG S S') (h2 : M'.2.1 16 = M.2.1 16) (h3 : M'.2.1 17 = M.2.1 17) (h4 : M'.2.1 18 = M.2.1 18) (h5 : M'.2.1 20 = M.2.1 20) : RO S' M' j k lk bl g n := by
  obtain ⟨a1, a2, a3, a4, a5, a6⟩ := h
  refine ⟨by rw [(hS _ (Or.inr (by omega))).1]; exact a1, by rw [h5]; exact a2, a3, a4.sm (fun i hi => ?_), by rw [h4]; exact a5, by rw [h2, h3]; exact a6⟩
  have hc : cG (fMg (j + 1) 58 i) := by
    unfold cG
    rcases (show i = 0 ∨ i = 1 ∨ i = 2 ∨ i = 3 ∨ i = 4 ∨ i = 5 by omega) with rfl | rfl | rfl | rfl | rfl | rfl <;> simp only [fMg] <;> omega
  exact hS _ hc
theorem RG.cg (h : RG S M) (hS : sam cG S S') (h2 : M'.2.1 16 = M.2.1 16) (h3 : M'.2.1 17 = M.2.1 17) (h4 : M'.2.1 18 = M.2.1 18) (h6 : M'.2.1 19 = M.2.1 19) (h5 : M'.2.1 20 = M.2.1 20) : RG S' M' := by
  intro j hj
  obtain ⟨n, b1, b2, b3⟩ := h j hj
  refine ⟨n, by rw [h6]; exact b1, b2, ?_⟩
  rcases b3 with ⟨c1, c2⟩ | ⟨k, lk, bl, g, c⟩
  · exact Or.inl ⟨by rw [(hS _ (Or.inr (by omega))).1]; exact c1, by rw [h5]; exact c2⟩
  · exact Or.inr ⟨k, lk, bl, g, c.cg hj hS h2 h3 h4 h5⟩
theorem RB.cg {lv lz : Nat → Nat} (h : RB S M lv lz) (hS : sam cB S S') (h1 : M'.2.1 1 = M.2.1 1) (h2 : M'.2.1 2 = M.2.1 2) (h3 : M'.2.1 22 = M.2.1 22) (h4 : M'.2.1 23 = M.2.1 23) (h5 : M'.2.1 24 = M.2.1 24) (h6 : M'.2.1 25 = M.2.1 25) : RB S' M' lv lz := by
  intro tr htr
  obtain ⟨a1, a2, a3, a4⟩ := h tr htr
  refine ⟨by rw [(hS _ (Or.inl (by omega))).1]; exact a1, by rw [h3]; exact a2, a3, fun a ha => ?_⟩
  have e : lfF M' lz tr a = lfF M lz tr a := by
    funext j
    unfold lfF
    rw [h1, h2, h4, h6]
  rw [(hS (39 + 3 * tr) (Or.inl (by omega))).2, (hS (182 + 24 * tr + a) (Or.inr (by omega))).2, h4, h5, e]
  exact a4 a ha
theorem RP.cg {pv : Nat} (h : RP S M pv) (hS : sam cP S S') (h1 : M'.1 0 32 = M.1 0 32) (h2 : M'.2.1 27 = M.2.1 27) : RP S' M' pv := by
  refine ⟨by rw [(hS 50 (Or.inl rfl)).1]; exact h.1, h1.trans h.2.1, h.2.2.1, fun u hu k hk => ?_⟩
  have := h.2.2.1
  rw [(hS (278 + u) (Or.inr (by omega))).2, h2]
  exact h.2.2.2 u hu k hk
theorem RR.cg {R9 : Nat} {rz : Nat → Nat} (h : RR S M R9 rz) (hS : sam cR S S') (h1 : M'.1 0 34 = M.1 0 34) (h2 : M'.1 0 38 = M.1 0 38) (h3 : M'.2.1 28 = M.2.1 28) (h4 : M'.2.1 29 = M.2.1 29) (h5 : M'.2.1 30 = M.2.1 30) : RR S' M' R9 rz := by
  refine ⟨by rw [(hS 52 (Or.inl ⟨by decide, by decide⟩)).1]; exact h.1, h1.trans h.2.1, h.2.2.1, by rw [(hS 52 (Or.inl ⟨by decide, by decide⟩)).1, h2]; exact h.2.2.2.1, fun i hi => ?_⟩
  have := h.2.2.1
  rw [(hS 54 (Or.inl ⟨by decide, by decide⟩)).2, (hS 55 (Or.inl ⟨by decide, by decide⟩)).2, (hS (282 + i) (Or.inr (by omega))).2, h3, h4, h5]
  exact h.2.2.2.2 i hi
end CG
theorem nIe {a b : Nat} (h : nI a = nI b) (ha : a < 2 ^ 31) (hb : b < 2 ^ 31) : a = b := (nI_eq ha hb).mp h
/-- only the word for what was thrown has changed -/
theorem Rel.th {S M : wS} (h : Rel S M) (v : Int32) : Rel S (sI M 0 0 v) := by
  obtain ⟨h1, ⟨t, h2⟩, ⟨ks, h3⟩, ⟨d, h4⟩, h5, ⟨lv, lz, h6⟩, ⟨pv, h7⟩, ⟨R9, rz, h8⟩⟩ := h
  exact ⟨h1, ⟨t, h2.cg sam.rf rfl rfl⟩, ⟨ks, h3.cg sam.rf rfl rfl⟩, ⟨d, h4.cg sam.rf rfl rfl rfl rfl rfl⟩, h5.cg sam.rf rfl rfl rfl rfl rfl, ⟨lv, lz, h6.cg sam.rf rfl rfl rfl rfl rfl rfl⟩, ⟨pv, h7.cg sam.rf rfl rfl⟩, ⟨R9, rz, h8.cg sam.rf rfl rfl rfl rfl rfl⟩⟩
