/-! digests side by side -/
theorem fMf_14 (m e : Nat) : fMf m (14 + e) = 62 + e := by rw [Nat.add_comm 14 e]; rfl
theorem fSA_9 (e : Nat) : fSA (9 + e) = 14 + e := by unfold fSA; rw [if_neg (by omega)]; omega
theorem sa_o {T A : wS} {d : Nat} (a6 : ∀ i, ¬ i = 3 → A.1 i = (pul T fSA).1 i) (a8 : ∀ i, ¬ i = 6 → ¬ i = 7 → ¬ i = 9 + d → ¬ i = 69 + d → A.2.1 i = (pul T fSA).2.1 i) : ∀ c, c < 14 → ¬ c = 8 → ¬ c = 11 → ¬ c = 12 → (psh T fiSA A).1 c = T.1 c ∧ (psh T fiSA A).2.1 c = T.2.1 c := by
  intro c hc h8 h11 h12
  cases e : fiSA c with
  | none => exact psh_o A e
  | some j =>
    obtain ⟨g1, g2⟩ := lie_SA.2 c j e
    have hj : ¬ j = 3 ∧ ¬ j = 6 ∧ ¬ j = 7 ∧ j < 9 := by
      unfold fSA at g2
      by_cases h : j < 3
      · rw [if_pos h] at g2; omega
      · rw [if_neg h] at g2; omega
    rw [← g2]
    exact ⟨(psh_1 lie_SA A g1).trans (a6 j hj.1), (psh_2 lie_SA A g1).trans (a8 j hj.2.1 hj.2.2.1 (by omega) (by omega))⟩
/-- what a finished message leaves, seen from outside -/
theorem fin9_o {U S9 : wS} {m k : Nat} {lk g : Nat → Int32} {bl n d : Nat} (hm : m < 5) (hd : d < 60) (h : fin9 U m k lk g bl n d S9) : shA U S9 k d (fnQ k bl n) (fnH k lk g n) (fnW k lk g n) ∧ (∀ i, ¬ cD i → ¬ (3 * m ≤ i ∧ i < 3 * m + 3) → ¬ (15 + 3 * m ≤ i ∧ i < 18 + 3 * m) → S9.1 i = U.1 i ∧ S9.2.1 i = U.2.1 i) ∧ S9.1 (15 + 3 * m) 3 = U.1 (15 + 3 * m) 3 := by
  unfold fin9 finP at h
  generalize fnQ k bl n = q at h ⊢
  generalize fnH k lk g n = H at h ⊢
  generalize fnW k lk g n = W at h ⊢
  obtain ⟨X, ⟨T, hmf, h1, h2, hX⟩, hS9⟩ := h
  obtain ⟨a1, a2, a3, a4, a5, a6, a7, a8⟩ := adS_o (pul T fSA) (nI k) d q hd
  generalize adS (pul T fSA) (nI k) d q = A at hX a1 a2 a3 a4 a5 a6 a7 a8
  have hli := lieMf m hm
  have ho := sa_o (T := T) (A := A) (d := d) a6 a8
  rw [← hX] at ho
  have row : ∀ e, e < 120 → S9.2.1 (62 + e) = A.2.1 (9 + e) := fun e he => by
    rw [hS9, ← fMf_14 m e, psh_2 hli X (by omega), ← fSA_9 e, hX]
    exact psh_2 lie_SA A (by omega)
  have rowT : ∀ e, (pul T fSA).2.1 (9 + e) = U.2.1 (62 + e) := fun e => by
    show T.2.1 (fSA (9 + e)) = _
    rw [fSA_9, hmf.2.2 (14 + e) (by omega) (by omega)]
    show U.2.1 (fMf m (14 + e)) = _
    rw [fMf_14]
  have p1 : ∀ c, c < 134 → S9.1 (fMf m c) = X.1 c := fun c hc => by rw [hS9]; exact psh_1 hli X hc
  have p2 : ∀ c, c < 134 → S9.2.1 (fMf m c) = X.2.1 c := fun c hc => by rw [hS9]; exact psh_2 hli X hc
  have q1 : ∀ c, c < 129 → X.1 (fSA c) = A.1 c := fun c hc => by rw [hX]; exact psh_1 lie_SA A hc
  have q2 : ∀ c, c < 129 → X.2.1 (fSA c) = A.2.1 c := fun c hc => by rw [hX]; exact psh_2 lie_SA A hc
  refine ⟨⟨?_, ?_, ?_, fun i hi => ?_, fun t ht => ?_, fun e he hne => ⟨?_, ?_⟩⟩, fun i hi n1 n2 => ?_, ?_⟩
  · have e := (p1 8 (by decide)).trans (q1 3 (by decide))
    exact (congrFun e 5).trans a1
  · have e := (p2 11 (by decide)).trans (q2 6 (by decide))
    refine e.trans (a2.trans ?_)
    have e2 : (pul T fSA).2.1 6 = U.2.1 34 := hmf.2.2 11 (by decide) (by decide)
    rw [e2]
  · have e := (p2 12 (by decide)).trans (q2 7 (by decide))
    refine e.trans (a3.trans ?_)
    have e2 : (pul T fSA).2.1 7 = U.2.1 35 := hmf.2.2 12 (by decide) (by decide)
    rw [e2]
  · rw [row d (by omega), a4 i hi]
    have hl := l32_in (nI k)
    exact sbH_cg (fun j hj => h1 j hj) i (by omega)
  · rw [show 122 + d = 62 + (60 + d) by omega, row (60 + d) (by omega), show 9 + (60 + d) = 69 + d by omega, a5 t ht]
    exact h2 t (by omega)
  · rw [row e (by omega), a8 (9 + e) (by omega) (by omega) (by omega) (by omega), rowT]
  · rw [show 122 + e = 62 + (60 + e) by omega, row (60 + e) (by omega), a8 (9 + (60 + e)) (by omega) (by omega) (by omega) (by omega), rowT]
  · cases e : fiMf m i with
    | none => rw [hS9]; exact psh_o X e
    | some c =>
      obtain ⟨g1, g2⟩ := hli.2 i c e
      have hc : (c = 6 ∨ c = 7 ∨ c = 9 ∨ c = 10 ∨ c = 13) := by
        unfold cD at hi
        match c, g2 with
        | 0, g2 => simp only [fMf] at g2; omega
        | 1, g2 => simp only [fMf] at g2; omega
        | 2, g2 => simp only [fMf] at g2; omega
        | 3, g2 => simp only [fMf] at g2; omega
        | 4, g2 => simp only [fMf] at g2; omega
        | 5, g2 => simp only [fMf] at g2; omega
        | 6, _ => exact Or.inl rfl
        | 7, _ => exact Or.inr (Or.inl rfl)
        | 8, g2 => simp only [fMf] at g2; omega
        | 9, g2 => simp only [fMf] at g2; omega
        | 10, g2 => simp only [fMf] at g2; omega
        | 11, g2 => simp only [fMf] at g2; omega
        | 12, g2 => simp only [fMf] at g2; omega
        | 13, _ => exact Or.inr (Or.inr (Or.inr (Or.inr rfl)))
        | z + 14, g2 => simp only [fMf] at g2; omega
      obtain ⟨o1, o2⟩ := ho c (by omega) (by omega) (by omega) (by omega)
      rw [← g2]
      exact ⟨(p1 c g1).trans (o1.trans (hmf.1 c (by omega))), (p2 c g1).trans (o2.trans (hmf.2.2 c (by omega) (by omega)))⟩
  · have e := (p1 3 (by decide)).trans (ho 3 (by decide) (by decide) (by decide) (by decide)).1
    exact (congrFun e 3).trans (hmf.2.1 3 (by decide))
/-- the reference's digest, seen from outside -/
def mdP (S S' : wS) (k d q : Nat) (H W : Nat → Int32) : Prop := ∃ hm wm : Nat → Int32, (∀ j, j < 8 → hm j = H j) ∧ (∀ t, t < 64 → wm t = W t) ∧ S'.1 0 16 = nI (d + 1) ∧ S'.2.1 12 = upd (S.2.1 12) d (nI k) ∧ S'.2.1 13 = upd (S.2.1 13) d (nI q) ∧ S'.2.1 14 = pts (S.2.1 14) (32 * d) (byH hm) 32 ∧ S'.2.1 15 = pts (S.2.1 15) (64 * d) wm 64 ∧ (∃ q, S'.1 0 11 = nI q) ∧ (∀ k, k ≠ 16 → k ≠ 8 → k ≠ 11 → S'.1 0 k = S.1 0 k) ∧ ∀ i, (i ≠ 7 ∧ i ≠ 8 ∧ i ≠ 9 ∧ i ≠ 12 ∧ i ≠ 13 ∧ i ≠ 14 ∧ i ≠ 15 ∧ i ≠ 21) → S'.2.1 i = S.2.1 i
def mdA (S : wS) (z : Int32) (f : Nat → Int32) (n k d : Nat) : wS := kst (wrk (sI S 0 11 (nI (0))) z (cps (S.2.1 7) f n) n 0) (nI k) d (0 + padL n / 64)
theorem mdA_o (S : wS) (z : Int32) (f : Nat → Int32) (n k d : Nat) : mdP S (mdA S z f n k d) k d (0 + padL n / 64) (shaC (S.2.1 1) (hSrc S z) f n) (shaW (S.2.1 1) (hSrc S z) f n) := by
  obtain ⟨x1, x2⟩ := wrk_h (sI S 0 11 (nI 0)) z (cps (S.2.1 7) f n) n 0
  obtain ⟨w1, w2, w3⟩ := wrk_o (sI S 0 11 (nI 0)) z (cps (S.2.1 7) f n) n 0
  unfold mdA
  generalize wrk (sI S 0 11 (nI (0))) z (cps (S.2.1 7) f n) n 0 = X at x1 x2 w1 w2 w3 ⊢
  obtain ⟨k1, k2, k3, k4, k5, k6, k7⟩ := kst_o X (nI k) d (0 + padL n / 64)
  obtain ⟨c1, c2⟩ := shaC_cg (K := S.2.1 1) (K' := S.2.1 1) (h0 := hSrc S z) (h0' := hSrc S z) (g := cps (S.2.1 7) f n) (g' := f) (n := n) (fun _ _ => rfl) (fun _ _ => rfl) (fun j hj => by rw [cps_at, if_pos hj])
  refine ⟨X.2.1 8, X.2.1 9, fun j hj => (x1 j hj).trans (c1 j hj), fun t ht => (x2 t ht).trans (c2 t ht), k1, ?_, ?_, ?_, ?_, ⟨_, (k6 11 (by decide)).trans w2⟩, fun k a b c => ?_, fun i hi => ?_⟩
  · rw [k2, w3 12 (by decide) (by decide) (by decide)]; rfl
  · rw [k3, w3 13 (by decide) (by decide) (by decide)]; rfl
  · rw [k4, w3 14 (by decide) (by decide) (by decide)]; rfl
  · rw [k5, w3 15 (by decide) (by decide) (by decide)]; rfl
  · rw [k6 k a, w1 k b c]; simp [sI, va_up, c]
  · rw [k7 i (by omega) (by omega) (by omega) (by omega), w3 i (by omega) (by omega) (by omega)]; rfl
/-- bytes of the inner and of the outer message -/
def ikR (L f : Nat → Int32) : Nat → Int32 := fun i => if i < 64 then L i ^^^ nI 54 else f (i - 64)
def okR (L h : Nat → Int32) : Nat → Int32 := fun i => if i < 64 then L i ^^^ nI 92 else byH h (i - 64)
def mdK (S : wS) (L f : Nat → Int32) (n kb d mm : Nat) : wS := kst (wrk (sB (wrk (sI S 0 11 (nI (kb))) (nI (0)) (pts (cps (S.2.1 7) (fun i => L i ^^^ nI 54) 64) 64 f n) (64 + n) kb) 21 (cps (S.2.1 21) ((wrk (sI S 0 11 (nI (kb))) (nI (0)) (pts (cps (S.2.1 7) (fun i => L i ^^^ nI 54) 64) 64 f n) (64 + n) kb).2.1 8) 8)) (nI (0)) (pts (cps (padM (pts (cps (S.2.1 7) (fun i => L i ^^^ nI 54) 64) 64 f n) (64 + n)) (fun i => L i ^^^ nI 92) 64) 64 (byH (cps (S.2.1 21) ((wrk (sI S 0 11 (nI (kb))) (nI (0)) (pts (cps (S.2.1 7) (fun i => L i ^^^ nI 54) 64) 64 f n) (64 + n) kb).2.1 8) 8)) 32) mm (kb + padL (64 + n) / 64)) (nI (2)) d (kb + padL (64 + n) / 64 + padL mm / 64)
theorem mdK_o (S : wS) (L f : Nat → Int32) (n kb d mm : Nat) (hmm : mm = 96) : mdP S (mdK S L f n kb d mm) 2 d (kb + padL (64 + n) / 64 + padL mm / 64) (shaC (S.2.1 1) (S.2.1 2) (okR L (shaC (S.2.1 1) (S.2.1 2) (ikR L f) (64 + n))) mm) (shaW (S.2.1 1) (S.2.1 2) (okR L (shaC (S.2.1 1) (S.2.1 2) (ikR L f) (64 + n))) mm) := by
  obtain ⟨x1, x2⟩ := wrk_h (sI S 0 11 (nI kb)) (nI 0) (pts (cps (S.2.1 7) (fun i => L i ^^^ nI 54) 64) 64 f n) (64 + n) kb
  obtain ⟨w1, w2, w3⟩ := wrk_o (sI S 0 11 (nI kb)) (nI 0) (pts (cps (S.2.1 7) (fun i => L i ^^^ nI 54) 64) 64 f n) (64 + n) kb
  unfold mdK
  generalize wrk (sI S 0 11 (nI kb)) (nI (0)) (pts (cps (S.2.1 7) (fun i => L i ^^^ nI 54) 64) 64 f n) (64 + n) kb = X at x1 x2 w1 w2 w3 ⊢
  have e1 : (sI S 0 11 (nI kb)).2.1 1 = S.2.1 1 := rfl
  have e2 : hSrc (sI S 0 11 (nI kb)) (nI 0) = S.2.1 2 := if_pos (by decide)
  rw [e1, e2] at x1
  obtain ⟨c1, -⟩ := shaC_cg (K := S.2.1 1) (K' := S.2.1 1) (h0 := S.2.1 2) (h0' := S.2.1 2) (g := pts (cps (S.2.1 7) (fun i => L i ^^^ nI 54) 64) 64 f n) (g' := ikR L f) (n := 64 + n) (fun _ _ => rfl) (fun _ _ => rfl) (fun j hj => by
    rw [pts_at]
    unfold ikR
    by_cases h : j < 64
    · rw [if_neg (by omega), if_pos h, cps_at, if_pos h]
    · rw [if_pos (by omega), if_neg h])
  have hI : ∀ j, j < 8 → X.2.1 8 j = shaC (S.2.1 1) (S.2.1 2) (ikR L f) (64 + n) j := fun j hj => (x1 j hj).trans (c1 j hj)
  generalize shaC (S.2.1 1) (S.2.1 2) (ikR L f) (64 + n) = I at hI ⊢
  generalize padM (pts (cps (S.2.1 7) (fun i => L i ^^^ nI 54) 64) 64 f n) (64 + n) = G
  obtain ⟨y1, y2⟩ := wrk_h (sB X 21 (cps (S.2.1 21) (X.2.1 8) 8)) (nI 0) (pts (cps G (fun i => L i ^^^ nI 92) 64) 64 (byH (cps (S.2.1 21) (X.2.1 8) 8)) 32) mm (kb + padL (64 + n) / 64)
  obtain ⟨v1, v2, v3⟩ := wrk_o (sB X 21 (cps (S.2.1 21) (X.2.1 8) 8)) (nI 0) (pts (cps G (fun i => L i ^^^ nI 92) 64) 64 (byH (cps (S.2.1 21) (X.2.1 8) 8)) 32) mm (kb + padL (64 + n) / 64)
  generalize wrk (sB X 21 (cps (S.2.1 21) (X.2.1 8) 8)) (nI 0) (pts (cps G (fun i => L i ^^^ nI 92) 64) 64 (byH (cps (S.2.1 21) (X.2.1 8) 8)) 32) mm (kb + padL (64 + n) / 64) = Y at y1 y2 v1 v2 v3 ⊢
  have e3 : (sB X 21 (cps (S.2.1 21) (X.2.1 8) 8)).2.1 1 = S.2.1 1 := w3 1 (by decide) (by decide) (by decide)
  have e4 : hSrc (sB X 21 (cps (S.2.1 21) (X.2.1 8) 8)) (nI 0) = S.2.1 2 := (if_pos (by decide)).trans (w3 2 (by decide) (by decide) (by decide))
  rw [e3, e4] at y1 y2
  obtain ⟨d1, d2⟩ := shaC_cg (K := S.2.1 1) (K' := S.2.1 1) (h0 := S.2.1 2) (h0' := S.2.1 2) (g := pts (cps G (fun i => L i ^^^ nI 92) 64) 64 (byH (cps (S.2.1 21) (X.2.1 8) 8)) 32) (g' := okR L I) (n := mm) (fun _ _ => rfl) (fun _ _ => rfl) (fun j hj => by
    rw [pts_at]
    unfold okR
    by_cases h : j < 64
    · rw [if_neg (by omega), if_pos h, cps_at, if_pos h]
    · rw [if_pos (by omega), if_neg h]
      refine byH_cg (fun q hq => ?_) _ (by omega)
      rw [cps_at, if_pos hq]
      exact hI q hq)
  obtain ⟨k1, k2, k3, k4, k5, k6, k7⟩ := kst_o Y (nI 2) d (kb + padL (64 + n) / 64 + padL mm / 64)
  have hY : ∀ i, i ≠ 7 → i ≠ 8 → i ≠ 9 → i ≠ 21 → Y.2.1 i = S.2.1 i := fun i a b c e => by
    rw [v3 i a b c]
    show va_up X.2.1 21 _ i = _
    rw [va_up_ne _ _ e, w3 i a b c]; rfl
  refine ⟨Y.2.1 8, Y.2.1 9, fun j hj => (y1 j hj).trans (d1 j hj), fun t ht => (y2 t ht).trans (d2 t ht), k1, ?_, ?_, ?_, ?_, ⟨_, (k6 11 (by decide)).trans v2⟩, fun k a b c => ?_, fun i hi => ?_⟩
  · rw [k2, hY 12 (by decide) (by decide) (by decide) (by decide)]
  · rw [k3, hY 13 (by decide) (by decide) (by decide) (by decide)]
  · rw [k4, hY 14 (by decide) (by decide) (by decide) (by decide)]
  · rw [k5, hY 15 (by decide) (by decide) (by decide) (by decide)]
  · rw [k6 k a, v1 k b c]
    show X.1 0 k = _
    rw [w1 k b c]; simp [sI, va_up, c]
  · rw [k7 i (by omega) (by omega) (by omega) (by omega), hY i (by omega) (by omega) (by omega) (by omega)]
theorem xm255 (x : Int32) {m : Nat} (hm : m = 54 ∨ m = 92) : (x ^^^ nI m) &&& nI 255 = (x &&& nI 255) ^^^ nI m := by
  have h : nI m &&& nI 255 = nI m := nand255 (by omega)
  apply Int32.toBitVec_inj.mp
  have h2 := congrArg Int32.toBitVec h
  rw [Int32.toBitVec_and] at h2
  rw [Int32.toBitVec_and, Int32.toBitVec_xor, Int32.toBitVec_xor, Int32.toBitVec_and]
  apply BitVec.eq_of_getLsbD_eq
  intro i hi
  have h3 := congrArg (fun z => z.getLsbD i) h2
  simp only [BitVec.getLsbD_and] at h3
  simp only [BitVec.getLsbD_and, BitVec.getLsbD_xor]
  cases hx : x.toBitVec.getLsbD i <;> cases hy : (nI m).toBitVec.getLsbD i <;> cases hz : (nI 255).toBitVec.getLsbD i <;> simp_all
/-- both sides' words of a keyed digest -/
theorem fn2_eq {lk L g f : Nat → Int32} {n mm : Nat} (hmm : mm = 64 + 32) (hL : ∀ i, i < 64 → lk i &&& nI 255 = L i) (hg : ∀ i, i < n → g i = f i) : (∀ j, j < 8 → shaC kC wC0 (okR L (shaC kC wC0 (ikR L f) (64 + n))) mm j = fnH 2 lk g n j) ∧ ∀ t, t < 64 → shaW kC wC0 (okR L (shaC kC wC0 (ikR L f) (64 + n))) mm t = fnW 2 lk g n t := by
  unfold fnH fnW
  rw [if_pos rfl, if_pos rfl, ← hmm]
  refine shaC_cg (fun _ _ => rfl) (fun _ _ => rfl) (fun i hi => ?_)
  unfold okR okG
  by_cases h : i < 64
  · rw [if_pos h, if_pos h, ← hL i h, xm255 _ (Or.inr rfl)]
  · rw [if_neg h, if_neg h, ub_sbH]
    refine byH_cg (fun q hq => ?_) _ (by omega)
    refine (shaC_cg (fun _ _ => rfl) (fun _ _ => rfl) (fun j hj => ?_)).1 q hq
    unfold ikR kyG
    by_cases h : j < 64
    · rw [if_pos h, if_pos h, ← hL j h, xm255 _ (Or.inl rfl)]
    · rw [if_neg h, if_neg h, hg _ (by omega)]
theorem fn1_eq {k : Nat} {lk g f : Nat → Int32} {n : Nat} (hk : k ≠ 2) (hg : ∀ i, i < n → g i = f i) : (∀ j, j < 8 → shaC kC (hB k) f n j = fnH k lk g n j) ∧ ∀ t, t < 64 → shaW kC (hB k) f n t = fnW k lk g n t := by
  unfold fnH fnW
  rw [if_neg hk, if_neg hk]
  exact shaC_cg (fun _ _ => rfl) (fun _ _ => rfl) (fun i hi => (hg i hi).symm)
theorem fnW_sch (k : Nat) (lk g : Nat → Int32) (n : Nat) : ∃ f : Nat → Int32, ∀ t, t < 64 → fnW k lk g n t = schN f 48 t := by
  unfold fnW
  split
  · exact shaW_sch _ _ _ _
  · exact shaW_sch _ _ _ _
