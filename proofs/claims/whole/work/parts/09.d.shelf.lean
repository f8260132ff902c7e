/-- a digest has come onto the shelf -/
def shA (U S9 : wS) (k d q : Nat) (hh ww : Nat → Int32) : Prop := S9.1 31 5 = nI (d + 1) ∧ S9.2.1 34 = upd (U.2.1 34) d (nI k) ∧ S9.2.1 35 = upd (U.2.1 35) d (nI q) ∧ (∀ i, i < l32 (nI k) → S9.2.1 (62 + d) i = sbH hh i) ∧ (∀ t, t < 16 → S9.2.1 (122 + d) t = ww t) ∧ ∀ e, e < 60 → ¬ e = d → S9.2.1 (62 + e) = U.2.1 (62 + e) ∧ S9.2.1 (122 + e) = U.2.1 (122 + e)
theorem adS_o (S : wS) (x : Int32) (d q : Nat) (hd : d < 60) : (adS S x d q).1 3 5 = nI (d + 1) ∧ (adS S x d q).2.1 6 = upd (S.2.1 6) d x ∧ (adS S x d q).2.1 7 = upd (S.2.1 7) d (nI q) ∧ (∀ i, i < l32 x → (adS S x d q).2.1 (9 + d) i = sbH (S.2.1 1) i) ∧ (∀ t, t < 16 → (adS S x d q).2.1 (69 + d) t = S.2.1 2 t) ∧ (∀ i, ¬ i = 3 → (adS S x d q).1 i = S.1 i) ∧ (∀ k, ¬ k = 5 → (adS S x d q).1 3 k = S.1 3 k) ∧ ∀ i, ¬ i = 6 → ¬ i = 7 → ¬ i = 9 + d → ¬ i = 69 + d → (adS S x d q).2.1 i = S.2.1 i := by
  unfold adS
  refine ⟨rfl, ?_, ?_, fun i hi => ?_, fun t ht => ?_, fun i hi => ?_, fun k hk => ?_, fun i h6 h7 h9 h69 => ?_⟩
  · simp only [sI, sB, va_up]
    rw [if_neg (by omega), if_neg (by omega)]
    rfl
  · simp only [sI, sB, va_up]
    rw [if_neg (by omega), if_neg (by omega)]
    rfl
  · simp only [sI, sB, va_up]
    rw [if_neg (by omega), if_pos trivial, cps_at, if_pos hi]
    rfl
  · simp only [sI, sB, va_up]
    rw [if_pos trivial, pk_cpy_in (by omega) (by omega), show 0 + (t - 0) = t by omega]
  · simp only [sI, sB, va_up]
    rw [if_neg hi]
  · simp only [sI, sB, va_up]
    rw [if_pos trivial]
    exact va_up_ne _ _ hk
  · simp only [sI, sB, va_up]
    rw [if_neg h69, if_neg h9, if_neg h7, if_neg h6]
theorem fDA_9 (e : Nat) : fDA (9 + e) = 62 + e := by rw [Nat.add_comm 9 e]; rfl
theorem shA_D (U : wS) (k d q : Nat) (hd : d < 60) : shA U (psh U fiDA (adS (pul U fDA) (nI k) d q)) k d q (U.2.1 1) (U.2.1 2) ∧ ∀ i, ¬ cD i → (psh U fiDA (adS (pul U fDA) (nI k) d q)).1 i = U.1 i ∧ (psh U fiDA (adS (pul U fDA) (nI k) d q)).2.1 i = U.2.1 i := by
  obtain ⟨a1, a2, a3, a4, a5, a6, a7, a8⟩ := adS_o (pul U fDA) (nI k) d q hd
  generalize adS (pul U fDA) (nI k) d q = X at a1 a2 a3 a4 a5 a6 a7 a8 ⊢
  have row : ∀ e, e < 120 → (psh U fiDA X).2.1 (62 + e) = X.2.1 (9 + e) := fun e he => by rw [← fDA_9]; exact psh_2 lieDA X (by omega)
  have rowU : ∀ e, (pul U fDA).2.1 (9 + e) = U.2.1 (62 + e) := fun e => by show U.2.1 (fDA (9 + e)) = _; rw [fDA_9]
  refine ⟨⟨a1, a2, a3, fun i hi => by rw [row d (by omega)]; exact a4 i hi, fun t ht => ?_, fun e he hne => ⟨?_, ?_⟩⟩, fun i hi => ?_⟩
  · rw [show 122 + d = 62 + (60 + d) by omega, row (60 + d) (by omega), show 9 + (60 + d) = 69 + d by omega]; exact a5 t ht
  · rw [row e (by omega), a8 (9 + e) (by omega) (by omega) (by omega) (by omega), rowU]
  · rw [show 122 + e = 62 + (60 + e) by omega, row (60 + e) (by omega), show 9 + (60 + e) = 69 + e by omega, a8 (69 + e) (by omega) (by omega) (by omega) (by omega), show 69 + e = 9 + (60 + e) by omega, rowU]
  · cases e : fiDA i with
    | none => exact psh_o X e
    | some j =>
      obtain ⟨g1, g2⟩ := lieDA.2 i j e
      have hj : ¬ j = 3 ∧ ¬ j = 6 ∧ ¬ j = 7 ∧ j < 9 := by
        refine ⟨fun h => hi ?_, fun h => hi ?_, fun h => hi ?_, Nat.not_le.mp (fun h => hi ?_)⟩
        · subst h; rw [← g2]; exact Or.inl ⟨by decide, by decide⟩
        · subst h; rw [← g2]; exact Or.inl ⟨by decide, by decide⟩
        · subst h; rw [← g2]; exact Or.inl ⟨by decide, by decide⟩
        · obtain ⟨z, rfl⟩ : ∃ z, j = 9 + z := ⟨j - 9, by omega⟩
          rw [← g2, fDA_9]
          exact Or.inr (by omega)
      rw [← g2]
      exact ⟨(psh_1 lieDA X g1).trans (a6 j hj.1), (psh_2 lieDA X g1).trans (a8 j hj.2.1 hj.2.2.1 (by omega) (by omega))⟩
theorem shaW_sch (K h0 g : Nat → Int32) (n : Nat) : ∃ f : Nat → Int32, ∀ t, t < 64 → shaW K h0 g n t = schN f 48 t := by
  have hp := padL_64 n
  unfold shaW
  obtain ⟨nb, hnb⟩ : ∃ nb, padL n / 64 = nb + 1 := ⟨padL n / 64 - 1, by omega⟩
  rw [hnb]
  exact ⟨_, fun t _ => rfl⟩
theorem sch_of {ww row : Nat → Int32} (h : ∃ f : Nat → Int32, ∀ t, t < 64 → ww t = schN f 48 t) (hr : ∀ t, t < 16 → row t = ww t) : ∀ t, t < 64 → ww t = schN row 48 t := by
  obtain ⟨f, hf⟩ := h
  intro t ht
  rw [hf t ht]
  refine schN_cg (fun q hq => ?_) 48 t (by omega)
  rw [hr q hq, hf q (by omega), schN_lo _ _ _ hq]
/-- both shelves -/
theorem RD_add {S U S9 M M9 : wS} {k d q : Nat} {hh ww hm wm : Nat → Int32} (h : RD S M d) (hd : d < 60) (hU : sam cD S U) (hs : shA U S9 k d q hh ww) (hw : ∃ f : Nat → Int32, ∀ t, t < 64 → ww t = schN f 48 t) (m1 : M9.1 0 16 = nI (d + 1)) (m2 : M9.2.1 12 = upd (M.2.1 12) d (nI k)) (m3 : M9.2.1 13 = upd (M.2.1 13) d (nI q)) (m4 : M9.2.1 14 = pts (M.2.1 14) (32 * d) (byH hm) 32) (m5 : M9.2.1 15 = pts (M.2.1 15) (64 * d) wm 64) (e1 : ∀ j, j < 8 → hm j = hh j) (e2 : ∀ t, t < 64 → wm t = ww t) : RD S9 M9 (d + 1) := by
  obtain ⟨s1, s2, s3, s4, s5, s6⟩ := hs
  refine ⟨s1, m1, by omega, fun e he => ?_⟩
  rw [s2, s3, m2, m3, m4, m5, (hU 34 (Or.inl ⟨by decide, by decide⟩)).2, (hU 35 (Or.inl ⟨by decide, by decide⟩)).2]
  by_cases c : e = d
  · subst c
    have hl := l32_in (nI k)
    refine ⟨by rw [pk_us, pk_us], by rw [pk_us, pk_us], fun i hi => ?_, fun t ht => ?_⟩
    · rw [pk_us] at hi
      refine ⟨?_, ?_⟩
      · rw [pts_at, if_pos (by omega), show 32 * e + i - 32 * e = i by omega]
        unfold ub
        rw [s4 i hi, ub_sbH]
        exact byH_cg e1 i (by omega)
      · rw [s4 i hi]
        unfold sbH
        rw [i8i8]
    · rw [pts_at, if_pos (by omega), show 64 * e + t - 64 * e = t by omega, e2 t ht]
      exact sch_of hw s5 t ht
  · obtain ⟨g1, g2, g3, g4⟩ := h.2.2.2 e (by omega)
    obtain ⟨r1, r2⟩ := s6 e (by omega) c
    refine ⟨by rw [pk_un c, pk_un c]; exact g1, by rw [pk_un c, pk_un c]; exact g2, fun i hi => ?_, fun t ht => ?_⟩
    · rw [pk_un c] at hi
      have hl := l32_in (M.2.1 12 e)
      rw [pts_at, if_neg (by omega), r1, (hU (62 + e) (Or.inr (by omega))).2]
      exact g3 i hi
    · rw [pts_at, if_neg (by omega), r2, (hU (122 + e) (Or.inr (by omega))).2]
      exact g4 t ht
theorem RB.cg2 {S S' M M' : wS} {lv lz : Nat → Nat} (h : RB S M lv lz) (hS : ∀ i, 38 ≤ i → i < 50 → S'.1 i = S.1 i ∧ S'.2.1 i = S.2.1 i) (hS2 : ∀ tr a, tr < 4 → a < lv tr → S'.2.1 (182 + 24 * tr + a) = S.2.1 (182 + 24 * tr + a)) (h1 : M'.2.1 1 = M.2.1 1) (h2 : M'.2.1 2 = M.2.1 2) (h3 : M'.2.1 22 = M.2.1 22) (h4 : M'.2.1 23 = M.2.1 23) (h5 : M'.2.1 24 = M.2.1 24) (h6 : M'.2.1 25 = M.2.1 25) : RB S' M' lv lz := by
  intro tr htr
  obtain ⟨a1, a2, a3, a4⟩ := h tr htr
  refine ⟨by rw [(hS _ (by omega) (by omega)).1]; exact a1, by rw [h3]; exact a2, a3, fun a ha => ?_⟩
  have e : lfF M' lz tr a = lfF M lz tr a := by
    funext j
    unfold lfF
    rw [h1, h2, h4, h6]
  rw [(hS (39 + 3 * tr) (by omega) (by omega)).2, hS2 tr a htr ha, h4, h5, e]
  exact a4 a ha
/-- a root's bytes in both -/
theorem rt_eq {n : Nat} (hn : n ≤ 12) {R g F top : Nat → Int32} (hR : tpP R n top) (hF : ∀ i, i < 8 → F i = if nI n = 0 then nI 0 else top i) : ∀ j, j < 34 → rtU (nI n) R j = pwd (upd (upd g 0 (nI 2)) 1 (nI n)) 2 F 8 j := by
  intro j hj
  unfold rtU
  by_cases c0 : j = 0
  · subst c0
    rw [if_pos rfl, pwd_at, if_neg (by omega), pk_un (by omega), pk_us]
  · rw [if_neg c0]
    by_cases c1 : j = 1
    · subst c1
      rw [if_pos rfl, pwd_at, if_neg (by omega), pk_us]
    · rw [if_neg c1, pwd_at, if_pos (by omega)]
      by_cases hz : n = 0
      · have h1 := hR.1 hz (j - 2) (by omega)
        unfold ub byH
        rw [h1, hF _ (by omega), if_pos (by rw [hz]; rfl)]
        have : ∀ q : Fin 4, (0 : Int32) &&& nI 255 = ushr (nI 0) (24 - 8 * q.val) &&& nI 255 := by decide
        exact this ⟨(j - 2) % 4, by omega⟩
      · have h1 := hR.2 (by omega) (j - 2) (by omega)
        unfold ub
        rw [h1, ub_sbH]
        refine byH_cg (fun q hq => ?_) _ (by omega)
        rw [hF q hq, if_neg (nI_ne0 (by omega) (by omega))]
theorem rtQ_e : rtQ = 0 + padL (2 + 4 * 8) / 64 := by decide
/-! the reference's last steps, with nothing evaluated -/
theorem kst_o (X : wS) (x : Int32) (d q : Nat) : (kst X x d q).1 0 16 = nI (d + 1) ∧ (kst X x d q).2.1 12 = upd (X.2.1 12) d x ∧ (kst X x d q).2.1 13 = upd (X.2.1 13) d (nI q) ∧ (kst X x d q).2.1 14 = pts (X.2.1 14) (32 * d) (byH (X.2.1 8)) 32 ∧ (kst X x d q).2.1 15 = pts (X.2.1 15) (64 * d) (X.2.1 9) 64 ∧ (∀ k, k ≠ 16 → (kst X x d q).1 0 k = X.1 0 k) ∧ ∀ i, i ≠ 12 → i ≠ 13 → i ≠ 14 → i ≠ 15 → (kst X x d q).2.1 i = X.2.1 i :=
  ⟨rfl, rfl, rfl, rfl, rfl, fun k hk => by simp [kst, sI, sB, va_up, hk], fun i a b c e => by simp [kst, sI, sB, va_up, a, b, c, e]⟩
theorem wrk_o (X : wS) (z : Int32) (g : Nat → Int32) (n q : Nat) : (∀ k, k ≠ 8 → k ≠ 11 → (wrk X z g n q).1 0 k = X.1 0 k) ∧ (wrk X z g n q).1 0 11 = nI (q + padL n / 64) ∧ ∀ i, i ≠ 7 → i ≠ 8 → i ≠ 9 → (wrk X z g n q).2.1 i = X.2.1 i :=
  ⟨fun k a b => by simp [wrk, wst, pst, sI, sB, va_up, a, b], rfl, fun i a b c => by simp [wrk, wst, pst, sI, sB, va_up, a, b, c]⟩
theorem wrk_h (X : wS) (z : Int32) (g : Nat → Int32) (n q : Nat) : (∀ j, j < 8 → (wrk X z g n q).2.1 8 j = shaC (X.2.1 1) (hSrc X z) g n j) ∧ ∀ t, t < 64 → (wrk X z g n q).2.1 9 t = shaW (X.2.1 1) (hSrc X z) g n t :=
  ⟨fun j hj => (shaS_C X z g n).1 j hj, fun t ht => (shaS_C X z g n).2 t ht⟩
/-- a root worked by the reference -/
theorem wrS_o (S : wS) (n : Nat) : (∀ k, k ≠ 8 → k ≠ 11 → (wrS S n).1 0 k = S.1 0 k) ∧ (∃ q, (wrS S n).1 0 11 = nI q) ∧ ∀ i, i ≠ 7 → i ≠ 8 → i ≠ 9 → (wrS S n).2.1 i = S.2.1 i := by
  unfold wrS
  obtain ⟨a, b, c⟩ := wrk_o (sI S 0 11 (nI 0)) (nI 0) (pwd (upd (upd (S.2.1 7) 0 (nI 2)) 1 (nI n)) 2 (fun i => if nI n = 0 then nI 0 else S.2.1 26 i) 8) (2 + 4 * 8) 0
  exact ⟨fun k h1 h2 => (a k h1 h2).trans (by simp [sI, va_up, h2]), ⟨_, b⟩, fun i h1 h2 h3 => c i h1 h2 h3⟩
theorem wrS_h {S : wS} {n : Nat} {R top : Nat → Int32} (hn : n ≤ 12) (hK : S.2.1 1 = kC) (hW : S.2.1 2 = wC0) (hR : tpP R n top) (hF : 0 < n → ∀ i, i < 8 → S.2.1 26 i = top i) : (∀ j, j < 8 → (wrS S n).2.1 8 j = rtH n R j) ∧ ∀ t, t < 64 → (wrS S n).2.1 9 t = rtW n R t := by
  have key : ∀ m, m = 34 → (∀ j, j < 8 → (wrk (sI S 0 11 (nI 0)) (nI 0) (pwd (upd (upd (S.2.1 7) 0 (nI 2)) 1 (nI n)) 2 (fun i => if nI n = 0 then nI 0 else S.2.1 26 i) 8) m 0).2.1 8 j = shaC kC wC0 (rtU (nI n) R) m j) ∧ ∀ t, t < 64 → (wrk (sI S 0 11 (nI 0)) (nI 0) (pwd (upd (upd (S.2.1 7) 0 (nI 2)) 1 (nI n)) 2 (fun i => if nI n = 0 then nI 0 else S.2.1 26 i) 8) m 0).2.1 9 t = shaW kC wC0 (rtU (nI n) R) m t := by
    intro m hm
    obtain ⟨a, b⟩ := wrk_h (sI S 0 11 (nI 0)) (nI 0) (pwd (upd (upd (S.2.1 7) 0 (nI 2)) 1 (nI n)) 2 (fun i => if nI n = 0 then nI 0 else S.2.1 26 i) 8) m 0
    have e1 : (sI S 0 11 (nI 0)).2.1 1 = kC := hK
    have e2 : hSrc (sI S 0 11 (nI 0)) (nI 0) = wC0 := hW
    rw [e1, e2] at a b
    have hb : ∀ j, j < m → pwd (upd (upd (S.2.1 7) 0 (nI 2)) 1 (nI n)) 2 (fun i => if nI n = 0 then nI 0 else S.2.1 26 i) 8 j = rtU (nI n) R j := fun j hj => (rt_eq hn hR (fun q hq => by
      by_cases c : nI n = 0
      · rw [if_pos c, if_pos c]
      · rw [if_neg c, if_neg c]
        exact hF (Nat.pos_of_ne_zero (fun z => c (by rw [z]; rfl))) q hq) j (by omega)).symm
    obtain ⟨c1, c2⟩ := shaC_cg (K := kC) (K' := kC) (h0 := wC0) (h0' := wC0) (fun _ _ => rfl) (fun _ _ => rfl) hb
    exact ⟨fun j hj => (a j hj).trans (c1 j hj), fun t ht => (b t ht).trans (c2 t ht)⟩
  have e34 : (0 + 1 + 1 + 32 : Nat) = 2 + 4 * 8 := rfl
  unfold rtH rtW wrS
  rw [e34]
  exact key (2 + 4 * 8) rfl
theorem rtW_sch (n : Nat) (R : Nat → Int32) : ∃ f : Nat → Int32, ∀ t, t < 64 → rtW n R t = schN f 48 t := by
  unfold rtW
  exact shaW_sch _ _ _ _
