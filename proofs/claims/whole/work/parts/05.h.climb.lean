/-- rows from m on hold the level F so far; what lies below is as in S -/
def up1 (S T : wS) (m n : Nat) (F : Nat → Nat → Int32) : Prop := (∀ i, 3 ≤ i → i < 6 + m → T.1 i = S.1 i ∧ T.2.1 i = S.2.1 i) ∧ ∀ a, a < n → ∀ k, k < 32 → T.2.1 (6 + (m + a)) k = sbH (F a) k
theorem up1.put {S S2 T : wS} {m p : Nat} {F : Nat → Nat → Int32} {h : Nat → Int32} (u : up1 S S2 m p F) (w : wr1 S2 T (6 + (m + p)) h) (e : ∀ j, j < 8 → h j = F p j) : up1 S T m (p + 1) F := by
  refine ⟨fun i h3 hi => ?_, fun a ha k hk => ?_⟩
  · obtain ⟨e1, e2⟩ := w.1 i h3 (by omega)
    obtain ⟨f1, f2⟩ := u.1 i h3 hi
    exact ⟨e1.trans f1, e2.trans f2⟩
  · by_cases h9 : a = p
    · subst h9
      exact (w.2 k hk).trans (sbH_cg e k hk)
    · rw [(w.1 (6 + (m + a)) (by omega) (by omega)).2]
      exact u.2 a (by omega) k hk
theorem up1.cp {S S2 : wS} {m p : Nat} {F : Nat → Nat → Int32} (u : up1 S S2 m p F) (o : Nat) (hx : ∀ k, k < 32 → S2.2.1 (6 + o) k = sbH (F p) k) : up1 S (sB S2 (6 + (m + p)) (va_cpy (S2.2.1 (6 + o)) (S2.2.1 (6 + (m + p))) 0 0 32)) m (p + 1) F := by
  refine ⟨fun i h3 hi => ?_, fun a ha k hk => ?_⟩
  · obtain ⟨f1, f2⟩ := u.1 i h3 hi
    refine ⟨f1, ?_⟩
    rw [← f2]
    show va_up S2.2.1 _ _ i = _
    rw [va_up_ne _ _ (by omega)]
  · show va_up S2.2.1 _ _ _ k = _
    by_cases h9 : a = p
    · subst h9
      rw [up_at, pk_cpy_in (by omega) (by omega), show 0 + (k - 0) = k by omega, hx k hk]
    · rw [va_up_ne _ _ (by omega)]
      exact u.2 a (by omega) k hk
/-- one level more -/
theorem climb_up {S1 S3 : wS} {n g1 n9 s9 : Nat} {f f9 : Nat → Nat → Int32} (h1 : 1 < n9) (h4 : ∀ R : Nat → Nat → Int32, (∀ a, a < s9 + n9 → ∀ k, k < 32 → R a k = S1.2.1 (6 + a) k) → LvR kC wC0 (g1 + 1) n9 s9 f9 R → LvR kC wC0 4 n 0 f R) (h5 : ∀ a, a < n9 → ∀ k, k < 32 → S1.2.1 (6 + (s9 + a)) k = sbH (f9 a) k) (u : up1 S1 S3 (s9 + n9) ((n9 + 1) / 2) (rsF kC wC0 n9 f9)) : ∀ R : Nat → Nat → Int32, (∀ a, a < s9 + n9 + (n9 + 1) / 2 → ∀ k, k < 32 → R a k = S3.2.1 (6 + a) k) → LvR kC wC0 g1 ((n9 + 1) / 2) (s9 + n9) (rsF kC wC0 n9 f9) R → LvR kC wC0 4 n 0 f R := by
  intro R hR hL
  have e : ∀ a, a < s9 + n9 → ∀ k, k < 32 → R a k = S1.2.1 (6 + a) k := fun a ha k hk => (hR a (by omega) k hk).trans (congrFun (u.1 (6 + a) (by omega) (by omega)).2 k)
  exact h4 R e ⟨fun a ha k hk => (e (s9 + a) (by omega) k hk).trans (h5 a ha k hk), fun _ => hL⟩
/-- the tree and its leaves' rows are as they were -/
def cT (S T : wS) (n : Nat) : Prop := ∀ i, 3 ≤ i → i < 6 + n → T.1 i = S.1 i ∧ T.2.1 i = S.2.1 i
theorem cT.up {S S1 S3 : wS} {n m k : Nat} {F : Nat → Nat → Int32} (h : cT S S1 n) (u : up1 S1 S3 m k F) (hm : n ≤ m) : cT S S3 n := fun i h3 hi => ⟨(u.1 i h3 (by omega)).1.trans (h i h3 hi).1, (u.1 i h3 (by omega)).2.trans (h i h3 hi).2⟩
