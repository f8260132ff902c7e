theorem LvR_cg {K h0 : Nat → Int32} {g : Nat} : ∀ {n s : Nat} {f R R' : Nat → Nat → Int32}, (∀ a, a < s + tot g n → R a = R' a) → LvR K h0 g n s f R → LvR K h0 g n s f R' := by
  induction g with
  | zero => intro n s f R R' h hL a ha k hk; rw [← h (s + a) (by show s + a < s + n; omega)]; exact hL a ha k hk
  | succ g ih =>
    intro n s f R R' h hL
    have ht := tot_ge (g + 1) n
    refine ⟨fun a ha k hk => ?_, fun h1 => ih (fun a ha => h a ?_) (hL.2 h1)⟩
    · rw [← h (s + a) (by omega)]; exact hL.1 a ha k hk
    · rw [tot_s _ _ h1]; omega
/-- but for tree tr's upper rows and the mill all is as it was -/
def clO (S T : wS) (tr n : Nat) : Prop := ∀ i, 3 ≤ i → (i < 182 + 24 * tr + n ∨ 182 + 24 * tr + 24 ≤ i) → T.1 i = S.1 i ∧ T.2.1 i = S.2.1 i
theorem fTc_r (tr a : Nat) : fTc tr (6 + a) = 182 + 24 * tr + a := by rw [Nat.add_comm 6 a]; rfl
theorem clO_of {S X : wS} {tr n : Nat} (htr : tr < 4) (hn : n ≤ 12) (hc : cT (pul S (fTc tr)) X n) : clO S (psh S (fiTc tr) X) tr n := by
  intro i hi h
  cases e : fiTc tr i with
  | none => exact psh_o X e
  | some k =>
    obtain ⟨g1, g2⟩ := (lieTc tr htr).2 i k e
    have hk3 : 3 ≤ k := Nat.not_lt.mp (fun h9 => by
      rcases (show k = 0 ∨ k = 1 ∨ k = 2 by omega) with rfl | rfl | rfl <;> (simp only [fTc] at g2; omega))
    have hk6 : k < 6 + n := Nat.not_le.mp (fun h9 => by
      obtain ⟨q, rfl⟩ : ∃ q, k = 6 + q := ⟨k - 6, by omega⟩
      rw [fTc_r] at g2
      omega)
    obtain ⟨e1, e2⟩ := hc k hk3 hk6
    rw [← g2]
    exact ⟨(psh_1 (lieTc tr htr) X g1).trans e1, (psh_2 (lieTc tr htr) X g1).trans e2⟩
theorem cl_row {S X : wS} {tr : Nat} (htr : tr < 4) {a : Nat} (ha : a < 24) : (psh S (fiTc tr) X).2.1 (182 + 24 * tr + a) = X.2.1 (6 + a) := by
  rw [← fTc_r]; exact psh_2 (lieTc tr htr) X (by omega)
theorem cl_lv {S X : wS} {tr n : Nat} {f : Nat → Nat → Int32} (htr : tr < 4) (hn : n ≤ 12) (h : LvR kC wC0 4 n 0 f (fun a => X.2.1 (6 + a))) : LvR kC wC0 4 n 0 f (fun a => (psh S (fiTc tr) X).2.1 (182 + 24 * tr + a)) := by
  have ht : tot 4 n ≤ 24 := tot_4 ⟨n, by omega⟩
  exact LvR_cg (fun a ha => (cl_row htr (by omega)).symm) h
/-- the top of a tree of n leaves -/
def tpP (R : Nat → Int32) (n : Nat) (F : Nat → Int32) : Prop := (n = 0 → ∀ k, k < 32 → R k = 0) ∧ (0 < n → ∀ k, k < 32 → R k = sbH F k)
theorem pg_lv {T : wS} {tr n : Nat} {f : Nat → Nat → Int32} (h : LvR kC wC0 4 n 0 f (fun a => T.2.1 (182 + 24 * tr + a))) : LvR kC wC0 4 n 0 f (fun a => (pul T (fPg tr)).2.1 (9 + a)) := by
  have e9 : (fun a => (pul T (fPg tr)).2.1 (9 + a)) = fun a => T.2.1 (182 + 24 * tr + a) := by
    funext a; rw [Nat.add_comm 9 a]; rfl
  rw [e9]; exact h
theorem fPf_6 {u : Nat} (h : u < 4) : fPf (6 + u) = 278 + u := by
  rcases (show u = 0 ∨ u = 1 ∨ u = 2 ∨ u = 3 by omega) with rfl | rfl | rfl | rfl <;> rfl
/-- a root's digest and last block: n leaves, the top R -/
def rtH (n : Nat) (R : Nat → Int32) : Nat → Int32 := shaC kC wC0 (rtU (nI n) R) (0 + 1 + 1 + 32)
def rtW (n : Nat) (R : Nat → Int32) : Nat → Int32 := shaW kC wC0 (rtU (nI n) R) (0 + 1 + 1 + 32)
def rtQ : Nat := padL (0 + 1 + 1 + 32) / 64
/-- from T to T10 the mill has worked a root -/
def rtO (T T10 : wS) (n c : Nat) : Prop := oth T T10 ∧ (∀ j, j < 8 → T10.2.1 1 j = rtH n (T.2.1 c) j) ∧ (∀ t, t < 64 → T10.2.1 2 t = rtW n (T.2.1 c) t) ∧ T10.1 0 4 = nI rtQ
theorem f_M3 (c : Nat) : fM c 3 = c := rfl
theorem z8 : (nI (0)).toInt8.toInt32 = 0 := by decide
theorem wr1.tr {S T U : wS} {c : Nat} {h h' : Nat → Int32} (a : wr1 S T c h) (b : wr1 T U c h') : wr1 S U c h' := ⟨fun i hi hc => ⟨(b.1 i hi hc).1.trans (a.1 i hi hc).1, (b.1 i hi hc).2.trans (a.1 i hi hc).2⟩, b.2⟩
theorem rg_1n {x : Int32} {n : Nat} (h : ¬ x < nI 1) (h2 : x ≤ nI n) (hn : n < 2 ^ 31) : ∃ k, 1 ≤ k ∧ k ≤ n ∧ x = nI k := by
  obtain ⟨k, hk, rfl⟩ := rg_1 h h2 hn
  exact ⟨k + 1, by omega, by omega, rfl⟩
