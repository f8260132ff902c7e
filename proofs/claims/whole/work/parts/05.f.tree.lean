/-! Levels of a tree as rows of bytes -/
/-- the rows from s on hold the level f of n, and behind it the levels above -/
def LvR (K h0 : Nat → Int32) : Nat → Nat → Nat → (Nat → Nat → Int32) → (Nat → Nat → Int32) → Prop
  | 0, n, s, f, R => ∀ a, a < n → ∀ k, k < 32 → R (s + a) k = sbH (f a) k
  | g + 1, n, s, f, R => (∀ a, a < n → ∀ k, k < 32 → R (s + a) k = sbH (f a) k) ∧ (1 < n → LvR K h0 g ((n + 1) / 2) (s + n) (rsF K h0 n f) R)
theorem LvR.row {K h0 : Nat → Int32} {g n s : Nat} {f R : Nat → Nat → Int32} (h : LvR K h0 g n s f R) : ∀ a, a < n → ∀ k, k < 32 → R (s + a) k = sbH (f a) k := by
  cases g with
  | zero => exact h
  | succ g => exact h.1
theorem LvR.last {K h0 : Nat → Int32} {g n s : Nat} {f R : Nat → Nat → Int32} (h1 : n ≤ 1) (h : ∀ a, a < n → ∀ k, k < 32 → R (s + a) k = sbH (f a) k) : LvR K h0 g n s f R := by
  cases g with
  | zero => exact h
  | succ g => exact ⟨h, fun h2 => absurd h2 (by omega)⟩
def tot : Nat → Nat → Nat
  | 0, n => n
  | g + 1, n => n + (if n ≤ 1 then 0 else tot g ((n + 1) / 2))
theorem tot_ge (g n : Nat) : n ≤ tot g n := by
  cases g <;> simp [tot]
theorem tot_s (g n : Nat) (h : 1 < n) : tot (g + 1) n = n + tot g ((n + 1) / 2) := by
  simp only [tot]; rw [if_neg (by omega)]
theorem tot_4 : ∀ n : Fin 13, tot 4 n.val ≤ 24 := by decide
theorem dueF_g (g n a : Nat) : dueF g n a ≤ g := by
  induction g generalizing n a with
  | zero => exact Nat.le_refl _
  | succ g ih =>
    by_cases h : n ≤ 1
    · rw [dueF_1 _ _ _ h]; exact Nat.zero_le _
    · rw [dueF_s _ _ _ (by omega)]
      have := ih ((n + 1) / 2) (a / 2)
      split <;> omega
theorem b255 (x : Int32) : x.toInt8.toInt32 &&& nI 255 = x &&& nI 255 := by
  apply Int32.toBitVec_inj.mp
  have h : (nI 255).toBitVec = 255#32 := by decide
  rw [Int32.toBitVec_and, Int32.toBitVec_and, h, Int8.toBitVec_toInt32, Int32.toBitVec_toInt8]
  apply BitVec.eq_of_getLsbD_eq
  intro i hi
  rw [BitVec.getLsbD_and, BitVec.getLsbD_and]
  by_cases h8 : i < 8
  · rw [BitVec.getLsbD_signExtend, BitVec.getLsbD_signExtend, if_pos h8, if_pos hi]
    simp only [h8, hi, decide_true, Bool.true_and]
  · have : (255#32).getLsbD i = false := by
      have h2 : ∀ i : Fin 32, ¬ i.val < 8 → (255#32).getLsbD i.val = false := by decide
      exact h2 ⟨i, hi⟩ h8
    rw [this, Bool.and_false, Bool.and_false]
/-- bytes with sign, then without: those of the words -/
theorem ub_sbH (h : Nat → Int32) (k : Nat) : sbH h k &&& nI 255 = byH h k := by
  unfold sbH byH
  exact b255 _
theorem prU_eq {F G f g : Nat → Int32} (hf : ∀ k, k < 32 → F k = sbH f k) (hg : ∀ k, k < 32 → G k = sbH g k) : ∀ j, j < 65 → prU F G j = prB f g j := by
  intro j hj
  unfold prU prB ub
  by_cases h0 : j = 0
  · rw [if_pos h0, if_pos h0]
  · rw [if_neg h0, if_neg h0]
    by_cases h1 : j < 33
    · rw [if_pos h1, if_pos h1, hf _ (by omega), ub_sbH]
    · rw [if_neg h1, if_neg h1, hg _ (by omega), ub_sbH]
theorem prH_U {n : Nat} (hn : n = 65) {F G f g : Nat → Int32} (hf : ∀ k, k < 32 → F k = sbH f k) (hg : ∀ k, k < 32 → G k = sbH g k) : ∀ j, j < 8 → shaC kC wC0 (prU F G) n j = prH kC wC0 f g j := by
  intro j hj
  unfold prH
  rw [← hn]
  exact (shaC_cg (fun _ _ => rfl) (fun _ _ => rfl) (fun j hj => prU_eq hf hg j (by omega))).1 j hj
/-- the digest of h has come into row c; the mill aside nothing else has changed -/
def wr1 (S T : wS) (c : Nat) (h : Nat → Int32) : Prop := (∀ i, 3 ≤ i → i ≠ c → T.1 i = S.1 i ∧ T.2.1 i = S.2.1 i) ∧ ∀ k, k < 32 → T.2.1 c k = sbH h k
/-- a mill and two, three rows of a larger world -/
def fP (c1 c2 c3 : Nat) : Nat → Nat
  | 0 => 0
  | 1 => 1
  | 2 => 2
  | 3 => c1
  | 4 => c2
  | _ => c3
def fiP (c1 c2 c3 : Nat) (i : Nat) : Option Nat := if i < 3 then some i else if i = c1 then some 3 else if i = c2 then some 4 else if i = c3 then some 5 else none
def fiP2 (c1 c2 : Nat) (i : Nat) : Option Nat := if i < 3 then some i else if i = c1 then some 3 else if i = c2 then some 4 else none
section LP
variable {n : Nat} {sk : Nat → wK} {c1 c2 c3 : Nat}
theorem lie_P3 (hn : 3 ≤ n) (hm : hasM sk) (h1 : 3 ≤ c1 ∧ c1 < n) (h2 : 3 ≤ c2 ∧ c2 < n) (h3 : 3 ≤ c3 ∧ c3 < n) (h12 : c1 ≠ c2) (h13 : c1 ≠ c3) (h23 : c2 ≠ c3) (e1 : sk c1 = .inr (1, 32, fun _ => none)) (e2 : sk c2 = .inr (1, 32, fun _ => none)) (e3 : sk c3 = .inr (1, 32, fun _ => none)) : Lie n sk 6 (skMi 32) (fP c1 c2 c3) (fiP c1 c2 c3) := by
  refine ⟨fun k hk => ?_, fun i k h => ?_⟩
  · match k, hk with
    | 0, _ => exact ⟨by show 0 < n; omega, rfl, hm.1⟩
    | 1, _ => exact ⟨by show 1 < n; omega, rfl, hm.2.1⟩
    | 2, _ => exact ⟨by show 2 < n; omega, rfl, hm.2.2⟩
    | 3, _ => exact ⟨h1.2, by show fiP c1 c2 c3 c1 = some 3; unfold fiP; rw [if_neg (by omega), if_pos rfl], e1⟩
    | 4, _ => exact ⟨h2.2, by show fiP c1 c2 c3 c2 = some 4; unfold fiP; rw [if_neg (by omega), if_neg (Ne.symm h12), if_pos rfl], e2⟩
    | 5, _ => exact ⟨h3.2, by show fiP c1 c2 c3 c3 = some 5; unfold fiP; rw [if_neg (by omega), if_neg (Ne.symm h13), if_neg (Ne.symm h23), if_pos rfl], e3⟩
  · unfold fiP at h
    by_cases a : i < 3
    · rw [if_pos a] at h; cases h
      refine ⟨by omega, ?_⟩
      rcases (show i = 0 ∨ i = 1 ∨ i = 2 by omega) with rfl | rfl | rfl <;> rfl
    · rw [if_neg a] at h
      by_cases b : i = c1
      · rw [if_pos b] at h; cases h; exact ⟨by decide, b.symm⟩
      · rw [if_neg b] at h
        by_cases c : i = c2
        · rw [if_pos c] at h; cases h; exact ⟨by decide, c.symm⟩
        · rw [if_neg c] at h
          by_cases d : i = c3
          · rw [if_pos d] at h; cases h; exact ⟨by decide, d.symm⟩
          · rw [if_neg d] at h; cases h
theorem lie_P2 (hn : 3 ≤ n) (hm : hasM sk) (h1 : 3 ≤ c1 ∧ c1 < n) (h2 : 3 ≤ c2 ∧ c2 < n) (h12 : c1 ≠ c2) (e1 : sk c1 = .inr (1, 32, fun _ => none)) (e2 : sk c2 = .inr (1, 32, fun _ => none)) : Lie n sk 5 (skMi 32) (fP c1 c2 0) (fiP2 c1 c2) := by
  refine ⟨fun k hk => ?_, fun i k h => ?_⟩
  · match k, hk with
    | 0, _ => exact ⟨by show 0 < n; omega, rfl, hm.1⟩
    | 1, _ => exact ⟨by show 1 < n; omega, rfl, hm.2.1⟩
    | 2, _ => exact ⟨by show 2 < n; omega, rfl, hm.2.2⟩
    | 3, _ => exact ⟨h1.2, by show fiP2 c1 c2 c1 = some 3; unfold fiP2; rw [if_neg (by omega), if_pos rfl], e1⟩
    | 4, _ => exact ⟨h2.2, by show fiP2 c1 c2 c2 = some 4; unfold fiP2; rw [if_neg (by omega), if_neg (Ne.symm h12), if_pos rfl], e2⟩
  · unfold fiP2 at h
    by_cases a : i < 3
    · rw [if_pos a] at h; cases h
      refine ⟨by omega, ?_⟩
      rcases (show i = 0 ∨ i = 1 ∨ i = 2 by omega) with rfl | rfl | rfl <;> rfl
    · rw [if_neg a] at h
      by_cases b : i = c1
      · rw [if_pos b] at h; cases h; exact ⟨by decide, b.symm⟩
      · rw [if_neg b] at h
        by_cases c : i = c2
        · rw [if_pos c] at h; cases h; exact ⟨by decide, c.symm⟩
        · rw [if_neg c] at h; cases h
end LP
/-- behind a call into a mill and rows: cell ct of the small world was written -/
theorem wr1_of {n : Nat} {sk : Nat → wK} {n2 : Nat} {sk2 : Nat → wK} {f : Nat → Nat} {fi : Nat → Option Nat} {S X : wS} {ct : Nat} {h : Nat → Int32} (hli : Lie n sk n2 sk2 f fi) (h3 : ∀ k, 3 ≤ k → k < n2 → 3 ≤ f k) (h0 : ∀ k, k < 3 → f k = k) (hct : 3 ≤ ct ∧ ct < n2) (hp : (∀ i, 3 ≤ i → i ≠ ct → X.1 i = (pul S f).1 i ∧ X.2.1 i = (pul S f).2.1 i) ∧ ∀ k, k < 32 → X.2.1 ct k = sbH h k) : wr1 S (psh S fi X) (f ct) h := by
  refine ⟨fun i hi hc => ?_, fun k hk => by rw [psh_2 hli X hct.2]; exact hp.2 k hk⟩
  cases e : fi i with
  | none => exact psh_o X e
  | some k =>
    obtain ⟨g1, g2⟩ := hli.2 i k e
    have hk3 : 3 ≤ k := Nat.not_lt.mp (fun h => by have := h0 k h; omega)
    have hkc : k ≠ ct := fun e => hc (by rw [← g2, e])
    obtain ⟨e1, e2⟩ := hp.1 k hk3 hkc
    rw [← g2]
    exact ⟨(psh_1 hli X g1).trans e1, (psh_2 hli X g1).trans e2⟩
theorem wr1.h {S T : wS} {c : Nat} {h h' : Nat → Int32} (w : wr1 S T c h) (e : ∀ j, j < 8 → h j = h' j) : wr1 S T c h' := ⟨w.1, fun k hk => (w.2 k hk).trans (sbH_cg e k hk)⟩
/-! the tree with a mill: 0, 1, 2 mill, 3 tree, 4 kinds, 5 nodes, 6.. its rows (24) -/
def skTc : Nat → wK := fun i => match i with
  | 3 => .inl (9, [some 4, some 5, none])
  | 4 => .inr (0, 12, fun _ => none)
  | 5 => .inr (5, 24, fun j => some (6 + j))
  | i => skMi 32 i
theorem hM_tc : hasM skTc := ⟨rfl, rfl, rfl⟩
theorem skTc_r (e : Nat) : skTc (6 + e) = .inr (1, 32, fun _ => none) := by rw [Nat.add_comm]; rfl
/-! proof and tree: 0 proof, 1 beside, 2 tree, 3 kinds, 4 nodes, 5.. those beside (4), 9.. the tree's rows (24) -/
def skPg : Nat → wK := fun i => match i with
  | 0 => .inl (6, [some 1, none])
  | 1 => .inr (5, 4, fun j => if j < 4 then some (5 + j) else none)
  | 2 => .inl (9, [some 3, some 4, none])
  | 3 => .inr (0, 12, fun _ => none)
  | 4 => .inr (5, 24, fun j => some (9 + j))
  | _ => .inr (1, 32, fun _ => none)
theorem skPg_r (e : Nat) : skPg (9 + e) = .inr (1, 32, fun _ => none) := by rw [Nat.add_comm]; rfl
theorem skPg_b (e : Nat) : skPg (5 + e) = .inr (1, 32, fun _ => none) := by rw [Nat.add_comm]; rfl
/-- the proof holds P; all else is as in S -/
def GP (S T : wS) (P : List (Nat → Int32)) : Prop := T.1 0 1 = nI P.length ∧ (∀ k, k < P.length → ∀ j, j < 32 → T.2.1 (5 + k) j = sbH (P.getD k (fun _ => 0)) j) ∧ (∀ i, i ≠ 0 → T.1 i = S.1 i) ∧ ∀ i, (i < 5 ∨ 9 ≤ i) → T.2.1 i = S.2.1 i
theorem GP.put {S T : wS} {P : List (Nat → Int32)} (h : GP S T P) (hP : P.length < 4) {o : Nat} {x : Nat → Int32} (hx : ∀ j, j < 32 → T.2.1 (9 + o) j = sbH x j) : GP S (sI (sB T (5 + P.length) (va_cpy (T.2.1 (9 + o)) (T.2.1 (5 + P.length)) 0 0 32)) 0 1 (nI (P.length + 1))) (P ++ [x]) := by
  refine ⟨by simp [sI, va_up], fun k hk j hj => ?_, fun i hi => ?_, fun i hi => ?_⟩
  · rw [List.length_append] at hk
    by_cases e : k = P.length
    · subst e
      show va_up T.2.1 _ _ _ j = _
      rw [up_at, pk_cpy_in (by omega) (by omega), show 0 + (j - 0) = j by omega, hx j hj]
      simp
    · have hk2 : k < P.length := by have : k < P.length + 1 := hk; omega
      show va_up T.2.1 _ _ _ j = _
      rw [va_up_ne _ _ (by omega), h.2.1 k hk2 j hj]
      rw [List.getD, List.getD, List.getElem?_append_left hk2]
  · rw [← h.2.2.1 i hi]; simp [sI, sB, va_up, hi]
  · rw [← h.2.2.2 i hi]
    show va_up T.2.1 _ _ _ = _
    rw [va_up_ne _ _ (by omega)]
/-! proof with a mill: 0, 1, 2 mill, 3 proof, 4 beside, 5 node, 6.. those beside (4) -/
def skPf : Nat → wK := fun i => match i with
  | 3 => .inl (6, [some 4, none])
  | 4 => .inr (5, 4, fun j => if j < 4 then some (6 + j) else none)
  | 5 => .inr (1, 32, fun _ => none)
  | i => skMi 32 i
theorem hM_pf : hasM skPf := ⟨rfl, rfl, rfl⟩
theorem skPf_r (e : Nat) : skPf (6 + e) = .inr (1, 32, fun _ => none) := by rw [Nat.add_comm]; rfl
/-- the node holds c; the mill aside all else is as in S -/
def FP (S T : wS) (c : Nat → Int32) : Prop := wr1 S T 5 c
theorem fits_sbH (h : Nat → Int32) (k : Nat) : fits .byte (.int (sbH h k)) = true := pk_fb _
