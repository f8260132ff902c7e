/-- all but the reference's scratch (message, h, w, level, size, gone) is as it was -/
def agM (S S' : wS) : Prop := (∀ k, k ≠ 8 → k ≠ 11 → S'.1 0 k = S.1 0 k) ∧ (∀ i, i ≠ 7 → i ≠ 8 → i ≠ 9 → i ≠ 26 → S'.2.1 i = S.2.1 i) ∧ ∃ q, S'.1 0 11 = nI q
theorem agM.rf {S : wS} (h : ∃ q, S.1 0 11 = nI q) : agM S S := ⟨fun _ _ _ => rfl, fun _ _ _ _ _ => rfl, h⟩
theorem agM.tr {S S' S'' : wS} (h : agM S S') (g : agM S' S'') : agM S S'' := ⟨fun k a b => (g.1 k a b).trans (h.1 k a b), fun i a b c d => (g.2.1 i a b c d).trans (h.2.1 i a b c d), g.2.2⟩
theorem agM.wk {S X : wS} (h : agM S X) (z : Int32) (g : Nat → Int32) (n q : Nat) : agM S (wrk X z g n q) := by
  refine ⟨fun k a b => ?_, fun i a b c d => ?_, ⟨q + padL n / 64, rfl⟩⟩
  · rw [← h.1 k a b]
    simp [wrk, wst, pst, sI, sB, va_up, a, b]
  · rw [← h.2.1 i a b c d]
    simp [wrk, wst, pst, sI, sB, va_up, a, b, c]
theorem agM.lev {S X : wS} (h : agM S X) (f : Nat → Int32) : agM S (sB X 26 f) := ⟨h.1, fun i a b c d => by rw [← h.2.1 i a b c d]; simp [sB, va_up, d], h.2.2⟩
/-- h goes to place k of the level -/
def tlS (S : wS) (k : Nat) : wS := sB S 26 (pts (S.2.1 26) (8 * k) (S.2.1 8) 8)
/-- a leaf's bytes -/
def lfB (x y : Int32) (f : Nat → Int32) : Nat → Int32 := fun j => if j = 0 then nI 0 else if j = 1 then x else if j = 2 then y else f (j - 3)
/-- four bytes of a word put at n -/
def pw4 (g : Nat → Int32) (n : Nat) (x : Int32) : Nat → Int32 := upd (upd (upd (upd g n (ushr x 24)) (n + 1) (ushr x 16 &&& nI 255)) (n + 1 + 1) (ushr x 8 &&& nI 255)) (n + 1 + 1 + 1) (x &&& nI 255)
def pwd (g : Nat → Int32) (n0 : Nat) (f : Nat → Int32) : Nat → (Nat → Int32)
  | 0 => g
  | j + 1 => pw4 (pwd g n0 f j) (n0 + 4 * j) (f j)
/-- a level grows by one -/
theorem lev_put {f h : Nat → Int32} {i : Nat} {F : Nat → Nat → Int32} (h3 : ∀ a, a < i → ∀ j, j < 8 → f (8 * a + j) = F a j) (hh : ∀ j, j < 8 → h j = F i j) : ∀ a, a < i + 1 → ∀ j, j < 8 → pts f (8 * i) h 8 (8 * a + j) = F a j := by
  intro a ha j hj
  rw [pts_at]
  by_cases e : a = i
  · subst e
    rw [if_pos (by omega), ← hh j hj]
    congr 1
    omega
  · rw [if_neg (by omega)]
    exact h3 a (by omega) j hj
theorem lfM_at (g : Nat → Int32) (x y : Int32) (f : Nat → Int32) (n : Nat) : ∀ j, j < 3 + n → pts (upd (upd (upd g 0 (nI 0)) 1 x) 2 y) 3 f n j = lfB x y f j := by
  intro j hj
  rw [pts_at]
  unfold lfB upd
  by_cases h : 3 ≤ j
  · rw [if_pos ⟨h, hj⟩, if_neg (by omega), if_neg (by omega), if_neg (by omega)]
  · rw [if_neg (by omega)]
    rcases (show j = 0 ∨ j = 1 ∨ j = 2 by omega) with rfl | rfl | rfl <;> rfl
theorem lfh_eq {S S1 : wS} (hag : agM S S1) {x y : Int32} {g f : Nat → Int32} {n : Nat} (j : Nat) (hj : j < 8) : shaC (S1.2.1 1) (hSrc S1 (nI 0)) (pts (upd (upd (upd g 0 (nI 0)) 1 x) 2 y) 3 f n) (3 + n) j = shaC (S.2.1 1) (S.2.1 2) (lfB x y f) (3 + n) j := by
  have e1 := hag.2.1 1 (by decide) (by decide) (by decide) (by decide)
  have e2 := hag.2.1 2 (by decide) (by decide) (by decide) (by decide)
  have e3 : hSrc S1 (nI 0) = S1.2.1 2 := if_pos (by decide)
  rw [e3, e1, e2]
  exact (shaC_cg (fun _ _ => rfl) (fun _ _ => rfl) (fun j hj => lfM_at g x y f n j hj)).1 j hj
/-- byte k of the 32 of eight words -/
def wdB (f : Nat → Int32) (k : Nat) : Int32 := byH f k
/-- bytes of 1, the left one's, the right one's -/
def prB (f g : Nat → Int32) : Nat → Int32 := fun j => if j = 0 then nI 1 else if j < 33 then byH f (j - 1) else byH g (j - 33)
def prH (K h0 f g : Nat → Int32) : Nat → Int32 := shaC K h0 (prB f g) 65
/-- the level above -/
def riS (S : wS) (n a j : Nat) : Int32 := if 2 * a + 1 < n then prH (S.2.1 1) (S.2.1 2) (fun j => S.2.1 26 (8 * (2 * a) + j)) (fun j => S.2.1 26 (8 * (2 * a + 1) + j)) j else S.2.1 26 (8 * (n - 1) + j)
theorem u24 (x : Int32) : ushr x 24 &&& nI 255 = ushr x 24 := by
  have h1 : (ushr x 24).toBitVec.toNat = x.toBitVec.toNat / 2 ^ 24 := pk_ushr x (nI 24) 24 (by decide)
  have h3 : x.toBitVec.toNat < 2 ^ 32 := x.toBitVec.isLt
  apply Int32.toBitVec_inj.mp
  apply BitVec.eq_of_toNat_eq
  rw [Int32.toBitVec_and, BitVec.toNat_and]
  have h4 : (nI 255).toBitVec.toNat = 2 ^ 8 - 1 := by decide
  rw [h4, Nat.and_two_pow_sub_one_eq_mod, h1]
  exact Nat.mod_eq_of_lt (by omega)
theorem u0 (x : Int32) : ushr x 0 = x := by
  have h1 : (ushr x 0).toBitVec.toNat = x.toBitVec.toNat / 2 ^ 0 := pk_ushr x (nI 0) 0 (by decide)
  apply Int32.toBitVec_inj.mp
  apply BitVec.eq_of_toNat_eq
  rw [h1]
  omega
theorem pw4_at (g : Nat → Int32) (n : Nat) (x : Int32) (j : Nat) : pw4 g n x j = if n ≤ j ∧ j < n + 4 then ushr x (24 - 8 * (j - n)) &&& nI 255 else g j := by
  unfold pw4 upd
  by_cases h : n ≤ j ∧ j < n + 4
  · rw [if_pos h]
    rcases (show j = n ∨ j = n + 1 ∨ j = n + 1 + 1 ∨ j = n + 1 + 1 + 1 by omega) with rfl | rfl | rfl | rfl
    · rw [if_neg (by omega), if_neg (by omega), if_neg (by omega), if_pos rfl]
      have : 24 - 8 * (j - j) = 24 := by omega
      rw [this, u24]
    · rw [if_neg (by omega), if_neg (by omega), if_pos rfl]
      have : 24 - 8 * (n + 1 - n) = 16 := by omega
      rw [this]
    · rw [if_neg (by omega), if_pos rfl]
      have : 24 - 8 * (n + 1 + 1 - n) = 8 := by omega
      rw [this]
    · rw [if_pos rfl]
      have : 24 - 8 * (n + 1 + 1 + 1 - n) = 0 := by omega
      rw [this, u0]
  · rw [if_neg h, if_neg (by omega), if_neg (by omega), if_neg (by omega), if_neg (by omega)]
theorem pwd_at (g : Nat → Int32) (n0 : Nat) (f : Nat → Int32) (k j : Nat) : pwd g n0 f k j = if n0 ≤ j ∧ j < n0 + 4 * k then byH f (j - n0) else g j := by
  induction k with
  | zero => simp only [pwd]; rw [if_neg (by omega)]
  | succ k ih =>
    simp only [pwd]
    rw [pw4_at]
    by_cases h : n0 + 4 * k ≤ j ∧ j < n0 + 4 * k + 4
    · rw [if_pos h, if_pos (by omega)]
      unfold byH
      have e1 : (j - n0) / 4 = k := by omega
      have e2 : (j - n0) % 4 = j - (n0 + 4 * k) := by omega
      rw [e1, e2]
    · rw [if_neg h, ih]
      by_cases h2 : n0 ≤ j ∧ j < n0 + 4 * k
      · rw [if_pos h2, if_pos (by omega)]
      · rw [if_neg h2, if_neg (by omega)]
theorem byH_off (f : Nat → Int32) (k : Nat) (hk : 32 ≤ k) : byH f k = byH (fun j => f (8 + j)) (k - 32) := by
  unfold byH
  have e1 : k / 4 = 8 + (k - 32) / 4 := by omega
  have e2 : k % 4 = (k - 32) % 4 := by omega
  rw [e1, e2]
theorem prM_at (g f : Nat → Int32) : ∀ j, j < 65 → pwd (upd g 0 (nI 1)) 1 f 16 j = prB f (fun j => f (8 + j)) j := by
  intro j hj
  rw [pwd_at]
  unfold prB
  by_cases h : j = 0
  · subst h; simp [upd]
  · rw [if_pos (by omega), if_neg h]
    by_cases h2 : j < 33
    · rw [if_pos h2]
    · rw [if_neg h2, byH_off f (j - 1) (by omega)]
      have : j - 1 - 32 = j - 33 := by omega
      rw [this]
theorem hS0 {S S1 : wS} (hag : agM S S1) : S1.2.1 1 = S.2.1 1 ∧ hSrc S1 (nI 0) = S.2.1 2 := by
  have e1 := hag.2.1 1 (by decide) (by decide) (by decide) (by decide)
  have e2 := hag.2.1 2 (by decide) (by decide) (by decide) (by decide)
  have e3 : hSrc S1 (nI 0) = S1.2.1 2 := if_pos (by decide)
  exact ⟨e1, e3.trans e2⟩
theorem tlS_26 (S : wS) (k : Nat) : (tlS S k).2.1 26 = pts (S.2.1 26) (8 * k) (S.2.1 8) 8 := rfl
theorem wrk_26 (S : wS) (z : Int32) (g : Nat → Int32) (n q : Nat) : (wrk S z g n q).2.1 26 = S.2.1 26 := rfl
theorem wrk_8 (S : wS) (z : Int32) (g : Nat → Int32) (n q : Nat) : (wrk S z g n q).2.1 8 = (shaS S z g n).1 := rfl
theorem prh_eq {S S1 : wS} (hag : agM S S1) {n : Nat} (hn : n = 65) {g f f1 f2 : Nat → Int32} (h1 : ∀ j, j < 8 → f j = f1 j) (h2 : ∀ j, j < 8 → f (8 + j) = f2 j) (j : Nat) (hj : j < 8) : (shaS S1 (nI 0) (pwd (upd g 0 (nI 1)) 1 f 16) n).1 j = prH (S.2.1 1) (S.2.1 2) f1 f2 j := by
  obtain ⟨e1, e2⟩ := hS0 hag
  rw [(shaS_C S1 (nI 0) _ n).1 j hj, e1, e2, hn]
  unfold prH
  refine (shaC_cg (fun _ _ => rfl) (fun _ _ => rfl) (fun i hi => ?_)).1 j hj
  rw [prM_at g f i hi]
  unfold prB
  by_cases h : i = 0
  · rw [if_pos h, if_pos h]
  · rw [if_neg h, if_neg h]
    by_cases h3 : i < 33
    · rw [if_pos h3, if_pos h3]; exact byH_cg h1 _ (by omega)
    · rw [if_neg h3, if_neg h3]; exact byH_cg h2 _ (by omega)
theorem rise_step {S S1 : wS} {p9 q n p8 : Nat} (hn : n = 65) (hp8 : p8 = p9) {g : Nat → Int32} (hag : agM S S1) (h4 : ∀ a, a < p9 → ∀ j, j < 8 → S1.2.1 26 (8 * a + j) = prH (S.2.1 1) (S.2.1 2) (fun j => S.2.1 26 (8 * (2 * a) + j)) (fun j => S.2.1 26 (8 * (2 * a + 1) + j)) j) (h5 : ∀ a, 2 * p9 ≤ a → ∀ j, j < 8 → S1.2.1 26 (8 * a + j) = S.2.1 26 (8 * a + j)) :
    (∀ a, a < p9 + 1 → ∀ j, j < 8 → (tlS (wrk S1 (nI 0) (pwd (upd g 0 (nI 1)) 1 (fun i => S1.2.1 26 (8 * (2 * p9) + i)) 16) n q) p8).2.1 26 (8 * a + j) = prH (S.2.1 1) (S.2.1 2) (fun j => S.2.1 26 (8 * (2 * a) + j)) (fun j => S.2.1 26 (8 * (2 * a + 1) + j)) j) ∧
    ∀ a, 2 * (p9 + 1) ≤ a → ∀ j, j < 8 → (tlS (wrk S1 (nI 0) (pwd (upd g 0 (nI 1)) 1 (fun i => S1.2.1 26 (8 * (2 * p9) + i)) 16) n q) p8).2.1 26 (8 * a + j) = S.2.1 26 (8 * a + j) := by
  subst hp8
  rw [tlS_26, wrk_26, wrk_8]
  refine ⟨fun a ha j hj => ?_, fun a ha j hj => ?_⟩
  · exact lev_put (F := fun a j => prH (S.2.1 1) (S.2.1 2) (fun j => S.2.1 26 (8 * (2 * a) + j)) (fun j => S.2.1 26 (8 * (2 * a + 1) + j)) j) h4 (fun j hj => prh_eq hag hn (fun j hj => h5 (2 * p8) (by omega) j hj) (fun j hj => by
      have h6 := h5 (2 * p8 + 1) (by omega) j hj
      have h7 : 8 * (2 * p8) + (8 + j) = 8 * (2 * p8 + 1) + j := by omega
      rw [h7]; exact h6) j hj) a ha j hj
  · rw [pts_at, if_neg (by omega)]
    exact h5 a (by omega) j hj
theorem rise_rd {f : Nat → Int32} {n i : Nat} (h : i < 8 ∧ 1 ≤ n ∧ n % 2 = 1) : pts f (8 * (n / 2)) (fun i => f (8 * (n - 1) + i)) i (8 * (n - 1) + i) = f (8 * (n - 1) + i) := by
  rw [pts_at]
  by_cases h2 : 8 * (n / 2) ≤ 8 * (n - 1) + i ∧ 8 * (n - 1) + i < 8 * (n / 2) + i
  · omega
  · rw [if_neg h2]
theorem rise_even {S S1 : wS} {n p9 i : Nat} (hp : n = 2 * p9 ∨ n = 2 * p9 + 1) (hc : ¬ n % 2 = 1) (hi : i = 0 ∨ n % 2 = 1) (h4 : ∀ a, a < p9 → ∀ j, j < 8 → S1.2.1 26 (8 * a + j) = prH (S.2.1 1) (S.2.1 2) (fun j => S.2.1 26 (8 * (2 * a) + j)) (fun j => S.2.1 26 (8 * (2 * a + 1) + j)) j) :
    ∀ a, a < (n + 1) / 2 → ∀ j, j < 8 → (sB S1 26 (pts (S1.2.1 26) (8 * (n / 2)) (fun i => S1.2.1 26 (8 * (n - 1) + i)) i)).2.1 26 (8 * a + j) = riS S n a j := by
  intro a ha j hj
  have hi0 : i = 0 := by omega
  subst hi0
  show S1.2.1 26 (8 * a + j) = _
  unfold riS
  rw [if_pos (by omega)]
  exact h4 a (by omega) j hj
theorem rise_odd {S S1 : wS} {n p9 i : Nat} (hp : n = 2 * p9 ∨ n = 2 * p9 + 1) (hc : n % 2 = 1) (hi : i = 8) (h4 : ∀ a, a < p9 → ∀ j, j < 8 → S1.2.1 26 (8 * a + j) = prH (S.2.1 1) (S.2.1 2) (fun j => S.2.1 26 (8 * (2 * a) + j)) (fun j => S.2.1 26 (8 * (2 * a + 1) + j)) j) (h5 : ∀ a, 2 * p9 ≤ a → ∀ j, j < 8 → S1.2.1 26 (8 * a + j) = S.2.1 26 (8 * a + j)) :
    ∀ a, a < (n + 1) / 2 → ∀ j, j < 8 → (sB S1 26 (pts (S1.2.1 26) (8 * (n / 2)) (fun i => S1.2.1 26 (8 * (n - 1) + i)) i)).2.1 26 (8 * a + j) = riS S n a j := by
  intro a ha j hj
  subst hi
  show pts (S1.2.1 26) (8 * (n / 2)) (fun i => S1.2.1 26 (8 * (n - 1) + i)) 8 (8 * a + j) = _
  rw [pts_at]
  unfold riS
  by_cases h : 2 * a + 1 < n
  · rw [if_pos h, if_neg (by omega)]
    exact h4 a (by omega) j hj
  · rw [if_neg h, if_pos (by omega)]
    have e : 8 * (n - 1) + (8 * a + j - 8 * (n / 2)) = 8 * (n - 1) + j := by omega
    show S1.2.1 26 (8 * (n - 1) + (8 * a + j - 8 * (n / 2))) = _
    rw [e]
    exact h5 (n - 1) (by omega) j hj
theorem pst_0b (S : wS) (v : Int32) : sI (sI S 0 8 (nI 0)) 0 11 v = pst (sI S 0 11 v) (S.2.1 7) 0 := by
  simp only [pst, sI, sB, up_id, up_up, up_at]
  rw [up_cm (S.1 0) (by decide : (8 : Nat) ≠ 11)]
/-- behind workRoot(n) -/
def wrS (S : wS) (n : Nat) : wS := wrk (sI S 0 11 (nI 0)) (nI 0) (pwd (upd (upd (S.2.1 7) 0 (nI 2)) 1 (nI n)) 2 (fun i => if nI n = 0 then nI 0 else S.2.1 26 i) 8) (2 + 4 * 8) 0
/-- the words that join puts -/
def jnF (S : wS) (k lf i : Nat) : Int32 := if i < 8 then (if lf = 1 then S.2.1 8 (i % 8) else S.2.1 27 (8 * k + i % 8)) else (if lf = 1 then S.2.1 27 (8 * k + i % 8) else S.2.1 8 (i % 8))
def jnS (S : wS) (k lf q : Nat) : wS := wrk S (nI 0) (pwd (upd (S.2.1 7) 0 (nI 1)) 1 (jnF S k lf) 16) (1 + 4 * 16) q
