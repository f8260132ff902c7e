theorem prH_cg {K K' h0 h0' f f' g g' : Nat → Int32} (hK : ∀ t, t < 64 → K t = K' t) (hh : ∀ j, j < 8 → h0 j = h0' j) (hf : ∀ j, j < 8 → f j = f' j) (hg : ∀ j, j < 8 → g j = g' j) : ∀ j, j < 8 → prH K h0 f g j = prH K' h0' f' g' j := by
  intro j hj
  unfold prH
  refine (shaC_cg hK hh (fun i hi => ?_)).1 j hj
  unfold prB
  by_cases h : i = 0
  · rw [if_pos h, if_pos h]
  · rw [if_neg h, if_neg h]
    by_cases h3 : i < 33
    · rw [if_pos h3, if_pos h3]; exact byH_cg hf _ (by omega)
    · rw [if_neg h3, if_neg h3]; exact byH_cg hg _ (by omega)
/-- the level above, of any level -/
def rsF (K h0 : Nat → Int32) (n : Nat) (f : Nat → Nat → Int32) (a j : Nat) : Int32 := if 2 * a + 1 < n then prH K h0 (f (2 * a)) (f (2 * a + 1)) j else f (n - 1) j
theorem riS_f {S S1 : wS} {n : Nat} {f : Nat → Nat → Int32} (h1 : S1.2.1 1 = S.2.1 1) (h2 : S1.2.1 2 = S.2.1 2) (hn : 1 ≤ n) (hl : ∀ a, a < n → ∀ j, j < 8 → S1.2.1 26 (8 * a + j) = f a j) : ∀ a, a < (n + 1) / 2 → ∀ j, j < 8 → riS S1 n a j = rsF (S.2.1 1) (S.2.1 2) n f a j := by
  intro a ha j hj
  unfold riS rsF
  rw [h1, h2]
  by_cases h : 2 * a + 1 < n
  · rw [if_pos h, if_pos h]
    exact prH_cg (fun _ _ => rfl) (fun _ _ => rfl) (fun j hj => hl (2 * a) (by omega) j hj) (fun j hj => hl (2 * a + 1) (by omega) j hj) j hj
  · rw [if_neg h, if_neg h]
    exact hl (n - 1) (by omega) j hj
def topF (K h0 : Nat → Int32) : Nat → Nat → (Nat → Nat → Int32) → (Nat → Int32)
  | 0, _, f => f 0
  | g + 1, n, f => if n ≤ 1 then f 0 else topF K h0 g ((n + 1) / 2) (rsF K h0 n f)
theorem topF_1 (K h0 : Nat → Int32) (g n : Nat) (f : Nat → Nat → Int32) (h : n ≤ 1) : topF K h0 g n f = f 0 := by
  cases g with
  | zero => rfl
  | succ g => simp only [topF]; rw [if_pos h]
theorem topF_s (K h0 : Nat → Int32) (g n : Nat) (f : Nat → Nat → Int32) (h : 1 < n) : topF K h0 (g + 1) n f = topF K h0 g ((n + 1) / 2) (rsF K h0 n f) := by
  simp only [topF]; rw [if_neg (by omega)]
theorem g_pos {n g : Nat} (h : n ≤ 2 ^ g) (h1 : 1 < n) : ∃ g1, g = g1 + 1 ∧ (n + 1) / 2 ≤ 2 ^ g1 := by
  cases g with
  | zero => simp at h; omega
  | succ g => exact ⟨g, rfl, by rw [Nat.pow_succ] at h; omega⟩
/-- what stands beside -/
def bsd (a : Nat) : Nat := if a % 2 = 0 then a + 1 else a - 1
def pvL (K h0 : Nat → Int32) : Nat → Nat → Nat → (Nat → Nat → Int32) → List (Nat → Int32)
  | 0, _, _, _ => []
  | g + 1, n, a, f => if n ≤ 1 then [] else (if bsd a < n then [f (bsd a)] else []) ++ pvL K h0 g ((n + 1) / 2) (a / 2) (rsF K h0 n f)
theorem pvL_1 (K h0 : Nat → Int32) (g n a : Nat) (f : Nat → Nat → Int32) (h : n ≤ 1) : pvL K h0 g n a f = [] := by
  cases g with
  | zero => rfl
  | succ g => simp only [pvL]; rw [if_pos h]
theorem pvL_y (K h0 : Nat → Int32) (g n a : Nat) (f : Nat → Nat → Int32) (h : 1 < n) (hb : bsd a < n) : pvL K h0 (g + 1) n a f = [f (bsd a)] ++ pvL K h0 g ((n + 1) / 2) (a / 2) (rsF K h0 n f) := by
  simp only [pvL]; rw [if_neg (by omega), if_pos hb]
theorem pvL_n (K h0 : Nat → Int32) (g n a : Nat) (f : Nat → Nat → Int32) (h : 1 < n) (hb : ¬ bsd a < n) : pvL K h0 (g + 1) n a f = pvL K h0 g ((n + 1) / 2) (a / 2) (rsF K h0 n f) := by
  simp only [pvL]; rw [if_neg (by omega), if_neg hb, List.nil_append]
/-- all but the scratch and the proof is as it was -/
def agP (S S' : wS) : Prop := (∀ k, k ≠ 8 → k ≠ 11 → k ≠ 32 → S'.1 0 k = S.1 0 k) ∧ (∀ i, i ≠ 7 → i ≠ 8 → i ≠ 9 → i ≠ 26 → i ≠ 27 → S'.2.1 i = S.2.1 i) ∧ ∃ q, S'.1 0 11 = nI q
theorem agM.P {S S' : wS} (h : agM S S') : agP S S' := ⟨fun k a b _ => h.1 k a b, fun i a b c d _ => h.2.1 i a b c d, h.2.2⟩
theorem agP.tr {S S' S'' : wS} (h : agP S S') (g : agM S' S'') : agP S S'' := ⟨fun k a b c => (g.1 k a b).trans (h.1 k a b c), fun i a b c d e => (g.2.1 i a b c d).trans (h.2.1 i a b c d e), g.2.2⟩
theorem agP.pr {S S' : wS} (h : agP S S') (f : Nat → Int32) (v : Int32) : agP S (sI (sB S' 27 f) 0 32 v) := by
  refine ⟨fun k a b c => ?_, fun i a b c d e => ?_, ?_⟩
  · rw [← h.1 k a b c]; simp [sI, sB, va_up, c]
  · rw [← h.2.1 i a b c d e]; simp [sI, sB, va_up, e]
  · obtain ⟨q, hq⟩ := h.2.2; exact ⟨q, hq⟩
theorem agP.p0 {S S' : wS} (h : agP S S') (v : Int32) : agP S (sI S' 0 32 v) := by
  refine ⟨fun k a b c => ?_, fun i a b c d e => h.2.1 i a b c d e, ?_⟩
  · rw [← h.1 k a b c]; simp [sI, va_up, c]
  · obtain ⟨q, hq⟩ := h.2.2; exact ⟨q, hq⟩
theorem prf_put {f h : Nat → Int32} {P : List (Nat → Int32)} {x : Nat → Int32} (h3 : ∀ k, k < P.length → ∀ j, j < 8 → f (8 * k + j) = P.getD k (fun _ => 0) j) (hh : ∀ j, j < 8 → h j = x j) : ∀ k, k < (P ++ [x]).length → ∀ j, j < 8 → pts f (8 * P.length) h 8 (8 * k + j) = (P ++ [x]).getD k (fun _ => 0) j := by
  intro k hk j hj
  rw [List.length_append, List.length_singleton] at hk
  rw [pts_at]
  by_cases e : k = P.length
  · subst e
    rw [if_pos (by omega)]
    have e2 : 8 * P.length + j - 8 * P.length = j := by omega
    rw [e2, hh j hj]
    simp [List.getD]
  · rw [if_neg (by omega), h3 k (by omega) j hj]
    have : k < P.length := by omega
    simp [List.getD, List.getElem?_append_left this]
/-- a proof followed from below; none: it is used up too early -/
def ckF (K h0 : Nat → Int32) (pf : Nat → Nat → Int32) (pv : Nat) : Nat → Nat → Nat → Nat → (Nat → Int32) → Option (Nat × (Nat → Int32))
  | 0, _, _, u, c => some (u, c)
  | g + 1, n, a, u, c => if n ≤ 1 then some (u, c) else if bsd a < n then (if u = pv then none else ckF K h0 pf pv g ((n + 1) / 2) (a / 2) (u + 1) (if a % 2 = 0 then prH K h0 c (pf u) else prH K h0 (pf u) c)) else ckF K h0 pf pv g ((n + 1) / 2) (a / 2) u c
theorem ckF_1 (K h0 : Nat → Int32) (pf : Nat → Nat → Int32) (pv g n a u : Nat) (c : Nat → Int32) (h : n ≤ 1) : ckF K h0 pf pv g n a u c = some (u, c) := by
  cases g with
  | zero => rfl
  | succ g => simp only [ckF]; rw [if_pos h]
theorem ckF_n (K h0 : Nat → Int32) (pf : Nat → Nat → Int32) (pv g n a u : Nat) (c : Nat → Int32) (h : 1 < n) (hb : ¬ bsd a < n) : ckF K h0 pf pv (g + 1) n a u c = ckF K h0 pf pv g ((n + 1) / 2) (a / 2) u c := by
  simp only [ckF]; rw [if_neg (by omega), if_neg hb]
theorem ckF_x (K h0 : Nat → Int32) (pf : Nat → Nat → Int32) (pv g n a u : Nat) (c : Nat → Int32) (h : 1 < n) (hb : bsd a < n) (hu : u = pv) : ckF K h0 pf pv (g + 1) n a u c = none := by
  simp only [ckF]; rw [if_neg (by omega), if_pos hb, if_pos hu]
theorem ckF_y (K h0 : Nat → Int32) (pf : Nat → Nat → Int32) (pv g n a u : Nat) (c : Nat → Int32) (h : 1 < n) (hb : bsd a < n) (hu : ¬ u = pv) : ckF K h0 pf pv (g + 1) n a u c = ckF K h0 pf pv g ((n + 1) / 2) (a / 2) (u + 1) (if a % 2 = 0 then prH K h0 c (pf u) else prH K h0 (pf u) c) := by
  simp only [ckF]; rw [if_neg (by omega), if_pos hb, if_neg hu]
/-- the leaves' digests of a tree -/
def lfF (S : wS) (lz : Nat → Nat) (tr a j : Nat) : Int32 := shaC (S.2.1 1) (S.2.1 2) (lfB (S.2.1 23 (12 * tr + a)) (nI (lz (12 * tr + a))) (fun j => S.2.1 25 (40 * (12 * tr + a) + j))) (3 + lz (12 * tr + a)) j
theorem ck_beg {S X : wS} (h1 : X.2.1 1 = S.2.1 1) (h2 : X.2.1 2 = S.2.1 2) (g : Nat → Int32) (x y : Int32) (f : Nat → Int32) (n : Nat) (j : Nat) (hj : j < 8) : (shaS X (nI 0) (pts (upd (upd (upd g 0 (nI 0)) 1 x) 2 y) 3 f n) (3 + n)).1 j = shaC (S.2.1 1) (S.2.1 2) (lfB x y f) (3 + n) j := by
  have e3 : hSrc X (nI 0) = X.2.1 2 := if_pos (by decide)
  rw [(shaS_C X (nI 0) _ _).1 j hj, e3, h1, h2]
  exact (shaC_cg (fun _ _ => rfl) (fun _ _ => rfl) (fun j hj => lfM_at g x y f n j hj)).1 j hj
theorem jn1_eq {S S1 : wS} {u q : Nat} {c : Nat → Int32} (hag : agM S S1) (hc : ∀ j, j < 8 → S1.2.1 8 j = c j) : ∀ j, j < 8 → (jnS S1 u 1 q).2.1 8 j = prH (S.2.1 1) (S.2.1 2) c (fun j => S.2.1 27 (8 * u + j)) j := by
  intro j hj
  unfold jnS
  rw [wrk_8]
  refine prh_eq hag (by decide) (fun j hj => ?_) (fun j hj => ?_) j hj
  · unfold jnF; rw [if_pos hj, if_pos rfl, Nat.mod_eq_of_lt hj]; exact hc j hj
  · unfold jnF
    rw [if_neg (by omega), if_pos rfl]
    have e : (8 + j) % 8 = j := by omega
    rw [e]
    exact congrFun (hag.2.1 27 (by decide) (by decide) (by decide) (by decide)) _
theorem jn0_eq {S S1 : wS} {u q : Nat} {c : Nat → Int32} (hag : agM S S1) (hc : ∀ j, j < 8 → S1.2.1 8 j = c j) : ∀ j, j < 8 → (jnS S1 u 0 q).2.1 8 j = prH (S.2.1 1) (S.2.1 2) (fun j => S.2.1 27 (8 * u + j)) c j := by
  intro j hj
  unfold jnS
  rw [wrk_8]
  refine prh_eq hag (by decide) (fun j hj => ?_) (fun j hj => ?_) j hj
  · unfold jnF
    rw [if_pos hj, if_neg (by decide), Nat.mod_eq_of_lt hj]
    exact congrFun (hag.2.1 27 (by decide) (by decide) (by decide) (by decide)) _
  · unfold jnF
    rw [if_neg (by omega), if_neg (by decide)]
    have e : (8 + j) % 8 = j := by omega
    rw [e]
    exact hc j hj
