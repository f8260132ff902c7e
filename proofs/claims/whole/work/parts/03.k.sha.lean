/-! What a digest depends on: the bytes alone -/
theorem wfl_at (w g : Nat → Int32) (a n t : Nat) : wfl w g a n t = if t < n then wrd g (a + 4 * t) else w t := by
  induction n with
  | zero => simp [wfl]
  | succ n ih =>
    simp only [wfl, upd]
    by_cases e : t = n
    · subst e; simp
    · rw [if_neg e, ih]
      by_cases h : t < n
      · rw [if_pos h, if_pos (by omega)]
      · rw [if_neg h, if_neg (by omega)]
theorem schN_lo (f : Nat → Int32) (n t : Nat) (h : t < 16) : schN f n t = f t := by
  induction n with
  | zero => rfl
  | succ n ih =>
    simp only [schN, upd]
    rw [if_neg (by omega)]
    exact ih
theorem schN_cg {f f' : Nat → Int32} (h : ∀ t, t < 16 → f t = f' t) (n : Nat) : ∀ t, t < 16 + n → schN f n t = schN f' n t := by
  induction n with
  | zero => intro t ht; exact h t (by omega)
  | succ n ih =>
    intro t ht
    simp only [schN, upd]
    by_cases e : t = 16 + n
    · rw [if_pos e, if_pos e, ih (16 + n - 2) (by omega), ih (16 + n - 7) (by omega), ih (16 + n - 15) (by omega), ih (16 + n - 16) (by omega)]
    · rw [if_neg e, if_neg e]
      exact ih t (by omega)
theorem wBlk_cg {w w' g g' : Nat → Int32} {a a' : Nat} (h : ∀ j, j < 64 → g (a + j) = g' (a' + j)) : ∀ t, t < 64 → wBlk w g a t = wBlk w' g' a' t := by
  intro t ht
  refine schN_cg (fun t ht => ?_) 48 t (by omega)
  rw [wfl_at, wfl_at, if_pos ht, if_pos ht]
  unfold wrd
  have e0 := h (4 * t) (by omega)
  have e1 := h (4 * t + 1) (by omega)
  have e2 := h (4 * t + 2) (by omega)
  have e3 := h (4 * t + 3) (by omega)
  simp only [← Nat.add_assoc] at e1 e2 e3
  rw [e0, e1, e2, e3]
theorem rSt_cg {k k' w w' : Int32} {f f' : Nat → Int32} (hk : k = k') (hw : w = w') (h : ∀ j, j < 8 → f j = f' j) : ∀ j, j < 8 → rSt k w f j = rSt k' w' f' j := by
  subst hk; subst hw
  have h0 := h 0 (by omega); have h1 := h 1 (by omega); have h2 := h 2 (by omega); have h3 := h 3 (by omega)
  have h4 := h 4 (by omega); have h5 := h 5 (by omega); have h6 := h 6 (by omega); have h7 := h 7 (by omega)
  have hX : rX k w f = rX k w f' := by unfold rX; rw [h4, h5, h6, h7]
  have hY : rY f = rY f' := by unfold rY; rw [h0, h1, h2]
  intro j hj
  rcases (show j = 0 ∨ j = 1 ∨ j = 2 ∨ j = 3 ∨ j = 4 ∨ j = 5 ∨ j = 6 ∨ j = 7 by omega) with rfl | rfl | rfl | rfl | rfl | rfl | rfl | rfl
  · show rX k w f + rY f = rX k w f' + rY f'; rw [hX, hY]
  · exact h0
  · exact h1
  · exact h2
  · show f 3 + rX k w f = f' 3 + rX k w f'; rw [hX, h3]
  · exact h4
  · exact h5
  · exact h6
theorem rds_cg {K K' w w' f f' : Nat → Int32} (hK : ∀ t, t < 64 → K t = K' t) (hw : ∀ t, t < 64 → w t = w' t) (h : ∀ j, j < 8 → f j = f' j) (n : Nat) (hn : n ≤ 64) : ∀ j, j < 8 → rds K w f n j = rds K' w' f' n j := by
  induction n with
  | zero => exact h
  | succ n ih => exact rSt_cg (hK n (by omega)) (hw n (by omega)) (ih (by omega))
theorem hAdd_at (h g : Nat → Int32) : ∀ j, j < 8 → hAdd h g j = h j + g j := by
  intro j hj
  rcases (show j = 0 ∨ j = 1 ∨ j = 2 ∨ j = 3 ∨ j = 4 ∨ j = 5 ∨ j = 6 ∨ j = 7 by omega) with rfl | rfl | rfl | rfl | rfl | rfl | rfl | rfl <;> rfl
theorem cmpB_cg {K K' h h' w w' : Nat → Int32} (hK : ∀ t, t < 64 → K t = K' t) (hw : ∀ t, t < 64 → w t = w' t) (hh : ∀ j, j < 8 → h j = h' j) : ∀ j, j < 8 → cmpB K h w j = cmpB K' h' w' j := by
  intro j hj
  unfold cmpB
  rw [hAdd_at _ _ j hj, hAdd_at _ _ j hj, hh j hj, rds_cg hK hw hh 64 (Nat.le_refl 64) j hj]
theorem bks_cg {K K' g g' h h' w w' : Nat → Int32} (hK : ∀ t, t < 64 → K t = K' t) (hh : ∀ j, j < 8 → h j = h' j) (nb : Nat) (hg : ∀ j, j < 64 * nb → g j = g' j) : ∀ b, b ≤ nb → (∀ j, j < 8 → (bks K g h w b).1 j = (bks K' g' h' w' b).1 j) ∧ (0 < b → ∀ t, t < 64 → (bks K g h w b).2 t = (bks K' g' h' w' b).2 t) := by
  intro b
  induction b with
  | zero => exact fun _ => ⟨hh, fun h => absurd h (Nat.lt_irrefl 0)⟩
  | succ b ih =>
    intro hb
    obtain ⟨i1, -⟩ := ih (by omega)
    have hw : ∀ t, t < 64 → wBlk (bks K g h w b).2 g (64 * b) t = wBlk (bks K' g' h' w' b).2 g' (64 * b) t := wBlk_cg (fun j hj => hg _ (by omega))
    exact ⟨cmpB_cg hK hw i1, fun _ => hw⟩
theorem upd_cg {f f' : Nat → Int32} {k j : Nat} {x : Int32} (h : f j = f' j) : upd f k x j = upd f' k x j := by
  unfold upd; rw [h]
theorem padM_cg {g g' : Nat → Int32} {n : Nat} (h : ∀ j, j < n → g j = g' j) : ∀ j, j < padL n → padM g n j = padM g' n j := by
  intro j hj
  unfold padM
  unfold padL at hj
  by_cases h1 : n + 1 + padZ n ≤ j
  · simp only [upd]
    rcases (show j = n + 1 + padZ n ∨ j = n + 1 + padZ n + 1 ∨ j = n + 1 + padZ n + 1 + 1 ∨ j = n + 1 + padZ n + 1 + 1 + 1 ∨ j = n + 1 + padZ n + 1 + 1 + 1 + 1 ∨ j = n + 1 + padZ n + 1 + 1 + 1 + 1 + 1 ∨ j = n + 1 + padZ n + 1 + 1 + 1 + 1 + 1 + 1 ∨ j = n + 1 + padZ n + 1 + 1 + 1 + 1 + 1 + 1 + 1 by omega) with rfl | rfl | rfl | rfl | rfl | rfl | rfl | rfl <;> simp
  · repeat (refine upd_cg ?_)
    rw [pts_at, pts_at]
    by_cases h2 : n + 1 ≤ j ∧ j < n + 1 + padZ n
    · rw [if_pos h2, if_pos h2]
    · rw [if_neg h2, if_neg h2]
      unfold upd
      by_cases h3 : j = n
      · rw [if_pos h3, if_pos h3]
      · rw [if_neg h3, if_neg h3]
        exact h j (by omega)
theorem padL_64 (n : Nat) : 64 * (padL n / 64) = padL n ∧ 64 ≤ padL n := by
  unfold padL padZ
  omega
/-- H0 .. H7 of the n bytes g, from h0 on -/
def shaC (K h0 g : Nat → Int32) (n : Nat) : Nat → Int32 := (bks K (padM g n) h0 (fun _ => 0) (padL n / 64)).1
/-- the last block's words -/
def shaW (K h0 g : Nat → Int32) (n : Nat) : Nat → Int32 := (bks K (padM g n) h0 (fun _ => 0) (padL n / 64)).2
theorem shaC_cg {K K' h0 h0' g g' : Nat → Int32} {n : Nat} (hK : ∀ t, t < 64 → K t = K' t) (hh : ∀ j, j < 8 → h0 j = h0' j) (hg : ∀ j, j < n → g j = g' j) : (∀ j, j < 8 → shaC K h0 g n j = shaC K' h0' g' n j) ∧ ∀ t, t < 64 → shaW K h0 g n t = shaW K' h0' g' n t := by
  have hp := padL_64 n
  obtain ⟨h1, h2⟩ := bks_cg (g := padM g n) (g' := padM g' n) (w := fun _ => 0) (w' := fun _ => 0) hK hh (padL n / 64) (fun j hj => padM_cg hg j (by omega)) (padL n / 64) (Nat.le_refl _)
  exact ⟨h1, h2 (by omega)⟩
theorem shaS_C (S : wS) (z : Int32) (g : Nat → Int32) (n : Nat) : (∀ j, j < 8 → (shaS S z g n).1 j = shaC (S.2.1 1) (hSrc S z) g n j) ∧ ∀ t, t < 64 → (shaS S z g n).2 t = shaW (S.2.1 1) (hSrc S z) g n t := by
  have hp := padL_64 n
  obtain ⟨h1, h2⟩ := bks_cg (K := S.2.1 1) (K' := S.2.1 1) (g := padM g n) (g' := padM g n) (h := cps (S.2.1 8) (hSrc S z) 8) (h' := hSrc S z) (w := S.2.1 9) (w' := fun _ => 0) (fun _ _ => rfl) (fun j hj => by rw [cps_at, if_pos hj]) (padL n / 64) (fun j _ => rfl) (padL n / 64) (Nat.le_refl _)
  exact ⟨h1, h2 (by omega)⟩
theorem byH_cg {h h' : Nat → Int32} (hh : ∀ j, j < 8 → h j = h' j) (k : Nat) (hk : k < 32) : byH h k = byH h' k := by
  unfold byH; rw [hh (k / 4) (by omega)]
