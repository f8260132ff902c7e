/-! The primes, and the constants that the reference makes of them -/
def pm (p : Nat) : Nat → Int32
  | 0 => nI 1
  | k + 1 => if pm p k = 0 ∨ ((2 + k) * (2 + k) ≤ p ∧ p % (2 + k) = 0) then nI 0 else nI 1
def np : Nat → Nat
  | 0 => 0
  | p + 1 => if 2 ≤ p ∧ ¬ pm p 17 = 0 then np p + 1 else np p
theorem pm_0a {p k : Nat} (h : pm p k = 0) : nI 0 = pm p (k + 1) := by
  simp only [pm]
  rw [if_pos (Or.inl h)]
theorem pm_0b {p k : Nat} (hk : (2 + k) * (2 + k) ≤ p) (hp : p < 2 ^ 31) (h : nI (p % (2 + k)) = 0) : nI 0 = pm p (k + 1) := by
  have h2 : p % (2 + k) ≤ p := Nat.mod_le _ _
  have h3 : p % (2 + k) = 0 := (nI_eq (by omega) (by decide)).mp h
  simp only [pm]
  rw [if_pos (Or.inr ⟨hk, h3⟩)]
theorem pm_1 {p k : Nat} (h : ¬ pm p k = 0) (h2 : ¬ nI (p % (2 + k)) = 0) : nI 1 = pm p (k + 1) := by
  simp only [pm]
  rw [if_neg]
  rintro (g | ⟨_, g⟩)
  · exact h g
  · exact h2 (by rw [g]; rfl)
theorem pm_all : ∀ p : Fin 312, ∀ k : Fin 17, p.val < (2 + k.val) * (2 + k.val) → pm p.val k.val = pm p.val 17 := by decide +kernel
theorem pm_end {p k : Nat} (hp : p < 312) (hk : k < 17) (h : p < (2 + k) * (2 + k)) : pm p k = pm p 17 := pm_all ⟨p, hp⟩ ⟨k, hk⟩ h
theorem np_le : ∀ p : Fin 313, np p.val ≤ 64 := by decide +kernel
theorem np_312 : np 312 = 64 := by decide +kernel
theorem np_yes {p n : Nat} (h2 : 2 ≤ p) (h : ¬ pm p 17 = 0) (hn : n = np p) : n + 1 = np (p + 1) := by
  show n + 1 = if 2 ≤ p ∧ ¬ pm p 17 = 0 then np p + 1 else np p
  rw [if_pos ⟨h2, h⟩, hn]
theorem np_no {p n : Nat} (h : pm p 17 = 0) (hn : n = np p) : n = np (p + 1) := by
  show n = if 2 ≤ p ∧ ¬ pm p 17 = 0 then np p + 1 else np p
  rw [if_neg (fun g => g.2 h), hn]
def cbQ (p : Nat) : Option Int32 := (cbN p 6 36 0).map rsI
def sqQ (p b : Nat) : Option Int32 := (sqN p (2 * b / 16) (b + 4) 0).map rsI
def okP (p : Nat) : Bool := if 2 ≤ p ∧ ¬ pm p 17 = 0 then decide (cbQ p = some (kC (np p))) && (if np p < 8 then decide (sqQ p 32 = some (wC0 (np p))) else if np p < 16 then decide (sqQ p 64 = some (nC0 (np p - 8))) else true) else true
theorem okP_0 : ∀ p : Fin 40, okP p.val = true := by decide +kernel
theorem okP_1 : ∀ p : Fin 34, okP (p.val + 40) = true := by decide +kernel
theorem okP_2 : ∀ p : Fin 34, okP (p.val + 74) = true := by decide +kernel
theorem okP_3 : ∀ p : Fin 34, okP (p.val + 108) = true := by decide +kernel
theorem okP_4 : ∀ p : Fin 34, okP (p.val + 142) = true := by decide +kernel
theorem okP_5 : ∀ p : Fin 34, okP (p.val + 176) = true := by decide +kernel
theorem okP_6 : ∀ p : Fin 34, okP (p.val + 210) = true := by decide +kernel
theorem okP_7 : ∀ p : Fin 34, okP (p.val + 244) = true := by decide +kernel
theorem okP_8 : ∀ p : Fin 34, okP (p.val + 278) = true := by decide +kernel
theorem okP_all {p : Nat} (h : p < 312) : okP p = true := by
  by_cases h0 : p < 40
  · exact okP_0 ⟨p, h0⟩
  by_cases h1 : p < 74
  · have := okP_1 ⟨p - 40, by omega⟩
    simp only at this
    rwa [show p - 40 + 40 = p by omega] at this
  by_cases h2 : p < 108
  · have := okP_2 ⟨p - 74, by omega⟩
    simp only at this
    rwa [show p - 74 + 74 = p by omega] at this
  by_cases h3 : p < 142
  · have := okP_3 ⟨p - 108, by omega⟩
    simp only at this
    rwa [show p - 108 + 108 = p by omega] at this
  by_cases h4 : p < 176
  · have := okP_4 ⟨p - 142, by omega⟩
    simp only at this
    rwa [show p - 142 + 142 = p by omega] at this
  by_cases h5 : p < 210
  · have := okP_5 ⟨p - 176, by omega⟩
    simp only at this
    rwa [show p - 176 + 176 = p by omega] at this
  by_cases h6 : p < 244
  · have := okP_6 ⟨p - 210, by omega⟩
    simp only at this
    rwa [show p - 210 + 210 = p by omega] at this
  by_cases h7 : p < 278
  · have := okP_7 ⟨p - 244, by omega⟩
    simp only at this
    rwa [show p - 244 + 244 = p by omega] at this
  by_cases h8 : p < 312
  · have := okP_8 ⟨p - 278, by omega⟩
    simp only at this
    rwa [show p - 278 + 278 = p by omega] at this
  omega
theorem map_some {o : Option Nat} {v : Int32} (h : o.map rsI = some v) : ∃ R, o = some R ∧ rsI R = v := by
  cases o with
  | none => cases h
  | some R => exact ⟨R, rfl, Option.some.inj h⟩
theorem okP_c {p n : Nat} (h : p < 312) (h2 : 2 ≤ p) (h3 : ¬ pm p 17 = 0) (hn : n = np p) : (∃ R, cbN p 6 36 0 = some R ∧ rsI R = kC n) ∧ (n < 8 → ∃ R, sqN p (2 * 32 / 16) (32 + 4) 0 = some R ∧ rsI R = wC0 n) ∧ (¬ n < 8 → n < 16 → ∃ R, sqN p (2 * 64 / 16) (64 + 4) 0 = some R ∧ rsI R = nC0 (n - 8)) := by
  have h1 := okP_all h
  unfold okP at h1
  rw [if_pos ⟨h2, h3⟩] at h1
  obtain ⟨a1, a2⟩ := Bool.and_eq_true_iff.mp h1
  subst hn
  refine ⟨map_some (of_decide_eq_true a1), fun h8 => ?_, fun h8 h16 => ?_⟩
  · rw [if_pos h8] at a2
    exact map_some (of_decide_eq_true a2)
  · rw [if_neg h8, if_pos h16] at a2
    exact map_some (of_decide_eq_true a2)
def tb (n : Nat) : Nat → Int32 := fun k => if k < n then kC k else 0
def wb (n : Nat) : Nat → Int32 := fun k => if k < n then wC0 k else 0
def nb (n : Nat) : Nat → Int32 := fun k => if k + 8 < n then nC0 k else 0
theorem gd_out (L : List Int32) (k : Nat) (h : L.length ≤ k) : L.getD k 0 = 0 := by
  rw [List.getD_eq_getElem?_getD, List.getElem?_eq_none h]; rfl
theorem kC_out {k : Nat} (h : 64 ≤ k) : kC k = 0 := gd_out _ _ h
theorem wC_out {k : Nat} (h : 8 ≤ k) : wC0 k = 0 := gd_out _ _ h
theorem nC_out {k : Nat} (h : 8 ≤ k) : nC0 k = 0 := gd_out _ _ h
theorem tb_up (n : Nat) : upd (tb n) n (kC n) = tb (n + 1) := by
  funext k
  unfold upd tb
  by_cases e : k = n
  · rw [if_pos e, if_pos (by omega), e]
  · rw [if_neg e]
    by_cases g : k < n
    · rw [if_pos g, if_pos (by omega)]
    · rw [if_neg g, if_neg (by omega)]
theorem wb_up (n : Nat) : upd (wb n) n (wC0 n) = wb (n + 1) := by
  funext k
  unfold upd wb
  by_cases e : k = n
  · rw [if_pos e, if_pos (by omega), e]
  · rw [if_neg e]
    by_cases g : k < n
    · rw [if_pos g, if_pos (by omega)]
    · rw [if_neg g, if_neg (by omega)]
theorem wb_ge {n : Nat} (h : 8 ≤ n) : wb n = wb (n + 1) := by
  funext k
  unfold wb
  by_cases g : k < n
  · rw [if_pos g, if_pos (by omega)]
  · rw [if_neg g]
    by_cases g2 : k < n + 1
    · rw [if_pos g2, wC_out (by omega)]
    · rw [if_neg g2]
theorem nb_lo {n : Nat} (h : n < 8) : nb n = nb (n + 1) := by
  funext k
  unfold nb
  rw [if_neg (by omega), if_neg (by omega)]
theorem nb_up {n : Nat} (h : 8 ≤ n) : upd (nb n) (n - 8) (nC0 (n - 8)) = nb (n + 1) := by
  funext k
  unfold upd nb
  by_cases e : k = n - 8
  · rw [if_pos e, if_pos (by omega), e]
  · rw [if_neg e]
    by_cases g : k + 8 < n
    · rw [if_pos g, if_pos (by omega)]
    · rw [if_neg g, if_neg (by omega)]
theorem nb_ge {n : Nat} (h : 16 ≤ n) : nb n = nb (n + 1) := by
  funext k
  unfold nb
  by_cases g : k + 8 < n
  · rw [if_pos g, if_pos (by omega)]
  · rw [if_neg g]
    by_cases g2 : k + 8 < n + 1
    · rw [if_pos g2, nC_out (by omega)]
    · rw [if_neg g2]
theorem tb_64 : tb 64 = kC := by
  funext k
  unfold tb
  by_cases g : k < 64
  · rw [if_pos g]
  · rw [if_neg g, kC_out (by omega)]
theorem wb_64 : wb 64 = wC0 := by
  funext k
  unfold wb
  by_cases g : k < 64
  · rw [if_pos g]
  · rw [if_neg g, wC_out (by omega)]
theorem nb_64 : nb 64 = nC0 := by
  funext k
  unfold nb
  by_cases g : k + 8 < 64
  · rw [if_pos g]
  · rw [if_neg g, nC_out (by omega)]
/-- the reference's state in its constructor -/
def cst (a b c : Nat → Int32) (x y z : Nat → Int64) : wS := ((fun _ _ => 0), (fun i => if i = 1 then a else if i = 2 then b else if i = 3 then c else fun _ => 0), (fun i => if i = 4 then x else if i = 5 then y else if i = 6 then z else fun _ => 0))
theorem cst_1 (a b c : Nat → Int32) (x y z : Nat → Int64) (f : Nat → Int32) : sB (cst a b c x y z) 1 f = cst f b c x y z := by
  simp only [cst, sB, Prod.mk.injEq, true_and, and_true]
  funext j
  simp only [va_up]
  by_cases h1 : j = 1
  · subst h1; rfl
  · rw [if_neg h1, if_neg h1, if_neg h1]
theorem cst_2 (a b c : Nat → Int32) (x y z : Nat → Int64) (f : Nat → Int32) : sB (cst a b c x y z) 2 f = cst a f c x y z := by
  simp only [cst, sB, Prod.mk.injEq, true_and, and_true]
  funext j
  simp only [va_up]
  by_cases h1 : j = 2
  · subst h1; rfl
  · rw [if_neg h1, if_neg h1, if_neg h1]
theorem cst_3 (a b c : Nat → Int32) (x y z : Nat → Int64) (f : Nat → Int32) : sB (cst a b c x y z) 3 f = cst a b f x y z := by
  simp only [cst, sB, Prod.mk.injEq, true_and, and_true]
  funext j
  simp only [va_up]
  by_cases h1 : j = 3
  · subst h1; rfl
  · rw [if_neg h1, if_neg h1, if_neg h1]
theorem cst_j (a b c : Nat → Int32) (x y z x2 y2 z2 : Nat → Int64) : jst (cst a b c x y z) x2 y2 z2 = cst a b c x2 y2 z2 := by
  simp only [cst, jst, Prod.mk.injEq, true_and]
  funext j
  by_cases h4 : j = 4
  · simp only [h4, if_true]
  · by_cases h5 : j = 5
    · simp only [h4, h5, if_true, if_false]
    · by_cases h6 : j = 6
      · simp only [h4, h5, h6, if_true, if_false]
      · simp only [h4, h5, h6, if_false]
theorem cst_Z : Z0 = cst (tb 0) (wb 0) (nb 0) (fun _ => 0) (fun _ => 0) (fun _ => 0) := by
  simp only [cst, Z0, Prod.mk.injEq, true_and]
  constructor
  · funext j
    by_cases h1 : j = 1
    · rw [if_pos h1]; funext k; unfold tb; rw [if_neg (by omega)]
    · by_cases h2 : j = 2
      · rw [if_neg h1, if_pos h2]; funext k; unfold wb; rw [if_neg (by omega)]
      · by_cases h3 : j = 3
        · rw [if_neg h1, if_neg h2, if_pos h3]; funext k; unfold nb; rw [if_neg (by omega)]
        · rw [if_neg h1, if_neg h2, if_neg h3]
  · funext j
    by_cases h4 : j = 4
    · rw [if_pos h4]
    · by_cases h5 : j = 5
      · rw [if_neg h4, if_pos h5]
      · by_cases h6 : j = 6
        · rw [if_neg h4, if_neg h5, if_pos h6]
        · rw [if_neg h4, if_neg h5, if_neg h6]
theorem tyM_of {D : va_G} {cl : List vw_C} {cy : Nat → ClassId} {s : State} (h : va_K D cl (tyC cy) s) : va_K D cl (tyM cy) s := h.sub [0, 1, 2] rfl
theorem d_lt {k p : Nat} (h : (2 + k) * (2 + k) ≤ p) (hp : p < 312) : k < 16 := by
  rcases Nat.lt_or_ge k 16 with g | g
  · exact g
  · have := Nat.mul_le_mul (show 18 ≤ 2 + k by omega) (show 18 ≤ 2 + k by omega)
    omega
theorem d_le {k : Nat} (h : k ≤ 16) : (2 + k) * (2 + k) ≤ 324 := Nat.mul_le_mul (show 2 + k ≤ 18 by omega) (show 2 + k ≤ 18 by omega)
