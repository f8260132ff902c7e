/-- r bytes shifted into the word x -/
def pwv (x : Int32) (g : Nat → Int32) (k : Nat) : Nat → Int32
  | 0 => x
  | r + 1 => (pwv x g k r <<< (nI 8 &&& 31)) ||| g (k + r)
theorem shl_bv (x : Int32) (k : Nat) (hk : k < 32) : (x <<< (nI k &&& 31)).toBitVec = x.toBitVec <<< k := by
  have h : ∀ k : Fin 32, ((nI k.val &&& 31).toBitVec.smod 32).toNat = k.val := by decide
  rw [Int32.toBitVec_shiftLeft]
  have h2 := h ⟨k, hk⟩
  rw [BitVec.shiftLeft_eq', show ((nI k &&& 31).toBitVec.smod 32).toNat = k from h2]
theorem pwv4 (x : Int32) (g : Nat → Int32) (k : Nat) : pwv x g k 4 = wrd g k := by
  unfold wrd
  simp only [pwv]
  apply Int32.toBitVec_inj.mp
  simp only [Int32.toBitVec_or, shl_bv _ 8 (by decide), shl_bv _ 16 (by decide), shl_bv _ 24 (by decide)]
  apply BitVec.eq_of_getLsbD_eq
  intro i hi
  simp only [BitVec.getLsbD_or, BitVec.getLsbD_shiftLeft]
  by_cases h1 : i < 8
  · simp [h1, show i < 16 by omega, show i < 24 by omega]
  · by_cases h2 : i < 16
    · simp [h1, h2, show i < 24 by omega, show i - 8 < 8 by omega, show i < 32 by omega, show i - 8 < 32 by omega]
    · by_cases h3 : i < 24
      · simp [h1, h2, h3, show ¬ i - 8 < 8 by omega, show i - 8 - 8 < 8 by omega, show i < 32 by omega, show i - 8 < 32 by omega, show i - 8 - 8 < 32 by omega, show i - 8 - 8 = i - 16 by omega, show i - 16 < 8 by omega]
      · simp [h1, h2, h3, show ¬ i - 8 < 8 by omega, show ¬ i - 8 - 8 < 8 by omega, show i - 8 - 8 - 8 < 8 by omega, show i < 32 by omega, show i - 8 < 32 by omega, show i - 8 - 8 < 32 by omega, show i - 8 - 8 - 8 < 32 by omega, show i - 8 - 8 = i - 16 by omega, show i - 8 - 8 - 8 = i - 24 by omega, show i - 16 - 8 = i - 24 by omega, show ¬ i - 16 < 8 by omega, show i - 16 < 32 by omega, show i - 24 < 8 by omega, show i - 24 < 32 by omega]
/-- a mill that has taken n bytes g, from h0 on -/
def MI (S : wS) (h0 g : Nat → Int32) (n : Nat) : Prop := S.1 0 2 = nI (n % 64) ∧ S.1 0 4 = nI (n / 64) ∧ (∀ j, j < 8 → S.2.1 1 j = (bks kC g h0 (fun _ => 0) (n / 64)).1 j) ∧ (∀ t, 4 * t + 4 ≤ n % 64 → S.2.1 2 t = wrd g (64 * (n / 64) + 4 * t)) ∧ (∃ x, S.2.1 2 (n % 64 / 4) = pwv x g (64 * (n / 64) + 4 * (n % 64 / 4)) (n % 4)) ∧ (n % 64 = 0 → 0 < n → ∀ t, t < 64 → S.2.1 2 t = (bks kC g h0 (fun _ => 0) (n / 64)).2 t)
theorem pwv_cg {g g' : Nat → Int32} {x : Int32} {k r : Nat} (h : ∀ i, i < r → g (k + i) = g' (k + i)) : pwv x g k r = pwv x g' k r := by
  induction r with
  | zero => rfl
  | succ r ih => simp only [pwv]; rw [ih (fun i hi => h i (by omega)), h r (by omega)]
theorem MI.cg {S : wS} {h0 g g' : Nat → Int32} {n : Nat} (h : MI S h0 g n) (hg : ∀ j, j < n → g j = g' j) : MI S h0 g' n := by
  obtain ⟨a1, a2, a3, a4, ⟨x, a5⟩, a6⟩ := h
  have hb := bks_cg (K := kC) (K' := kC) (g := g) (g' := g') (h := h0) (h' := h0) (w := fun _ => 0) (w' := fun _ => 0) (fun _ _ => rfl) (fun _ _ => rfl) (n / 64) (fun j hj => hg j (by omega)) (n / 64) (Nat.le_refl _)
  refine ⟨a1, a2, fun j hj => (a3 j hj).trans (hb.1 j hj), fun t ht => ?_, ⟨x, ?_⟩, fun e1 e2 t ht => (a6 e1 e2 t ht).trans (hb.2 (by omega) t ht)⟩
  · rw [a4 t ht]
    unfold wrd
    rw [hg _ (by omega), hg _ (by omega), hg _ (by omega), hg _ (by omega)]
  · rw [a5]
    exact pwv_cg (fun i hi => hg _ (by omega))
theorem mpt_MI {S : wS} {h0 g : Nat → Int32} {n : Nat} {b : Int32} (h : MI S h0 g n) (hb : b &&& nI 255 = g n) : MI (mpt S (n % 64) (n / 64) b) h0 g (n + 1) := by
  obtain ⟨a1, a2, a3, a4, ⟨x, a5⟩, a6⟩ := h
  have hp : pW (S.2.1 2) (n % 64) b (n % 64 / 4) = pwv x g (64 * (n / 64) + 4 * (n % 64 / 4)) (n % 4 + 1) := by
    unfold pW
    rw [pk_us, a5, hb]
    simp only [pwv]
    congr 2
    omega
  unfold mpt
  by_cases hc : n % 64 + 1 = 64
  · rw [if_pos hc]
    have e1 : (n + 1) % 64 = 0 := by omega
    have e2 : (n + 1) / 64 = n / 64 + 1 := by omega
    have hw : ∀ t, t < 16 → pW (S.2.1 2) (n % 64) b t = wfl ((bks kC g h0 (fun _ => 0) (n / 64)).2) g (64 * (n / 64)) 16 t := by
      intro t ht
      rw [wfl_at, if_pos ht]
      by_cases e : t = n % 64 / 4
      · subst e
        rw [hp, show n % 4 + 1 = 4 by omega, pwv4]
      · unfold pW
        rw [pk_un e]
        exact a4 t (by omega)
    have hs : ∀ t, t < 64 → schN (pW (S.2.1 2) (n % 64) b) 48 t = wBlk ((bks kC g h0 (fun _ => 0) (n / 64)).2) g (64 * (n / 64)) t := fun t ht => schN_cg hw 48 t (by omega)
    refine ⟨by rw [e1]; rfl, by rw [e2]; rfl, fun j hj => ?_, fun t ht => absurd ht (by omega), ⟨_, by rw [show (n + 1) % 4 = 0 by omega]; rfl⟩, fun _ _ t ht => ?_⟩
    · rw [e2]
      show cmpB kC (S.2.1 1) (schN (pW (S.2.1 2) (n % 64) b) 48) j = _
      exact cmpB_cg (fun _ _ => rfl) hs a3 j hj
    · rw [e2]
      show schN (pW (S.2.1 2) (n % 64) b) 48 t = _
      exact hs t ht
  · rw [if_neg hc]
    have e1 : (n + 1) % 64 = n % 64 + 1 := by omega
    have e2 : (n + 1) / 64 = n / 64 := by omega
    have ew : (sI (sB S 2 (pW (S.2.1 2) (n % 64) b)) 0 2 (nI (n % 64 + 1))).2.1 2 = pW (S.2.1 2) (n % 64) b := rfl
    refine ⟨by rw [e1]; rfl, by rw [e2]; exact a2, fun j hj => by rw [e2]; exact a3 j hj, fun t ht => ?_, ?_, fun h9 => absurd h9 (by omega)⟩
    · rw [ew, e2]
      by_cases e : t = n % 64 / 4
      · subst e
        rw [hp, show n % 4 + 1 = 4 by omega, pwv4]
      · unfold pW
        rw [pk_un e]
        exact a4 t (by omega)
    · rw [ew, e1, e2]
      by_cases e : (n % 64 + 1) / 4 = n % 64 / 4
      · rw [e]
        exact ⟨x, by rw [hp, show (n + 1) % 4 = n % 4 + 1 by omega]⟩
      · exact ⟨_, by rw [show (n + 1) % 4 = 0 by omega]; rfl⟩
theorem mpt_I (S : wS) (fl bl : Nat) (b : Int32) : (mpt S fl bl b).1 0 3 = S.1 0 3 := by
  unfold mpt; split <;> rfl
theorem mpt_o (S : wS) (fl bl : Nat) (b : Int32) (i : Nat) (hi : 3 ≤ i) : (mpt S fl bl b).1 i = S.1 i ∧ (mpt S fl bl b).2.1 i = S.2.1 i ∧ (mpt S fl bl b).2.2 i = S.2.2 i := by
  unfold mpt mwk
  split <;> simp [sI, sB, va_up, show i ≠ 0 by omega, show i ≠ 1 by omega, show i ≠ 2 by omega]
/-- .. and what else stands beside it is as in S0 -/
def MJ (S0 S : wS) (h0 g : Nat → Int32) (n : Nat) : Prop := MI S h0 g n ∧ S.1 0 3 = S0.1 0 3 ∧ ∀ i, 3 ≤ i → S.1 i = S0.1 i ∧ S.2.1 i = S0.2.1 i ∧ S.2.2 i = S0.2.2 i
theorem MJ.put {S0 S : wS} {h0 g : Nat → Int32} {n : Nat} {b : Int32} (h : MJ S0 S h0 g n) (hb : b &&& nI 255 = g n) : MJ S0 (mpt S (n % 64) (n / 64) b) h0 g (n + 1) :=
  ⟨mpt_MI h.1 hb, (mpt_I _ _ _ _).trans h.2.1, fun i hi => by
    obtain ⟨e1, e2, e3⟩ := mpt_o S (n % 64) (n / 64) b i hi
    obtain ⟨f1, f2, f3⟩ := h.2.2 i hi
    exact ⟨e1.trans f1, e2.trans f2, e3.trans f3⟩⟩
theorem MJ.cg {S0 S : wS} {h0 g g' : Nat → Int32} {n : Nat} (h : MJ S0 S h0 g n) (hg : ∀ j, j < n → g j = g' j) : MJ S0 S h0 g' n := ⟨h.1.cg hg, h.2⟩
/-- behind Mill.begin -/
def mbg (S : wS) (xs : Nat → Int32) : wS := sI (sI (sI (sB S 1 (va_cpy xs (S.2.1 1) 0 0 8)) 0 2 (nI 0)) 0 3 (nI 0)) 0 4 (nI 0)
theorem mbg_MI (S : wS) (xs g : Nat → Int32) : MI (mbg S xs) xs g 0 := by
  refine ⟨rfl, rfl, fun j hj => ?_, fun t ht => absurd ht (by omega), ⟨_, rfl⟩, fun _ h => absurd h (Nat.lt_irrefl 0)⟩
  show va_cpy xs (S.2.1 1) 0 0 8 j = xs j
  rw [pk_cpy_in (by omega) (by omega)]
  congr 1
  omega
theorem i8i8 (z : Int32) : z.toInt8.toInt32.toInt8.toInt32 = z.toInt8.toInt32 := by simp
/-- byte k of the words h, with sign -/
def sbH (h : Nat → Int32) (k : Nat) : Int32 := (ushr (h (k / 4)) (24 - 8 * (k % 4))).toInt8.toInt32
theorem padM_lo (g : Nat → Int32) (n j : Nat) (h : j < n) : padM g n j = g j := by
  unfold padM
  simp only [upd]
  repeat rw [if_neg (by omega)]
  rw [pts_at, if_neg (by omega)]
  exact if_neg (by omega)
theorem l2i255 (x : Int64) : x.toInt32 &&& nI 255 = (x &&& 255).toInt32 := by
  apply Int32.toBitVec_inj.mp
  have h : (nI 255).toBitVec = (255 : Int64).toBitVec.setWidth 32 := by decide
  rw [Int32.toBitVec_and, h]
  simp only [Int64.toBitVec_toInt32, Int64.toBitVec_and]
  apply BitVec.eq_of_getLsbD_eq
  intro i hi
  simp [BitVec.getLsbD_and, BitVec.getLsbD_setWidth]
theorem padM_at0 (g : Nat → Int32) (n : Nat) : nI 128 &&& nI 255 = padM g n n := by
  unfold padM
  simp only [upd]
  repeat rw [if_neg (by omega)]
  rw [pts_at, if_neg (by omega)]
  rw [pk_us]
  decide
theorem padM_atz (g : Nat → Int32) (n k : Nat) (hk : k < padZ n) : nI 0 &&& nI 255 = padM g n (n + 1 + k) := by
  unfold padM
  simp only [upd]
  repeat rw [if_neg (by omega)]
  rw [pts_at, if_pos (by omega)]
  decide
theorem padM_atl0 (g : Nat → Int32) (n : Nat) : ((((8) * (nI n).toInt64).toUInt64 >>> ((nI 56).toInt64.toUInt64 &&& Int64.toUInt64 63)).toInt64).toInt32 &&& nI 255 = padM g n (n + 1 + padZ n) := by
  rw [l2i255]
  unfold padM
  simp only [upd]
  repeat rw [if_neg (by omega)]
  rw [if_pos trivial]
  rfl
theorem padM_atl1 (g : Nat → Int32) (n : Nat) : ((((8) * (nI n).toInt64).toUInt64 >>> ((nI 48).toInt64.toUInt64 &&& Int64.toUInt64 63)).toInt64).toInt32 &&& nI 255 = padM g n (n + 1 + padZ n + 1) := by
  rw [l2i255]
  unfold padM
  simp only [upd]
  repeat rw [if_neg (by omega)]
  rw [if_pos trivial]
  rfl
theorem padM_atl2 (g : Nat → Int32) (n : Nat) : ((((8) * (nI n).toInt64).toUInt64 >>> ((nI 40).toInt64.toUInt64 &&& Int64.toUInt64 63)).toInt64).toInt32 &&& nI 255 = padM g n (n + 1 + padZ n + 1 + 1) := by
  rw [l2i255]
  unfold padM
  simp only [upd]
  repeat rw [if_neg (by omega)]
  rw [if_pos trivial]
  rfl
theorem padM_atl3 (g : Nat → Int32) (n : Nat) : ((((8) * (nI n).toInt64).toUInt64 >>> ((nI 32).toInt64.toUInt64 &&& Int64.toUInt64 63)).toInt64).toInt32 &&& nI 255 = padM g n (n + 1 + padZ n + 1 + 1 + 1) := by
  rw [l2i255]
  unfold padM
  simp only [upd]
  repeat rw [if_neg (by omega)]
  rw [if_pos trivial]
  rfl
theorem padM_atl4 (g : Nat → Int32) (n : Nat) : ((((8) * (nI n).toInt64).toUInt64 >>> ((nI 24).toInt64.toUInt64 &&& Int64.toUInt64 63)).toInt64).toInt32 &&& nI 255 = padM g n (n + 1 + padZ n + 1 + 1 + 1 + 1) := by
  rw [l2i255]
  unfold padM
  simp only [upd]
  repeat rw [if_neg (by omega)]
  rw [if_pos trivial]
  rfl
theorem padM_atl5 (g : Nat → Int32) (n : Nat) : ((((8) * (nI n).toInt64).toUInt64 >>> ((nI 16).toInt64.toUInt64 &&& Int64.toUInt64 63)).toInt64).toInt32 &&& nI 255 = padM g n (n + 1 + padZ n + 1 + 1 + 1 + 1 + 1) := by
  rw [l2i255]
  unfold padM
  simp only [upd]
  repeat rw [if_neg (by omega)]
  rw [if_pos trivial]
  rfl
theorem padM_atl6 (g : Nat → Int32) (n : Nat) : ((((8) * (nI n).toInt64).toUInt64 >>> ((nI 8).toInt64.toUInt64 &&& Int64.toUInt64 63)).toInt64).toInt32 &&& nI 255 = padM g n (n + 1 + padZ n + 1 + 1 + 1 + 1 + 1 + 1) := by
  rw [l2i255]
  unfold padM
  simp only [upd]
  repeat rw [if_neg (by omega)]
  rw [if_pos trivial]
  rfl
theorem padM_atl7 (g : Nat → Int32) (n : Nat) : ((((8) * (nI n).toInt64).toUInt64 >>> ((nI 0).toInt64.toUInt64 &&& Int64.toUInt64 63)).toInt64).toInt32 &&& nI 255 = padM g n (n + 1 + padZ n + 1 + 1 + 1 + 1 + 1 + 1 + 1) := by
  rw [l2i255]
  unfold padM
  simp only [upd]
  repeat rw [if_neg (by omega)]
  rw [if_pos trivial]
  rfl
