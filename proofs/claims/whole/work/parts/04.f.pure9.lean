/-- the mill's cells from S2, the others from S -/
def mgS (S S2 : wS) : wS := ((fun i => if i < 3 then S2.1 i else S.1 i), (fun i => if i < 3 then S2.2.1 i else S.2.1 i), S.2.2)
/-- cells from 3 on are as they were -/
def oth (S T : wS) : Prop := ∀ i, 3 ≤ i → T.1 i = S.1 i ∧ T.2.1 i = S.2.1 i
theorem oth.rf (S : wS) : oth S S := fun _ _ => ⟨rfl, rfl⟩
theorem oth.mg {S T : wS} (h : oth S T) (S2 : wS) : oth S (mgS T S2) := fun i hi => by
  obtain ⟨h1, h2⟩ := h i hi
  exact ⟨by rw [← h1]; exact if_neg (by omega), by rw [← h2]; exact if_neg (by omega)⟩
/-- cell k of the small world: the mill's three, then cell c -/
def fM (c : Nat) : Nat → Nat := fun k => if k < 3 then k else c
/-- the small world's numbers -/
def sM (S : wS) (c : Nat) : wS := ((fun k => S.1 (fM c k)), (fun k => S.2.1 (fM c k)), (fun k => S.2.2 (fM c k)))
section SM
variable {n : Nat} {cy : Nat → ClassId} {ad : Nat → Nat} {sk : Nat → wK} {S S2 : wS} {len c : Nat}
/-- a mill at cells 0, 1, 2 -/
def hasM (sk : Nat → wK) : Prop := sk 0 = skMi 0 0 ∧ sk 1 = skMi 0 1 ∧ sk 2 = skMi 0 2
theorem wC_sk {cy : Nat → ClassId} {ad ad2 : Nat → Nat} {sk sk2 : Nat → wK} {S S2 : wS} {i k : Nat} (h : sk i = sk2 k) (h1 : S.1 i = S2.1 k) (h2 : S.2.1 i = S2.2.1 k) (h3 : S.2.2 i = S2.2.2 k) (ha : ∀ ci fs, sk2 k = .inl (ci, fs) → ∀ t, some t ∈ fs → ad t = ad2 t) (hr : ∀ kd len g, sk2 k = .inr (kd, len, g) → kd ≤ 2) : wC cy ad sk S i = wC cy ad2 sk2 S2 k := by
  unfold wC
  rw [h, h1, h2, h3]
  cases e : sk2 k with
  | inl q =>
    dsimp only
    congr 2
    unfold wFs
    apply List.ext_getElem?
    intro j
    rw [List.getElem?_mapIdx, List.getElem?_mapIdx]
    cases e2 : q.2[j]? with
    | none => rfl
    | some o =>
      cases o with
      | none => rfl
      | some t =>
        have := ha q.1 q.2 e t (List.mem_of_getElem? e2)
        simp [wFv, this]
  | inr q =>
    dsimp only
    have hk := hr q.1 q.2.1 q.2.2 e
    by_cases h9 : q.1 = 2
    · rw [if_pos h9, if_pos h9]
    · rw [if_neg h9, if_neg h9, if_pos (by omega), if_pos (by omega)]
theorem m0 : ∀ ci fs, skMi len 0 = .inl (ci, fs) → ∀ t, some t ∈ fs → t = 1 ∨ t = 2 := by
  intro ci fs h t ht
  cases h
  simp at ht
  omega
theorem mW {cy : Nat → ClassId} {ad ad2 : Nat → Nat} {sk : Nat → wK} {S S2 : wS} (hm : hasM sk) (ha : ∀ t, t < 3 → ad2 t = ad t) (h1 : ∀ k, k < 3 → S2.1 k = S.1 k) (h2 : ∀ k, k < 3 → S2.2.1 k = S.2.1 k) (k : Nat) (hk : k < 3) : wC cy ad2 (skMi len) S2 k = wC cy ad sk S k := by
  have hs : skMi len k = sk k := by
    rcases (show k = 0 ∨ k = 1 ∨ k = 2 by omega) with rfl | rfl | rfl
    · exact hm.1.symm
    · exact hm.2.1.symm
    · exact hm.2.2.symm
  unfold wC
  rw [hs, h1 k hk, h2 k hk]
  rcases (show k = 0 ∨ k = 1 ∨ k = 2 by omega) with rfl | rfl | rfl
  · rw [hm.1]
    show (Sum.inr (5, [Value.ref (ad2 1), Value.ref (ad2 2), _, _, _]) : va_E) = _
    rw [ha 1 (by decide), ha 2 (by decide)]
    rfl
  · rw [hm.2.1]; rfl
  · rw [hm.2.2]; rfl
theorem sub3A (hm : hasM sk) (hn : 3 ≤ n) : SubA n cy ad sk S 3 ad (skMi 0) S id :=
  ⟨fun k hk => ⟨by show k < n; omega, rfl, mW hm (fun _ _ => rfl) (fun _ _ => rfl) (fun _ _ => rfl) k hk⟩, fun _ _ _ _ h => h⟩
theorem sub3T (hm : hasM sk) (S2' : wS) : SubT n cy ad sk S 3 ad (skMi 0) S2' id (mgS S S2') :=
  ⟨fun k hk => (mW hm (fun _ _ => rfl) (fun k hk => (if_pos hk).symm) (fun k hk => (if_pos hk).symm) k hk).symm, fun i _ hn => by
    have h3 : ¬ i < 3 := fun h => hn i h rfl
    exact wC_congr (if_neg h3) (if_neg h3) rfl⟩
theorem sub4A (hm : hasM sk) (hc3 : 3 ≤ c) (hcn : c < n) {g : Nat → Option Nat} (hc : sk c = .inr (1, len, g)) : SubA n cy ad sk S 4 (fun k => ad (fM c k)) (skMi len) (sM S c) (fM c) := by
  refine ⟨fun k hk => ?_, fun k k' hk hk' h => ?_⟩
  · by_cases h3 : k < 3
    · have e : fM c k = k := if_pos h3
      refine ⟨by rw [e]; omega, rfl, ?_⟩
      rw [e]
      exact mW hm (fun t ht => by show ad (fM c t) = ad t; rw [show fM c t = t from if_pos ht]) (fun k hk => by show S.1 (fM c k) = _; rw [show fM c k = k from if_pos hk]) (fun k hk => by show S.2.1 (fM c k) = _; rw [show fM c k = k from if_pos hk]) k h3
    · have e : fM c k = c := if_neg h3
      refine ⟨by rw [e]; exact hcn, rfl, ?_⟩
      obtain rfl : k = 3 := by omega
      rw [e, wC_i hc (by decide)]
      show wC cy _ (skMi len) (sM S c) 3 = _
      rw [wC_i (g := fun _ => none) rfl (by decide)]
      rfl
  · unfold fM at h
    split at h <;> split at h <;> omega
theorem sub4T (hm : hasM sk) (hc3 : 3 ≤ c) {g : Nat → Option Nat} (hc : sk c = .inr (1, len, g)) {S2' T : wS} (h1 : ∀ k, k < 3 → S2'.1 k = T.1 k) (h2 : ∀ k, k < 3 → S2'.2.1 k = T.2.1 k) (h4 : T.2.1 c = S2'.2.1 3) (ho : ∀ i, 3 ≤ i → i ≠ c → T.1 i = S.1 i ∧ T.2.1 i = S.2.1 i ∧ T.2.2 i = S.2.2 i) : SubT n cy ad sk S 4 (fun k => ad (fM c k)) (skMi len) S2' (fM c) T := by
  refine ⟨fun k hk => ?_, fun i _ hn => ?_⟩
  · by_cases h3 : k < 3
    · have e : fM c k = k := if_pos h3
      rw [e]
      exact (mW hm (fun t ht => by show ad (fM c t) = ad t; rw [show fM c t = t from if_pos ht]) h1 h2 k h3).symm
    · have e : fM c k = c := if_neg h3
      obtain rfl : k = 3 := by omega
      rw [e, wC_i hc (by decide), wC_i (g := fun _ => none) rfl (by decide), h4]
  · have h3 : ¬ i < 3 := fun h => hn i (by omega) (if_pos h)
    have hci : i ≠ c := fun h => hn 3 (by decide) (by rw [h]; rfl)
    obtain ⟨e1, e2, e3⟩ := ho i (by omega) hci
    exact wC_congr e1 e2 e3
end SM
theorem mg_MI {S X : wS} {h0 g : Nat → Int32} {n : Nat} (h : MI X h0 g n) : MI (mgS S X) h0 g n := h
def skLf : Nat → wK := fun i => match i with
  | 3 => .inl (3, [some 4, none])
  | 4 => .inr (1, 200, fun _ => none)
  | i => skMi 32 i
theorem hM_lf : hasM skLf := ⟨rfl, rfl, rfl⟩
theorem hM_mi (len : Nat) : hasM (skMi len) := ⟨rfl, rfl, rfl⟩
/-- bytes without sign -/
def ub (f : Nat → Int32) : Nat → Int32 := fun j => f j &&& nI 255
theorem and255 (x : Int32) : (x &&& nI 255) &&& nI 255 = x &&& nI 255 := by
  rw [Int32.and_assoc]; congr 1
theorem nand255 {k : Nat} (h : k < 256) : nI k &&& nI 255 = nI k := by
  have h1 := pk_andN (n := k) (m := nI 255) (by omega) 8 (by decide)
  rw [h1]; congr 1; exact Nat.mod_eq_of_lt (by omega)
/-- what a finished mill holds -/
theorem MI.fin {S : wS} {h0 g : Nat → Int32} {n : Nat} (h : MI S h0 (padM g n) (padL n)) : (∀ j, j < 8 → S.2.1 1 j = shaC kC h0 g n j) ∧ (∀ t, t < 64 → S.2.1 2 t = shaW kC h0 g n t) ∧ S.1 0 4 = nI (padL n / 64) := by
  have hp := padL_64 n
  exact ⟨h.2.2.1, h.2.2.2.2.2 (by omega) (by omega), h.2.1⟩
theorem sbH_cg {h h' : Nat → Int32} (hh : ∀ j, j < 8 → h j = h' j) (k : Nat) (hk : k < 32) : sbH h k = sbH h' k := by
  unfold sbH; rw [hh (k / 4) (by omega)]
/-- 1, 32 bytes, 32 bytes (given with sign) -/
def prU (f g : Nat → Int32) : Nat → Int32 := fun j => if j = 0 then nI 1 else if j < 33 then ub f (j - 1) else ub g (j - 33)
theorem prU_l (f g : Nat → Int32) (k : Nat) (hk : k < 32) : prU f g (0 + 1 + k) = f k &&& nI 255 := by
  unfold prU
  rw [if_neg (by omega), if_pos (by omega)]
  unfold ub
  congr 2
  omega
theorem prU_r (f g : Nat → Int32) (k : Nat) (_hk : k < 32) : prU f g (0 + 1 + 32 + k) = g k &&& nI 255 := by
  unfold prU
  rw [if_neg (by omega), if_neg (by omega)]
  unfold ub
  congr 2
  omega
/-- 2, how many, 32 bytes -/
def rtU (x : Int32) (f : Nat → Int32) : Nat → Int32 := fun j => if j = 0 then nI 2 else if j = 1 then x else ub f (j - 2)
theorem rtU_at (x : Int32) (f : Nat → Int32) (k : Nat) : rtU x f (0 + 1 + 1 + k) = f k &&& nI 255 := by
  unfold rtU
  rw [if_neg (by omega), if_neg (by omega)]
  unfold ub
  congr 2
  omega
theorem lfB_at (x y : Int32) (f : Nat → Int32) (k : Nat) : lfB x y f (0 + 1 + 1 + 1 + k) = f k := by
  unfold lfB
  rw [if_neg (by omega), if_neg (by omega), if_neg (by omega)]
  have : 0 + 1 + 1 + 1 + k - 3 = k := by omega
  rw [this]
