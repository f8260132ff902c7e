/-! A message on its way: sort k, lock lk, blocks bl of its key, n bytes g so far -/
def hB (k : Nat) : Nat → Int32 := if k = 1 then nC0 else wC0
def kyG (lk g : Nat → Int32) : Nat → Int32 := fun i => if i < 64 then (lk i ^^^ nI 54) &&& nI 255 else g (i - 64)
def MO (X : wS) (k : Nat) (lk : Nat → Int32) (bl : Nat) (g : Nat → Int32) (n : Nat) : Prop := X.1 3 4 = nI k ∧ X.1 3 6 = nI bl ∧ X.1 3 5 = nI n ∧ ((k ≠ 2 ∧ MI X (hB k) g n ∧ X.1 0 3 = nI n) ∨ (k = 2 ∧ MI X wC0 (kyG lk g) (64 + n) ∧ X.1 0 3 = nI (64 + n) ∧ ∀ i, i < 64 → X.2.1 4 i = lk i))
/-- g, then the bytes f behind n -/
def ext (g : Nat → Int32) (n : Nat) (f : Nat → Int32) : Nat → Int32 := fun i => if i < n then g i else ub f (i - n)
theorem MI.sm {X Y : wS} {h0 g : Nat → Int32} {n : Nat} (h : MI X h0 g n) (h1 : Y.1 0 = X.1 0) (h2 : Y.2.1 1 = X.2.1 1) (h3 : Y.2.1 2 = X.2.1 2) : MI Y h0 g n := by
  unfold MI at *
  rw [h1, h2, h3]
  exact h
theorem MO.sm {X Y : wS} {k : Nat} {lk : Nat → Int32} {bl : Nat} {g : Nat → Int32} {n : Nat} (h : MO X k lk bl g n) (h0 : ∀ i, i < 6 → Y.1 i = X.1 i ∧ Y.2.1 i = X.2.1 i) : MO Y k lk bl g n := by
  unfold MO at *
  rw [(h0 3 (by decide)).1, (h0 0 (by decide)).1, (h0 4 (by decide)).2]
  refine ⟨h.1, h.2.1, h.2.2.1, ?_⟩
  rcases h.2.2.2 with ⟨a, b, c⟩ | ⟨a, b, c⟩
  · exact Or.inl ⟨a, b.sm (h0 0 (by decide)).1 (h0 1 (by decide)).2 (h0 2 (by decide)).2, c⟩
  · exact Or.inr ⟨a, b.sm (h0 0 (by decide)).1 (h0 1 (by decide)).2 (h0 2 (by decide)).2, c⟩
/-- behind begin, sorts 0 and 1 -/
def bgB (P : wS) (k : Nat) : wS := sI (sI (sI P 3 4 (nI k)) 3 5 (nI 0)) 3 6 (nI 0)
theorem bg01 (P : wS) (k : Nat) (xs lk g : Nat → Int32) (hk : hB k = xs) (h2 : k ≠ 2) : MO (mgS (bgB P k) (mbg (bgB P k) xs)) k lk 0 g 0 ∧ (∀ i, 6 ≤ i → (mgS (bgB P k) (mbg (bgB P k) xs)).1 i = P.1 i ∧ (mgS (bgB P k) (mbg (bgB P k) xs)).2.1 i = P.2.1 i) ∧ (mgS (bgB P k) (mbg (bgB P k) xs)).1 3 3 = P.1 3 3 := by
  refine ⟨⟨rfl, rfl, rfl, Or.inl ⟨h2, by rw [hk]; exact mg_MI (mbg_MI _ _ _), rfl⟩⟩, fun i hi => ⟨?_, ?_⟩, rfl⟩
  · show (if i < 3 then _ else (bgB P k).1 i) = P.1 i
    rw [if_neg (by omega)]
    simp [bgB, sI, va_up, show i ≠ 3 by omega]
  · show (if i < 3 then _ else (bgB P k).2.1 i) = P.2.1 i
    rw [if_neg (by omega)]
    rfl
/-- the lock that a key of ks bytes makes; the blocks that it took -/
def lk0 (ks : Nat) (key : Nat → Int32) : Nat → Int32 := fun i => if ks ≤ 64 then (if i < ks then key i else 0) else if i < 32 then sbH (shaC kC wC0 (ub key) (0 + ks)) i else 0
def lkQ (ks : Nat) : Nat := if ks ≤ 64 then 0 else 0 + padL (0 + ks) / 64
theorem mlP_sum {B S2 : wS} {ks : Nat} (h6 : B.1 3 6 = nI 0) (h : mlP B ks 0 S2) : (∀ i, i < 64 → S2.2.1 4 i = lk0 ks (B.2.1 7) i) ∧ S2.1 3 6 = nI (lkQ ks) ∧ (∀ k, k ≠ 6 → S2.1 3 k = B.1 3 k) ∧ (∀ i, 4 ≤ i → S2.1 i = B.1 i) ∧ ∀ i, 5 ≤ i → S2.2.1 i = B.2.1 i := by
  rcases h with ⟨hk, rfl⟩ | ⟨hk, T, hO, hI, rfl⟩
  · refine ⟨fun i hi => ?_, ?_, fun _ _ => rfl, fun _ _ => rfl, fun i hi => ?_⟩
    · show va_cpy (B.2.1 7) (cps (B.2.1 4) (fun _ => (nI (0)).toInt8.toInt32) 64) 0 0 ks i = _
      unfold lk0
      rw [if_pos hk]
      by_cases h : i < ks
      · rw [pk_cpy_in (by omega) (by omega), if_pos h, show 0 + (i - 0) = i by omega]
      · rw [pk_cpy_out (by omega), if_neg h, cps_at, if_pos hi, z8]
    · unfold lkQ; rw [if_pos hk]; exact h6
    · show va_up (va_up B.2.1 4 _) 4 _ i = _
      rw [va_up_ne _ _ (by omega), va_up_ne _ _ (by omega)]
  · refine ⟨fun i hi => ?_, ?_, fun k h9 => ?_, fun i hi => ?_, fun i hi => ?_⟩
    · show cps (T.2.1 4) (sbH (T.2.1 1)) 32 i = _
      unfold lk0
      rw [if_neg (by omega), cps_at]
      by_cases h : i < 32
      · rw [if_pos h, if_pos h]; exact sbH_cg hI.fin.1 i h
      · rw [if_neg h, if_neg h, (hO 4 (by decide)).2]
        show cps (B.2.1 4) (fun _ => (nI (0)).toInt8.toInt32) 64 i = 0
        rw [cps_at, if_pos hi, z8]
    · unfold lkQ; rw [if_neg (by omega)]; rfl
    · show va_up (T.1 3) 6 _ k = _
      rw [va_up_ne _ _ h9, (hO 3 (by decide)).1]; rfl
    · show va_up T.1 3 _ i = _
      rw [va_up_ne _ _ (by omega), (hO i (by omega)).1]; rfl
    · show va_up T.2.1 4 _ i = _
      rw [va_up_ne _ _ (by omega), (hO i (by omega)).2]
      show va_up B.2.1 4 _ i = _
      rw [va_up_ne _ _ (by omega)]
theorem bg2 {P X : wS} {ks : Nat} (g : Nat → Int32) (h : ∃ S2, mlP (bgB P 2) ks 0 S2 ∧ oth S2 X ∧ MI X wC0 (fun k => (S2.2.1 4 k ^^^ nI 54) &&& nI 255) 64 ∧ X.1 0 3 = nI 64) : MO X 2 (lk0 ks (P.2.1 7)) (lkQ ks) g 0 ∧ (∀ i, 6 ≤ i → X.1 i = P.1 i ∧ X.2.1 i = P.2.1 i) ∧ X.1 3 3 = P.1 3 3 := by
  obtain ⟨S2, hm, hO, hI, hC⟩ := h
  obtain ⟨a1, a2, a3, a4, a5⟩ := mlP_sum rfl hm
  have e3 := (hO 3 (by decide)).1
  refine ⟨⟨?_, ?_, ?_, Or.inr ⟨rfl, hI.cg (fun j hj => ?_), hC, fun i hi => ?_⟩⟩, fun i hi => ⟨?_, ?_⟩, ?_⟩
  · rw [e3, a3 4 (by decide)]; rfl
  · rw [e3, a2]
  · rw [e3, a3 5 (by decide)]; rfl
  · unfold kyG
    rw [if_pos hj, a1 j hj]
    rfl
  · rw [(hO 4 (by decide)).2]; exact a1 i hi
  · rw [(hO i (by omega)).1, a4 i (by omega)]
    simp [bgB, sI, va_up, show i ≠ 3 by omega]
  · rw [(hO i (by omega)).2, a5 i (by omega)]
    rfl
  · rw [e3, a3 3 (by decide)]; rfl
theorem MO.take_pre {X : wS} {k : Nat} {lk : Nat → Int32} {bl : Nat} {g : Nat → Int32} {n : Nat} (h : MO X k lk bl g n) (t : Nat) (f : Nat → Int32) : ∃ (h0 G : Nat → Int32) (c9 : Nat), MI X h0 G c9 ∧ X.1 0 3 = nI c9 ∧ (∀ i, i < t → ub f i = G (c9 + i)) ∧ ∀ T X' : wS, oth X T → MI T h0 G (c9 + t) → T.1 0 3 = nI (c9 + t) → X' = sI T 3 5 (nI (n + t)) → MO X' k lk bl (ext g n f) (n + t) := by
  obtain ⟨a1, a2, a3, a4⟩ := h
  rcases a4 with ⟨b1, b2, b3⟩ | ⟨b1, b2, b3, b4⟩
  · refine ⟨hB k, ext g n f, n, b2.cg (fun j hj => (if_pos hj).symm), b3, fun i hi => ?_, fun T X' hO hI hC e => ?_⟩
    · unfold ext; rw [if_neg (by omega)]; congr 1; omega
    · subst e
      have e3 := (hO 3 (by decide)).1
      refine ⟨?_, ?_, rfl, Or.inl ⟨b1, hI, hC⟩⟩
      · show T.1 3 4 = _; rw [e3]; exact a1
      · show T.1 3 6 = _; rw [e3]; exact a2
  · refine ⟨wC0, kyG lk (ext g n f), 64 + n, b2.cg (fun j hj => ?_), b3, fun i hi => ?_, fun T X' hO hI hC e => ?_⟩
    · unfold kyG ext
      by_cases h : j < 64
      · rw [if_pos h, if_pos h]
      · rw [if_neg h, if_neg h, if_pos (by omega)]
    · unfold kyG ext
      rw [if_neg (by omega), if_neg (by omega)]; congr 1; omega
    · subst e
      have e3 := (hO 3 (by decide)).1
      rw [Nat.add_assoc] at hI hC
      refine ⟨?_, ?_, rfl, Or.inr ⟨b1, hI, hC, fun i hi => ?_⟩⟩
      · show T.1 3 4 = _; rw [e3]; exact a1
      · show T.1 3 6 = _; rw [e3]; exact a2
      · show T.2.1 4 i = _; rw [(hO 4 (by decide)).2]; exact b4 i hi
/-- but for mill and message m all is as it was, and that is open as it was -/
def bgO (S U : wS) (m : Nat) : Prop := (∀ i, ¬ (3 * m ≤ i ∧ i < 3 * m + 3) → ¬ (15 + 3 * m ≤ i ∧ i < 18 + 3 * m) → U.1 i = S.1 i ∧ U.2.1 i = S.2.1 i) ∧ U.1 (15 + 3 * m) 3 = S.1 (15 + 3 * m) 3
theorem fMg_b (m b b' : Nat) {i : Nat} (h : i < 6) : fMg m b i = fMg m b' i := by
  rcases (show i = 0 ∨ i = 1 ∨ i = 2 ∨ i = 3 ∨ i = 4 ∨ i = 5 by omega) with rfl | rfl | rfl | rfl | rfl | rfl <;> rfl
theorem mg_push {S X : wS} {m b : Nat} (hm : m < 5) (hb : b = 58 ∨ b = 60) (h6 : ∀ i, 6 ≤ i → X.1 i = (pul S (fMg m b)).1 i ∧ X.2.1 i = (pul S (fMg m b)).2.1 i) (h3 : X.1 3 3 = (pul S (fMg m b)).1 3 3) : bgO S (psh S (fiMg m b) X) m ∧ ∀ b', ∀ i, i < 6 → (pul (psh S (fiMg m b) X) (fMg m b')).1 i = X.1 i ∧ (pul (psh S (fiMg m b) X) (fMg m b')).2.1 i = X.2.1 i := by
  have hli := lieMg m b hm hb
  refine ⟨⟨fun i n1 n2 => ?_, ?_⟩, fun b' i hi => ?_⟩
  · cases e : fiMg m b i with
    | none => exact psh_o X e
    | some k =>
      obtain ⟨g1, g2⟩ := hli.2 i k e
      have hk : 6 ≤ k := Nat.not_lt.mp (fun h9 => by
        rcases (show k = 0 ∨ k = 1 ∨ k = 2 ∨ k = 3 ∨ k = 4 ∨ k = 5 by omega) with rfl | rfl | rfl | rfl | rfl | rfl <;> (simp only [fMg] at g2; omega))
      obtain ⟨e1, e2⟩ := h6 k hk
      rw [← g2]
      exact ⟨(psh_1 hli X g1).trans e1, (psh_2 hli X g1).trans e2⟩
  · have := psh_1 (S := S) hli X (k := 3) (by decide)
    exact (congrFun this 3).trans h3
  · show (psh S (fiMg m b) X).1 (fMg m b' i) = _ ∧ (psh S (fiMg m b) X).2.1 (fMg m b' i) = _
    rw [fMg_b m b' b hi]
    exact ⟨psh_1 hli X (by omega), psh_2 hli X (by omega)⟩
theorem bgO.tr {S U V : wS} {m : Nat} (a : bgO S U m) (b : bgO U V m) : bgO S V m := ⟨fun i h1 h2 => ⟨(b.1 i h1 h2).1.trans (a.1 i h1 h2).1, (b.1 i h1 h2).2.trans (a.1 i h1 h2).2⟩, b.2.trans a.2⟩
/-- the whole digest, its last block and its blocks -/
def fnQ (k bl n : Nat) : Nat := if k = 2 then bl + padL (64 + n) / 64 + padL (64 + 32) / 64 else bl + padL n / 64
def fnH (k : Nat) (lk g : Nat → Int32) (n : Nat) : Nat → Int32 := if k = 2 then shaC kC wC0 (okG lk (shaC kC wC0 (kyG lk g) (64 + n))) (64 + 32) else shaC kC (hB k) g n
def fnW (k : Nat) (lk g : Nat → Int32) (n : Nat) : Nat → Int32 := if k = 2 then shaW kC wC0 (okG lk (shaC kC wC0 (kyG lk g) (64 + n))) (64 + 32) else shaW kC (hB k) g n
theorem okG_cg {a b h : Nat → Int32} (e : ∀ i, i < 64 → a i = b i) : okG a h = okG b h := by
  funext i
  unfold okG
  by_cases h : i < 64
  · rw [if_pos h, if_pos h, e i h]
  · rw [if_neg h, if_neg h]
/-- stream j is closed, or open and stands so -/
def stO (S : wS) (so : Nat → Nat) (lk : Nat → Nat → Int32) (bl : Nat → Nat) (g : Nat → Nat → Int32) (n : Nat → Nat) (j : Nat) : Prop := S.1 (15 + 3 * (j + 1)) 3 = nI 0 ∨ (S.1 (15 + 3 * (j + 1)) 3 = nI 1 ∧ so j ≤ 2 ∧ n j ≤ 2000 ∧ MO (pul S (fMg (j + 1) 58)) (so j) (lk j) (bl j) (g j) (n j))
/-- the shelf's turn from U on: message m is finished -/
def fin9 (U : wS) (m k : Nat) (lk g : Nat → Int32) (bl n d : Nat) (S' : wS) : Prop := ∃ X, finP (pul U (fMf m)) (nI k) d (fnQ k bl n) (fnH k lk g n) (fnW k lk g n) X ∧ S' = psh U (fiMf m) X
theorem fMf_g (m b : Nat) {i : Nat} (h : i < 6) : fMf m i = fMg m b i := by
  rcases (show i = 0 ∨ i = 1 ∨ i = 2 ∨ i = 3 ∨ i = 4 ∨ i = 5 by omega) with rfl | rfl | rfl | rfl | rfl | rfl <;> rfl
theorem MO.f {U : wS} {m b k : Nat} {lk : Nat → Int32} {bl : Nat} {g : Nat → Int32} {n : Nat} (h : MO (pul U (fMg m b)) k lk bl g n) : MO (pul U (fMf m)) k lk bl g n := h.sm (fun i hi => by
  show U.1 (fMf m i) = U.1 (fMg m b i) ∧ U.2.1 (fMf m i) = U.2.1 (fMg m b i)
  rw [fMf_g m b hi]; exact ⟨rfl, rfl⟩)
theorem fin9_01 {U X : wS} {m k : Nat} {lk g : Nat → Int32} {bl n d : Nat} (h2 : k ≠ 2) (h : finP (pul U (fMf m)) (nI k) d (bl + padL n / 64) (shaC kC (hB k) g n) (shaW kC (hB k) g n) X) : fin9 U m k lk g bl n d (psh U (fiMf m) X) := ⟨X, by unfold fnQ fnH fnW; rw [if_neg h2, if_neg h2, if_neg h2]; exact h, rfl⟩
theorem fin9_2 {U X : wS} {m : Nat} {lk l9 g : Nat → Int32} {bl n d : Nat} (e : ∀ i, i < 64 → l9 i = lk i) (h : finP (pul U (fMf m)) (nI 2) d (bl + padL (64 + n) / 64 + padL (64 + 32) / 64) (shaC kC wC0 (okG l9 (shaC kC wC0 (kyG lk g) (64 + n))) (64 + 32)) (shaW kC wC0 (okG l9 (shaC kC wC0 (kyG lk g) (64 + n))) (64 + 32)) X) : fin9 U m 2 lk g bl n d (psh U (fiMf m) X) := ⟨X, by
  rw [okG_cg e] at h
  unfold fnQ fnH fnW; rw [if_pos rfl, if_pos rfl, if_pos rfl]; exact h, rfl⟩
theorem mo_cl {S : wS} {j k : Nat} {lk : Nat → Int32} {bl : Nat} {g : Nat → Int32} {n : Nat} (h : MO (pul S (fMg (j + 1) 58)) k lk bl g n) : MO (pul (sI S (15 + 3 * (j + 1)) 3 (nI (0))) (fMg (j + 1) 58)) k lk bl g n := by
  have e : ∀ q, q ≠ 3 → (pul (sI S (15 + 3 * (j + 1)) 3 (nI (0))) (fMg (j + 1) 58)).1 3 q = (pul S (fMg (j + 1) 58)).1 3 q := fun q hq => by
    show va_up S.1 (15 + 3 * (j + 1)) (va_up (S.1 (15 + 3 * (j + 1))) 3 (nI 0)) (15 + 3 * (j + 1)) q = S.1 (15 + 3 * (j + 1)) q
    rw [up_at, va_up_ne _ _ hq]
  have e0 : (pul (sI S (15 + 3 * (j + 1)) 3 (nI (0))) (fMg (j + 1) 58)).1 0 = (pul S (fMg (j + 1) 58)).1 0 := by
    show va_up S.1 (15 + 3 * (j + 1)) _ (3 * (j + 1)) = S.1 (3 * (j + 1))
    rw [va_up_ne _ _ (by omega)]
  unfold MO at *
  rw [e 4 (by decide), e 6 (by decide), e 5 (by decide), e0]
  refine ⟨h.1, h.2.1, h.2.2.1, ?_⟩
  rcases h.2.2.2 with ⟨a, b, c⟩ | ⟨a, b, c⟩
  · exact Or.inl ⟨a, b.sm e0 rfl rfl, c⟩
  · exact Or.inr ⟨a, b.sm e0 rfl rfl, c⟩
