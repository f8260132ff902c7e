/-! The reference's constants: digits in base 65536, and what they make -/
def zJ (f : Nat → Int64) : Nat → Nat → Int64
  | 0 => f
  | k + 1 => vp_updL (zJ f k) k 0
def mI (a b f : Nat → Int64) (i : Nat) : Nat → Nat → Int64
  | 0 => f
  | j + 1 => vp_updL (mI a b f i j) (i + j) (mI a b f i j (i + j) + a i * b j)
def mO (a b f : Nat → Int64) (m : Nat) : Nat → Nat → Int64
  | 0 => f
  | i + 1 => mI a b (mO a b f m i) i m
def sh16 (x : Int64) : Int64 := (x.toUInt64 >>> ((nI 16).toInt64.toUInt64 &&& Int64.toUInt64 63)).toInt64
def cJ (f : Nat → Int64) : Nat → Nat → Int64
  | 0 => f
  | k + 1 => vp_updL (vp_updL (cJ f k) (k + 1) (cJ f k (k + 1) + sh16 (cJ f k k))) k (vp_updL (cJ f k) (k + 1) (cJ f k (k + 1) + sh16 (cJ f k k)) k &&& 65535)
def mulP (a b : Nat → Int64) (n m : Nat) (f : Nat → Int64) : Nat → Int64 := cJ (mO a b (zJ f 16) m n) 15
def cpJ (z y : Nat → Int64) : Nat → Nat → Int64
  | 0 => z
  | k + 1 => vp_updL (cpJ z y k) k (y k)
/-- whether one of n words from lo on isn't 0 -/
def anZ (f : Nat → Int64) (lo : Nat) : Nat → Int32
  | 0 => nI 0
  | k + 1 => if anZ f lo k = 0 ∧ f (lo + k) = 0 then nI 0 else nI 1
def upF (f : Nat → Int64) (p : Int32) (t : Nat) : Int32 := if anZ f (t + 1) (15 - t) = 0 then (if lg_cmp (f t) p.toInt64 < 0 then nI 1 else if lg_cmp (f t) p.toInt64 = 0 then (if anZ f 0 t = 0 then nI 1 else nI 0) else nI 0) else nI 0
/-- the state with other long arrays -/
def jst (S : wS) (x y z : Nat → Int64) : wS := (S.1, S.2.1, fun i => if i = 4 then x else if i = 5 then y else if i = 6 then z else S.2.2 i)
theorem sJ_beg (S : wS) (i : Nat) : S = sJ S i (S.2.2 i) := by
  obtain ⟨a, b, c⟩ := S
  simp only [sJ, Prod.mk.injEq, true_and]
  funext j
  simp only [va_up]
  split
  · next h => rw [h]
  · rfl
theorem jst_id (S : wS) : S = jst S (S.2.2 4) (S.2.2 5) (S.2.2 6) := by
  obtain ⟨a, b, c⟩ := S
  simp only [jst, Prod.mk.injEq, true_and]
  funext j
  by_cases h4 : j = 4
  · subst h4; rfl
  · by_cases h5 : j = 5
    · subst h5; rfl
    · by_cases h6 : j = 6
      · subst h6; rfl
      · simp only [h4, h5, h6, if_false]
theorem jst_4 (S : wS) (x y z f : Nat → Int64) : sJ (jst S x y z) 4 f = jst S f y z := by
  simp only [jst, sJ, Prod.mk.injEq, true_and]
  funext j
  simp only [va_up]
  by_cases h4 : j = 4
  · rw [if_pos h4, if_pos h4]
  · rw [if_neg h4, if_neg h4, if_neg h4]
theorem jst_5 (S : wS) (x y z f : Nat → Int64) : sJ (jst S x y z) 5 f = jst S x f z := by
  simp only [jst, sJ, Prod.mk.injEq, true_and]
  funext j
  simp only [va_up]
  by_cases h5 : j = 5
  · subst h5; rfl
  · rw [if_neg h5, if_neg h5, if_neg h5]
theorem jst_6 (S : wS) (x y z f : Nat → Int64) : sJ (jst S x y z) 6 f = jst S x y f := by
  simp only [jst, sJ, Prod.mk.injEq, true_and]
  funext j
  simp only [va_up]
  by_cases h6 : j = 6
  · subst h6; rfl
  · rw [if_neg h6, if_neg h6, if_neg h6]
theorem anZ_t {f : Nat → Int64} {lo k : Nat} (h : ¬ anZ f lo k = 0) : nI 1 = anZ f lo (k + 1) := by
  simp only [anZ]
  rw [if_neg (fun g => h g.1)]
theorem lg_cmp0 {x : Int64} (h : lg_cmp x 0 = 0) : x = 0 := by
  unfold lg_cmp at h
  by_cases h1 : x > 0
  · rw [if_pos h1] at h; exact absurd h (by decide)
  · rw [if_neg h1] at h
    by_cases h2 : x = 0
    · exact h2
    · rw [if_neg h2] at h; exact absurd h (by decide)
theorem lg_cmp00 {x : Int64} (h : ¬ lg_cmp x 0 = 0) : ¬ x = 0 := by
  intro h1
  subst h1
  exact h (by decide)
theorem anZ_1 {f : Nat → Int64} {lo k : Nat} (h : ¬ lg_cmp (f (lo + k)) 0 = 0) : nI 1 = anZ f lo (k + 1) := by
  simp only [anZ]
  rw [if_neg (fun g => lg_cmp00 h g.2)]
theorem anZ_0 {f : Nat → Int64} {lo k : Nat} (h : anZ f lo k = 0) (h2 : lg_cmp (f (lo + k)) 0 = 0) : nI 0 = anZ f lo (k + 1) := by
  simp only [anZ]
  rw [if_pos ⟨h, lg_cmp0 h2⟩]
theorem anZ_cg {f g : Nat → Int64} {lo : Nat} : ∀ k, (∀ j, j < k → f (lo + j) = g (lo + j)) → anZ f lo k = anZ g lo k
  | 0, _ => rfl
  | k + 1, h => by
    simp only [anZ]
    rw [anZ_cg k (fun j hj => h j (by omega)), h k (by omega)]
theorem upF_cg {f g : Nat → Int64} {p : Int32} {t : Nat} (ht : t < 16) (h : ∀ k, k < 16 → f k = g k) : upF f p t = upF g p t := by
  unfold upF
  rw [anZ_cg (15 - t) (fun j hj => h _ (by omega)), anZ_cg t (fun j hj => h _ (by omega)), h t ht]
/-! values -/
def vN (c : Nat → Nat) : Nat → Nat
  | 0 => 0
  | n + 1 => vN c n + c n * 65536 ^ n
def uN (c : Nat → Nat) (k x : Nat) : Nat → Nat := fun j => if j = k then x else c j
theorem uN_s {c : Nat → Nat} {k x : Nat} : uN c k x k = x := if_pos rfl
theorem uN_n {c : Nat → Nat} {k x j : Nat} (h : j ≠ k) : uN c k x j = c j := if_neg h
theorem vN_s (c : Nat → Nat) (n : Nat) : vN c (n + 1) = vN c n + c n * 65536 ^ n := rfl
theorem vN_cg {c d : Nat → Nat} (n : Nat) (h : ∀ j, j < n → c j = d j) : vN c n = vN d n := by
  induction n with
  | zero => rfl
  | succ n ih => rw [vN_s, vN_s, ih (fun j hj => h j (Nat.lt_succ_of_lt hj)), h n (Nat.lt_succ_self n)]
theorem vN_out {c : Nat → Nat} {k x n : Nat} (h : n ≤ k) : vN (uN c k x) n = vN c n := vN_cg n (fun j hj => uN_n (by omega))
theorem vN_up (c : Nat → Nat) (k x n : Nat) (h : k < n) : vN (uN c k x) n + c k * 65536 ^ k = vN c n + x * 65536 ^ k := by
  induction n with
  | zero => exact absurd h (Nat.not_lt_zero k)
  | succ n ih =>
    by_cases e : k = n
    · subst e
      rw [vN_s, vN_s, vN_out (Nat.le_refl k), uN_s, Nat.add_right_comm]
    · rw [vN_s, vN_s, uN_n (fun g => e g.symm), Nat.add_right_comm, ih (by omega), Nat.add_right_comm]
theorem ar_lt {v q P : Nat} (h : v < P) (h1 : q ≤ 65535 * P) : v + q < P * 65536 := by omega
theorem vN_lt {c : Nat → Nat} (n : Nat) (h : ∀ j, j < n → c j < 65536) : vN c n < 65536 ^ n := by
  induction n with
  | zero => exact Nat.zero_lt_one
  | succ n ih =>
    rw [vN_s, Nat.pow_succ]
    exact ar_lt (ih (fun j hj => h j (Nat.lt_succ_of_lt hj))) (Nat.mul_le_mul_right _ (Nat.le_of_lt_succ (h n (Nat.lt_succ_self n))))
theorem vN_dig {c : Nat → Nat} (n : Nat) (h : ∀ j, j < n → c j < 65536) (k : Nat) (hk : k < n) : vN c n / 65536 ^ k % 65536 = c k := by
  induction n with
  | zero => exact absurd hk (Nat.not_lt_zero k)
  | succ n ih =>
    have hl := vN_lt n (fun j hj => h j (Nat.lt_succ_of_lt hj))
    have hp : 0 < 65536 ^ k := Nat.pow_pos (by decide)
    rw [vN_s]
    by_cases e : k = n
    · subst e
      rw [Nat.add_mul_div_right _ _ hp, Nat.div_eq_of_lt hl, Nat.zero_add]
      exact Nat.mod_eq_of_lt (h k hk)
    · obtain ⟨d, hd⟩ : ∃ d, n = d + (k + 1) := ⟨n - (k + 1), by omega⟩
      have e1 : c n * 65536 ^ n = (c n * 65536 ^ d * 65536) * 65536 ^ k := by
        rw [hd, Nat.pow_add, Nat.pow_succ, Nat.mul_comm (65536 ^ k) 65536, Nat.mul_assoc (c (d + (k + 1)) * 65536 ^ d), Nat.mul_assoc]
      rw [e1, Nat.add_mul_div_right _ _ hp, Nat.add_mul_mod_self_right]
      exact ih (fun j hj => h j (Nat.lt_succ_of_lt hj)) (by omega)
theorem vN_of (V n : Nat) : vN (fun k => V / 65536 ^ k % 65536) n = V % 65536 ^ n := by
  induction n with
  | zero => rw [Nat.pow_zero, Nat.mod_one]; rfl
  | succ n ih => rw [vN_s, ih, Nat.mod_pow_succ, Nat.mul_comm (65536 ^ n)]
def dgN (V k : Nat) : Nat := V / 65536 ^ k % 65536
def dg (V : Nat) (k : Nat) : Int64 := Int64.ofNat (V / 65536 ^ k % 65536)
def Dg (f : Nat → Int64) (V : Nat) : Prop := ∀ k, k < 16 → f k = dg V k
def jN (f : Nat → Int64) (c : Nat → Nat) : Prop := ∀ k, k < 16 → f k = Int64.ofNat (c k)
theorem jN.up {f : Nat → Int64} {c : Nat → Nat} (h : jN f c) {k : Nat} {x : Int64} {y : Nat} (e : x = Int64.ofNat y) : jN (vp_updL f k x) (uN c k y) := by
  intro j hj
  by_cases g : j = k
  · subst g
    rw [pk_uLs, uN_s]; exact e
  · rw [pk_uLn g, uN_n g]; exact h j hj
theorem zJ_N (f : Nat → Int64) : ∀ n, ∀ k, k < n → zJ f n k = 0
  | 0, k, h => absurd h (by omega)
  | n + 1, k, h => by
    simp only [zJ]
    by_cases e : k = n
    · subst e; exact pk_uLs
    · rw [pk_uLn e]; exact zJ_N f n k (by omega)
theorem zJ_Dg (f : Nat → Int64) : Dg (zJ f 16) 0 := fun k hk => by
  rw [zJ_N f 16 k hk]
  unfold dg
  rw [Nat.zero_div]; rfl
theorem sh16_N (a : Nat) (h : a < 2 ^ 63) : sh16 (Int64.ofNat a) = Int64.ofNat (a / 65536) := by
  have e : ((nI 16).toInt64.toUInt64 &&& Int64.toUInt64 63) = 16 := by decide
  unfold sh16
  rw [e]
  apply Int64.toBitVec_inj.mp
  apply BitVec.eq_of_toNat_eq
  have e0 : ((Int64.ofNat a).toUInt64 >>> (16 : UInt64)).toInt64.toBitVec = (BitVec.ofNat 64 a) >>> (16 : Nat) := rfl
  have e1 : (Int64.ofNat (a / 65536)).toBitVec = BitVec.ofNat 64 (a / 65536) := rfl
  rw [e0, e1, BitVec.toNat_ushiftRight, BitVec.toNat_ofNat, BitVec.toNat_ofNat, Nat.shiftRight_eq_div_pow]
  omega
theorem an16_N (a : Nat) : Int64.ofNat a &&& 65535 = Int64.ofNat (a % 65536) := by
  apply Int64.toBitVec_inj.mp
  apply BitVec.eq_of_toNat_eq
  have e1 : (Int64.ofNat (a % 65536)).toBitVec = BitVec.ofNat 64 (a % 65536) := rfl
  have e2 : (Int64.ofNat a).toBitVec = BitVec.ofNat 64 a := rfl
  have e3 : (65535 : Int64).toBitVec.toNat = 2 ^ 16 - 1 := by decide
  rw [Int64.toBitVec_and, BitVec.toNat_and, e3, Nat.and_two_pow_sub_one_eq_mod, e1, e2, BitVec.toNat_ofNat, BitVec.toNat_ofNat]
  omega
theorem ar_u {v w a x : Nat} (h : w + a = v + (a + x)) : w = v + x := by omega
theorem vN_add (c : Nat → Nat) (k x n : Nat) (h : k < n) : vN (uN c k (c k + x)) n = vN c n + x * 65536 ^ k := by
  have h1 := vN_up c k (c k + x) n h
  rw [Nat.add_mul] at h1
  exact ar_u h1
theorem ar_b {u v X m : Nat} (h : u ≤ X + m * 4294967296) (g : v ≤ 4294836225) : u + v ≤ X + (m + 1) * 4294967296 := by omega
theorem ar_b0 {u X m : Nat} (h : u ≤ X + m * 4294967296) : u ≤ X + (m + 1) * 4294967296 := Nat.le_trans h (Nat.add_le_add_left (Nat.mul_le_mul_right _ (Nat.le_succ m)) X)
theorem mI_N {a b : Nat → Int64} {A B : Nat → Nat} {i N : Nat} (hN : N = 16) (ha : a i = Int64.ofNat (A i)) (hA : A i < 65536) (f : Nat → Int64) (c : Nat → Nat) (X : Nat) (hf : jN f c) (hX : ∀ k, k < 16 → c k ≤ X) (m : Nat) (hm : i + m ≤ 16) (hb : ∀ j, j < m → b j = Int64.ofNat (B j) ∧ B j < 65536) : ∃ c', jN (mI a b f i m) c' ∧ vN c' N = vN c N + A i * 65536 ^ i * vN B m ∧ ∀ k, k < 16 → c' k ≤ X + m * 4294967296 := by
  induction m with
  | zero => exact ⟨c, hf, rfl, fun k hk => Nat.le_trans (hX k hk) (Nat.le_add_right _ _)⟩
  | succ m ih =>
    obtain ⟨c', h1, h2, h3⟩ := ih (by omega) (fun j hj => hb j (Nat.lt_succ_of_lt hj))
    obtain ⟨b1, b2⟩ := hb m (Nat.lt_succ_self m)
    have him : i + m < 16 := by omega
    refine ⟨uN c' (i + m) (c' (i + m) + A i * B m), ?_, ?_, ?_⟩
    · refine h1.up ?_
      rw [h1 (i + m) him, ha, b1, Int64.ofNat_add, Int64.ofNat_mul]
    · rw [vN_add c' (i + m) (A i * B m) N (by rw [hN]; exact him), h2, vN_s, Nat.mul_add, Nat.add_assoc]
      congr 2
      rw [Nat.pow_add, Nat.mul_assoc, Nat.mul_assoc]
      congr 1
      rw [← Nat.mul_assoc, Nat.mul_comm (B m), Nat.mul_assoc]
    · intro k hk
      have h5 : A i * B m ≤ 65535 * 65535 := Nat.mul_le_mul (Nat.le_of_lt_succ hA) (Nat.le_of_lt_succ b2)
      by_cases e : k = i + m
      · rw [e, uN_s]
        exact ar_b (h3 (i + m) him) h5
      · rw [uN_n e]
        exact ar_b0 (h3 k hk)
theorem mO_N {a b : Nat → Int64} {A B : Nat → Nat} {m N : Nat} (hN : N = 16) (hb : ∀ j, j < m → b j = Int64.ofNat (B j) ∧ B j < 65536) (f : Nat → Int64) (c : Nat → Nat) (X : Nat) (hf : jN f c) (hX : ∀ k, k < 16 → c k ≤ X) (n : Nat) (hn : n + m ≤ 16) (ha : ∀ j, j < n → a j = Int64.ofNat (A j) ∧ A j < 65536) : ∃ c', jN (mO a b f m n) c' ∧ vN c' N = vN c N + vN A n * vN B m ∧ ∀ k, k < 16 → c' k ≤ X + n * (m * 4294967296) := by
  induction n with
  | zero => exact ⟨c, hf, by rw [show vN A 0 = 0 from rfl, Nat.zero_mul, Nat.add_zero], fun k hk => Nat.le_trans (hX k hk) (Nat.le_add_right _ _)⟩
  | succ n ih =>
    obtain ⟨c', h1, h2, h3⟩ := ih (by omega) (fun j hj => ha j (Nat.lt_succ_of_lt hj))
    obtain ⟨a1, a2⟩ := ha n (Nat.lt_succ_self n)
    obtain ⟨c2, g1, g2, g3⟩ := mI_N (B := B) (N := N) hN a1 a2 _ c' _ h1 h3 m (by omega) hb
    refine ⟨c2, g1, ?_, fun k hk => ?_⟩
    · rw [g2, h2, vN_s, Nat.add_mul, Nat.add_assoc]
    · refine Nat.le_trans (g3 k hk) ?_
      rw [Nat.succ_mul, Nat.add_assoc]
      exact Nat.le_refl _
theorem ar_c {V V1 V2 a qP rP cP : Nat} (e1 : V1 = V + qP) (e2 : V2 + cP = V1 + rP) (e3 : cP = qP + rP) : V2 = V := by omega
theorem ar_d {X y z : Nat} (h : y ≤ X) (g : z ≤ X + X) : y + z / 65536 ≤ X + X := by omega
theorem cJ_N {f : Nat → Int64} {c : Nat → Nat} {X N : Nat} (hN : N = 16) (hf : jN f c) (hX : ∀ k, k < 16 → c k ≤ X) (hX2 : X < 2305843009213693952) (n : Nat) (hn : n ≤ 15) : ∃ c', jN (cJ f n) c' ∧ vN c' N = vN c N ∧ (∀ j, j < n → c' j < 65536) ∧ c' n ≤ X + X ∧ ∀ j, n < j → c' j = c j := by
  induction n with
  | zero => exact ⟨c, hf, rfl, fun j hj => absurd hj (Nat.not_lt_zero j), Nat.le_trans (hX 0 (by decide)) (Nat.le_add_right _ _), fun _ _ => rfl⟩
  | succ n ih =>
    obtain ⟨c', h1, h2, h3, h4, h5⟩ := ih (by omega)
    have hn1 : n + 1 < 16 := by omega
    have hn0 : n < 16 := by omega
    have hc1 : c' (n + 1) = c (n + 1) := h5 _ (Nat.lt_succ_self n)
    have hc2 := hX (n + 1) hn1
    have hlt : c' n < 2 ^ 63 := Nat.lt_of_le_of_lt h4 (by omega)
    have u1 : jN (vp_updL (cJ f n) (n + 1) (cJ f n (n + 1) + sh16 (cJ f n n))) (uN c' (n + 1) (c' (n + 1) + c' n / 65536)) := by
      refine h1.up ?_
      rw [h1 (n + 1) hn1, h1 n hn0, sh16_N _ hlt, Int64.ofNat_add]
    have nn : n ≠ n + 1 := by omega
    refine ⟨uN (uN c' (n + 1) (c' (n + 1) + c' n / 65536)) n (c' n % 65536), ?_, ?_, ?_, ?_, ?_⟩
    · refine u1.up ?_
      rw [u1 n hn0, an16_N, uN_n nn]
    · have e1 := vN_add c' (n + 1) (c' n / 65536) N (by rw [hN]; exact hn1)
      have e2 := vN_up (uN c' (n + 1) (c' (n + 1) + c' n / 65536)) n (c' n % 65536) N (by rw [hN]; exact hn0)
      rw [uN_n nn] at e2
      have e3 : c' n * 65536 ^ n = c' n / 65536 * 65536 ^ (n + 1) + c' n % 65536 * 65536 ^ n := by
        rw [Nat.pow_succ, Nat.mul_comm (65536 ^ n) 65536, ← Nat.mul_assoc, ← Nat.add_mul]
        congr 1
        omega
      exact (ar_c (a := 0) e1 e2 e3).trans h2
    · intro j hj
      by_cases e : j = n
      · rw [e, uN_s]
        exact Nat.mod_lt _ (by decide)
      · rw [uN_n e, uN_n (by omega)]
        exact h3 j (by omega)
    · rw [uN_n (Ne.symm nn), uN_s, hc1]
      exact ar_d hc2 h4
    · intro j hj
      rw [uN_n (by omega), uN_n (by omega)]
      exact h5 j (by omega)
theorem ar_15 {v v15 d P : Nat} (e : v = v15 + d * P) (h : v < P) : d = 0 := by
  rcases Nat.eq_zero_or_pos d with g | g
  · exact g
  · have h9 : P ≤ d * P := Nat.le_mul_of_pos_left _ g
    omega
/-- the product's digits -/
theorem mul_N {a b f : Nat → Int64} {A B n m : Nat} (ha : Dg a A) (hb : Dg b B) (hA : A < 65536 ^ n) (hB : B < 65536 ^ m) (hn : n ≤ 6) (hm : m ≤ 6) : Dg (mulP a b n m f) (A * B) := by
  have hz : jN (zJ f 16) (fun _ => 0) := fun k hk => by rw [zJ_N f 16 k hk]; rfl
  have hz0 : ∀ n, vN (fun _ => 0) n = 0 := fun n => by
    induction n with
    | zero => rfl
    | succ n ih => rw [vN_s, ih, Nat.zero_mul]
  obtain ⟨N, hN⟩ : ∃ N, N = 16 := ⟨16, rfl⟩
  obtain ⟨c, h1, h2, h3⟩ := mO_N (a := a) (b := b) (A := dgN A) (B := dgN B) (m := m) hN (fun j hj => ⟨hb j (by omega), Nat.mod_lt _ (by decide)⟩) (zJ f 16) (fun _ => 0) 0 hz (fun _ _ => Nat.le_refl _) n (by omega) (fun j hj => ⟨ha j (by omega), Nat.mod_lt _ (by decide)⟩)
  have eA : vN (dgN A) n = A := (vN_of A n).trans (Nat.mod_eq_of_lt hA)
  have eB : vN (dgN B) m = B := (vN_of B m).trans (Nat.mod_eq_of_lt hB)
  rw [hz0, eA, eB, Nat.zero_add] at h2
  have hX : ∀ k, k < 16 → c k ≤ 6 * (6 * 4294967296) := fun k hk => by
    refine Nat.le_trans (h3 k hk) ?_
    rw [Nat.zero_add]
    exact Nat.mul_le_mul hn (Nat.mul_le_mul hm (Nat.le_refl _))
  obtain ⟨d, g1, g2, g3, g4, g5⟩ := cJ_N hN h1 hX (by decide) 15 (Nat.le_refl _)
  rw [h2] at g2
  have hlt : A * B < 65536 ^ 15 := by
    have p1 : 65536 ^ n ≤ 65536 ^ 6 := Nat.pow_le_pow_right (by decide) hn
    have p2 : 65536 ^ m ≤ 65536 ^ 6 := Nat.pow_le_pow_right (by decide) hm
    refine Nat.lt_of_lt_of_le (Nat.mul_lt_mul'' (Nat.lt_of_lt_of_le hA p1) (Nat.lt_of_lt_of_le hB p2)) ?_
    rw [← Nat.pow_add]
    exact Nat.pow_le_pow_right (by decide) (by decide)
  have hd15 : d 15 = 0 := by
    have e : vN d N = vN d 15 + d 15 * 65536 ^ 15 := by rw [hN]; exact vN_s d 15
    rw [g2] at e
    exact ar_15 e hlt
  have hall : ∀ j, j < N → d j < 65536 := fun j hj => by
    by_cases e : j = 15
    · rw [e, hd15]; decide
    · exact g3 j (by omega)
  intro k hk
  have h9 := vN_dig N hall k (by rw [hN]; exact hk)
  rw [g2] at h9
  show mulP a b n m f k = Int64.ofNat (A * B / 65536 ^ k % 65536)
  rw [h9]
  exact g1 k hk
theorem cpJ_N (z y : Nat → Int64) : ∀ n, ∀ k, k < n → cpJ z y n k = y k
  | 0, k, h => absurd h (by omega)
  | n + 1, k, h => by
    simp only [cpJ]
    by_cases e : k = n
    · subst e; exact pk_uLs
    · rw [pk_uLn e]; exact cpJ_N z y n k (by omega)
theorem cpJ_Dg {z y : Nat → Int64} {V : Nat} (h : Dg y V) : Dg (cpJ z y 16) V := fun k hk => (cpJ_N z y 16 k hk).trans (h k hk)
/-! one bit more -/
def okB (V q r : Nat) : Bool := (List.range 16).all (fun k => (V + 2 ^ (16 * q + r)) / 65536 ^ k % 65536 == (if k = q then V / 65536 ^ k % 65536 + 2 ^ r else V / 65536 ^ k % 65536))
def bt1 (r : Nat) : Int64 := 1 <<< ((nI r).toInt64 &&& 63)
theorem bt1_N : ∀ r : Fin 16, bt1 r.val = Int64.ofNat (2 ^ r.val) := by decide
theorem Dg_add {x : Nat → Int64} {V u : Nat} (h : Dg x V) (hk : okB V (u / 16) (u % 16) = true) : Dg (vp_updL x (u / 16) (x (u / 16) + bt1 (u % 16))) (V + 2 ^ u) := by
  intro k hk2
  have h1 := List.all_eq_true.mp hk k (List.mem_range.mpr hk2)
  have h2 := eq_of_beq h1
  rw [show 16 * (u / 16) + u % 16 = u by omega] at h2
  unfold dg
  rw [h2]
  by_cases e : k = u / 16
  · subst e
    rw [pk_uLs, if_pos rfl, h _ hk2, bt1_N ⟨u % 16, Nat.mod_lt _ (by decide)⟩, Int64.ofNat_add]
    rfl
  · rw [pk_uLn e, if_neg e]
    exact h k hk2
theorem Dg_back {x : Nat → Int64} {V q : Nat} {s : Int64} (h : Dg x V) : Dg (vp_updL (vp_updL x q (x q + s)) q (vp_updL x q (x q + s) q - s)) V := by
  intro k hk
  by_cases e : k = q
  · subst e
    rw [pk_uLs, pk_uLs, Int64.add_sub_cancel]
    exact h k hk
  · rw [pk_uLn e, pk_uLn e]
    exact h k hk
def sqN (p t : Nat) : Nat → Nat → Option Nat
  | 0, V => some V
  | u + 1, V => if okB V (u / 16) (u % 16) && decide (V + 2 ^ u < 65536 ^ 5) then (if upF (dg ((V + 2 ^ u) * (V + 2 ^ u))) (nI p) t = 0 then sqN p t u V else sqN p t u (V + 2 ^ u)) else none
def cbN (p t : Nat) : Nat → Nat → Option Nat
  | 0, V => some V
  | u + 1, V => if okB V (u / 16) (u % 16) && decide (V + 2 ^ u < 65536 ^ 3) then (if upF (dg ((V + 2 ^ u) * (V + 2 ^ u) * (V + 2 ^ u))) (nI p) t = 0 then cbN p t u V else cbN p t u (V + 2 ^ u)) else none
theorem sqN_step {p t u V R : Nat} (h : sqN p t (u + 1) V = some R) : okB V (u / 16) (u % 16) = true ∧ V + 2 ^ u < 65536 ^ 5 ∧ (if upF (dg ((V + 2 ^ u) * (V + 2 ^ u))) (nI p) t = 0 then sqN p t u V else sqN p t u (V + 2 ^ u)) = some R := by
  simp only [sqN] at h
  by_cases e : (okB V (u / 16) (u % 16) && decide (V + 2 ^ u < 65536 ^ 5)) = true
  · rw [if_pos e] at h
    have e2 := Bool.and_eq_true_iff.mp e
    exact ⟨e2.1, of_decide_eq_true e2.2, h⟩
  · rw [if_neg e] at h
    cases h
theorem cbN_step {p t u V R : Nat} (h : cbN p t (u + 1) V = some R) : okB V (u / 16) (u % 16) = true ∧ V + 2 ^ u < 65536 ^ 3 ∧ (if upF (dg ((V + 2 ^ u) * (V + 2 ^ u) * (V + 2 ^ u))) (nI p) t = 0 then cbN p t u V else cbN p t u (V + 2 ^ u)) = some R := by
  simp only [cbN] at h
  by_cases e : (okB V (u / 16) (u % 16) && decide (V + 2 ^ u < 65536 ^ 3)) = true
  · rw [if_pos e] at h
    have e2 := Bool.and_eq_true_iff.mp e
    exact ⟨e2.1, of_decide_eq_true e2.2, h⟩
  · rw [if_neg e] at h
    cases h
def rsI (R : Nat) : Int32 := ((dg R 1 <<< ((nI 16).toInt64 &&& 63)) ||| dg R 0).toInt32
theorem rsI_eq {x : Nat → Int64} {R : Nat} (h : Dg x R) : ((x 1 <<< ((nI 16).toInt64 &&& 63)) ||| x 0).toInt32 = rsI R := by
  rw [h 1 (by decide), h 0 (by decide)]; rfl
