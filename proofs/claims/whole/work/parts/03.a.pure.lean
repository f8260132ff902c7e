/-! The pure words of the digests -/
/-- x turned right by k bits, as both texts write it -/
def rotr (x : Int32) (k : Nat) : Int32 := (x.toUInt32 >>> ((nI k).toUInt32 &&& Int32.toUInt32 31)).toInt32 ||| (x <<< (nI (32 - k) &&& 31))
def ushr (x : Int32) (k : Nat) : Int32 := (x.toUInt32 >>> ((nI k).toUInt32 &&& Int32.toUInt32 31)).toInt32
def sg0 (x : Int32) : Int32 := (rotr x 7 ^^^ rotr x 18) ^^^ ushr x 3
def sg1 (x : Int32) : Int32 := (rotr x 17 ^^^ rotr x 19) ^^^ ushr x 10
/-- W(16) .. of W(0) .. W(15): n of them -/
def schN (f : Nat → Int32) : Nat → (Nat → Int32)
  | 0 => f
  | n + 1 => upd (schN f n) (16 + n) (((sg1 (schN f n (16 + n - 2)) + schN f n (16 + n - 7)) + sg0 (schN f n (16 + n - 15))) + schN f n (16 + n - 16))
/-- one round: a .. h are f 0 .. f 7 -/
def rX (k w : Int32) (f : Nat → Int32) : Int32 := (((f 7 + ((rotr (f 4) 6 ^^^ rotr (f 4) 11) ^^^ rotr (f 4) 25)) + ((f 4 &&& f 5) ^^^ ((f 4 ^^^ (-1)) &&& f 6))) + k) + w
def rY (f : Nat → Int32) : Int32 := ((rotr (f 0) 2 ^^^ rotr (f 0) 13) ^^^ rotr (f 0) 22) + (((f 0 &&& f 1) ^^^ (f 0 &&& f 2)) ^^^ (f 1 &&& f 2))
def rSt (k w : Int32) (f : Nat → Int32) : Nat → Int32 := fun j => match j with
  | 0 => rX k w f + rY f
  | 1 => f 0
  | 2 => f 1
  | 3 => f 2
  | 4 => f 3 + rX k w f
  | 5 => f 4
  | 6 => f 5
  | _ => f 6
def rds (K w f : Nat → Int32) : Nat → (Nat → Int32)
  | 0 => f
  | n + 1 => rSt (K n) (w n) (rds K w f n)
/-- H0 .. H7 behind a block of the words w -/
def hAdd (h g : Nat → Int32) : Nat → Int32 := upd (upd (upd (upd (upd (upd (upd (upd h 0 (h 0 + g 0)) 1 (h 1 + g 1)) 2 (h 2 + g 2)) 3 (h 3 + g 3)) 4 (h 4 + g 4)) 5 (h 5 + g 5)) 6 (h 6 + g 6)) 7 (h 7 + g 7)
def cmpB (K h w : Nat → Int32) : Nat → Int32 := hAdd h (rds K w h 64)
/-- four bytes, the highest first -/
def wrd (g : Nat → Int32) (k : Nat) : Int32 := (((g k <<< (nI 24 &&& 31)) ||| (g (k + 1) <<< (nI 16 &&& 31))) ||| (g (k + 2) <<< (nI 8 &&& 31))) ||| g (k + 3)
def wfl (w g : Nat → Int32) (at0 : Nat) : Nat → (Nat → Int32)
  | 0 => w
  | t + 1 => upd (wfl w g at0 t) t (wrd g (at0 + 4 * t))
/-- the words of the block at at0 -/
def wBlk (w g : Nat → Int32) (at0 : Nat) : Nat → Int32 := schN (wfl w g at0 16) 48
def inF (v lo hi : Int32) : Int32 := if v < lo then 0 else if hi < v then 0 else 1
/-- byte k of the words h -/
def byH (h : Nat → Int32) (k : Nat) : Int32 := ushr (h (k / 4)) (24 - 8 * (k % 4)) &&& nI 255
/-! the reference: one object, thirty arrays -/
def tyM (cy : Nat → ClassId) : List (ClassId × FieldType) := [(cy 0, .int), (cy 1, .byte), (cy 2, .long)]
def skM : Nat → wK := fun i => match i with
  | 0 => .inl (11, [none, some 1, some 2, some 3, some 4, some 5, some 6, some 7, none, some 8, some 9, none, none, some 10, none, some 11, none, some 12, some 13, some 14, some 15, some 16, some 17, some 18, some 19, some 20, some 21, some 22, some 23, some 24, some 25, some 26, none, some 27, none, some 28, some 29, some 30, none, none])
  | 1 => .inr (0, 64, fun _ => none)
  | 2 => .inr (0, 8, fun _ => none)
  | 3 => .inr (0, 8, fun _ => none)
  | 4 => .inr (2, 16, fun _ => none)
  | 5 => .inr (2, 16, fun _ => none)
  | 6 => .inr (2, 16, fun _ => none)
  | 7 => .inr (0, 2400, fun _ => none)
  | 8 => .inr (0, 8, fun _ => none)
  | 9 => .inr (0, 64, fun _ => none)
  | 10 => .inr (0, 200, fun _ => none)
  | 11 => .inr (0, 200, fun _ => none)
  | 12 => .inr (0, 60, fun _ => none)
  | 13 => .inr (0, 60, fun _ => none)
  | 14 => .inr (0, 1920, fun _ => none)
  | 15 => .inr (0, 3840, fun _ => none)
  | 16 => .inr (0, 320, fun _ => none)
  | 17 => .inr (0, 5, fun _ => none)
  | 18 => .inr (0, 8000, fun _ => none)
  | 19 => .inr (0, 4, fun _ => none)
  | 20 => .inr (0, 4, fun _ => none)
  | 21 => .inr (0, 8, fun _ => none)
  | 22 => .inr (0, 4, fun _ => none)
  | 23 => .inr (0, 48, fun _ => none)
  | 24 => .inr (0, 48, fun _ => none)
  | 25 => .inr (0, 1920, fun _ => none)
  | 26 => .inr (0, 96, fun _ => none)
  | 27 => .inr (0, 32, fun _ => none)
  | 28 => .inr (0, 40, fun _ => none)
  | 29 => .inr (0, 1600, fun _ => none)
  | _ => .inr (0, 40, fun _ => none)
theorem up_up {α : Type} (f : Nat → α) (i : Nat) (a b : α) : va_up (va_up f i a) i b = va_up f i b := bx_uu f i a b
theorem up_at {α : Type} (f : Nat → α) (i : Nat) (a : α) : va_up f i a i = a := by simp [va_up]
theorem up_id {α : Type} (f : Nat → α) (i : Nat) : va_up f i (f i) = f := by
  funext j
  by_cases h : j = i
  · subst h; simp [va_up]
  · simp [va_up, h]
/-- the reference's message: n bytes, the array holds g -/
def pst (S : wS) (g : Nat → Int32) (n : Nat) : wS := sI (sB S 7 g) 0 8 (nI n)
theorem pst_put (S : wS) (g g' : Nat → Int32) (n n' : Nat) : sI (sB (pst S g n) 7 g') 0 8 (nI n') = pst S g' n' := by
  simp [pst, sI, sB, up_up, up_at]
theorem pst_pst (S : wS) (g g' : Nat → Int32) (n n' : Nat) : pst (pst S g n) g' n' = pst S g' n' := pst_put S g g' n n'
theorem pst_0 (S : wS) : sI S 0 8 (nI 0) = pst S (S.2.1 7) 0 := by
  simp [pst, sI, sB, up_id]
/-- f 0 .. f (k-1) put behind n0 -/
def pts (g : Nat → Int32) (n0 : Nat) (f : Nat → Int32) : Nat → (Nat → Int32)
  | 0 => g
  | k + 1 => upd (pts g n0 f k) (n0 + k) (f k)
theorem pts_at (g : Nat → Int32) (n0 : Nat) (f : Nat → Int32) (k j : Nat) : pts g n0 f k j = if n0 ≤ j ∧ j < n0 + k then f (j - n0) else g j := by
  induction k with
  | zero => simp [pts]; omega
  | succ k ih =>
    simp only [pts, upd]
    by_cases h : j = n0 + k
    · subst h
      rw [if_pos rfl, if_pos (by omega)]
      congr 1
      omega
    · rw [if_neg h, ih]
      by_cases h2 : n0 ≤ j ∧ j < n0 + k
      · rw [if_pos h2, if_pos (by omega)]
      · rw [if_neg h2, if_neg (by omega)]
theorem sB_sB (S : wS) (i : Nat) (f g : Nat → Int32) : sB (sB S i f) i g = sB S i g := by simp [sB, up_up]
theorem sJ_sJ (S : wS) (i : Nat) (f g : Nat → Int64) : sJ (sJ S i f) i g = sJ S i g := by simp [sJ, up_up]
theorem sI_sI (S : wS) (i k : Nat) (a b : Int32) : sI (sI S i k a) i k b = sI S i k b := by simp [sI, up_up, up_at]
theorem up_cm {α : Type} (f : Nat → α) {i j : Nat} (h : i ≠ j) (a b : α) : va_up (va_up f i a) j b = va_up (va_up f j b) i a := by
  funext k
  by_cases h1 : k = i
  · subst h1; simp [va_up, h]
  · by_cases h2 : k = j
    · subst h2; simp [va_up, h1]
    · simp [va_up, h1, h2]
/-- what the reference's work() leaves: H0 .. H7, the last block's words, how many blocks were gone through -/
def wst (S : wS) (h w : Nat → Int32) (q : Nat) : wS := sI (sB (sB S 8 h) 9 w) 0 11 (nI q)
theorem wst_blk (S : wS) (h w h' w' : Nat → Int32) (q : Nat) : sB (sB (wst S h w q) 9 w') 8 h' = wst S h' w' q := by
  simp only [wst, sI, sB, up_up]
  rw [up_cm (va_up S.2.1 8 h) (by decide : (9 : Nat) ≠ 8), up_up]
theorem wst_gone (S : wS) (h w : Nat → Int32) (q q' : Nat) : sI (wst S h w q) 0 11 (nI q') = wst S h w q' := sI_sI _ _ _ _ _
theorem wst_size (S : wS) (g h w : Nat → Int32) (n q : Nat) : sI (wst (pst S g n) h w q) 0 8 (nI 0) = wst (pst S g 0) h w q := by
  simp only [wst, pst, sI, sB, up_up, up_at]
  rw [up_cm (va_up (S.1 0) 8 (nI n)) (by decide : (11 : Nat) ≠ 8), up_up]
def cps (h f : Nat → Int32) : Nat → (Nat → Int32)
  | 0 => h
  | k + 1 => upd (cps h f k) k (f k)
theorem cps_at (h f : Nat → Int32) (k j : Nat) : cps h f k j = if j < k then f j else h j := by
  induction k with
  | zero => simp [cps]
  | succ k ih =>
    simp only [cps, upd]
    by_cases e : j = k
    · subst e; simp
    · rw [if_neg e, ih]
      by_cases h2 : j < k
      · rw [if_pos h2, if_pos (by omega)]
      · rw [if_neg h2, if_neg (by omega)]
/-- a byte of how many bits -/
def lenB (n k : Nat) : Int32 := (((((8) * (nI n).toInt64).toUInt64 >>> ((nI k).toInt64.toUInt64 &&& Int64.toUInt64 63)).toInt64) &&& 255).toInt32
def padZ (n : Nat) : Nat := (119 - n % 64) % 64
def padL (n : Nat) : Nat := n + 1 + padZ n + 8
def padM (g : Nat → Int32) (n : Nat) : Nat → Int32 := upd (upd (upd (upd (upd (upd (upd (upd (pts (upd g n (nI 128)) (n + 1) (fun _ => nI 0) (padZ n)) (n + 1 + padZ n) (lenB n 56)) (n + 1 + padZ n + 1) (lenB n 48)) (n + 1 + padZ n + 1 + 1) (lenB n 40)) (n + 1 + padZ n + 1 + 1 + 1) (lenB n 32)) (n + 1 + padZ n + 1 + 1 + 1 + 1) (lenB n 24)) (n + 1 + padZ n + 1 + 1 + 1 + 1 + 1) (lenB n 16)) (n + 1 + padZ n + 1 + 1 + 1 + 1 + 1 + 1) (lenB n 8)) (n + 1 + padZ n + 1 + 1 + 1 + 1 + 1 + 1 + 1) (lenB n 0)
/-- H0 .. H7 and the words, b blocks far -/
def bks (K g : Nat → Int32) (h w : Nat → Int32) : Nat → (Nat → Int32) × (Nat → Int32)
  | 0 => (h, w)
  | b + 1 => (cmpB K (bks K g h w b).1 (wBlk (bks K g h w b).2 g (64 * b)), wBlk (bks K g h w b).2 g (64 * b))
/-- where H0 .. H7 begin, by narrow -/
def hSrc (S : wS) (z : Int32) : Nat → Int32 := if z = 0 then S.2.1 2 else S.2.1 3
theorem pst_8 (S : wS) (g : Nat → Int32) (n : Nat) : sB (pst S g n) 8 (S.2.1 8) = pst S g n := by
  have h : (pst S g n).2.1 8 = S.2.1 8 := rfl
  rw [← h]
  simp [sB, up_id]
theorem wst_beg (S : wS) (g : Nat → Int32) (n : Nat) (h : Nat → Int32) (q : Nat) (hq : S.1 0 11 = nI q) : sB (pst S g n) 8 h = wst (pst S g n) h (S.2.1 9) q := by
  have h1 : (sB (pst S g n) 8 h).2.1 9 = S.2.1 9 := rfl
  have h2 : (sB (pst S g n) 8 h).1 0 11 = nI q := hq
  unfold wst
  rw [← h1, ← h2]
  simp [sB, sI, up_id]
