section RI
variable {p : Program} {l : Launch} {e : Env} {R : Room} {s : State} {m : MethodId} {args : Array Value} {below : List Frame} {meth : Method} {c : Code} {H : Heap} {locs : List Loc} {cells slots : Nat} {Q : State → Prop} {pc : Nat} {ls : Array Slot} {rest : List Value}
theorem lv_ri {x y : Int32} (h : x = y) (k : W p l e R s m args below meth c H locs cells slots Q (F0 m pc ls (.int y :: rest))) : W p l e R s m args below meth c H locs cells slots Q (F0 m pc ls (.int x :: rest)) := h ▸ k
theorem lv_rl {x y : Int64} (h : x = y) (k : W p l e R s m args below meth c H locs cells slots Q (F0 m pc ls (.long y :: rest))) : W p l e R s m args below meth c H locs cells slots Q (F0 m pc ls (.long x :: rest)) := h ▸ k
end RI
theorem pst_id (S : wS) (g : Nat → Int32) (n : Nat) (h1 : S.2.1 7 = g) (h2 : S.1 0 8 = nI n) : S = pst S g n := sIB_beg S 7 g 0 8 (nI n) h1 h2
/-- H0 .. H7 and the last block's words of the n bytes g -/
def shaS (S : wS) (z : Int32) (g : Nat → Int32) (n : Nat) : (Nat → Int32) × (Nat → Int32) := bks (S.2.1 1) (padM g n) (cps (S.2.1 8) (hSrc S z) 8) (S.2.1 9) (padL n / 64)
/-- behind work() -/
def wrk (S : wS) (z : Int32) (g : Nat → Int32) (n q : Nat) : wS := wst (pst S (padM g n) 0) (shaS S z g n).1 (shaS S z g n).2 (q + padL n / 64)
/-- byte k of KEY, or 0 behind it -/
def kpd (key : Nat → Int32) (ks k : Nat) : Int32 := if ks ≤ 64 ∧ k < ks then key k else nI 0
/-- padKey's start -/
def pk1 (S : wS) (ks pl : Nat) : wS := sB (sI S 0 11 (nI 0)) 16 (pts (S.2.1 16) (64 * pl) (kpd (S.2.1 11) ks) 64)
def pk2 (S : wS) (ks pl : Nat) : wS := wrk (pk1 S ks pl) (nI 0) (cps (S.2.1 7) (S.2.1 11) ks) ks 0
def pkS (S : wS) (ks pl : Nat) : wS := if ks ≤ 64 then sB (pk1 S ks pl) 17 (upd (S.2.1 17) pl (nI 0)) else
  sB (sB (pk2 S ks pl) 16 (pts (pts (S.2.1 16) (64 * pl) (kpd (S.2.1 11) ks) 64) (64 * pl) (byH ((pk2 S ks pl).2.1 8)) 32)) 17 (upd (S.2.1 17) pl (nI (0 + padL ks / 64)))
theorem pkS_I (S : wS) (ks pl k : Nat) (h1 : k ≠ 8) (h2 : k ≠ 11) : (pkS S ks pl).1 0 k = S.1 0 k := by
  unfold pkS
  split
  · simp [pk1, sB, sI, va_up, h2]
  · simp [pk2, wrk, wst, pst, pk1, sB, sI, va_up, h1, h2]
theorem pkS_B (S : wS) (ks pl i : Nat) (h1 : i ≠ 7) (h2 : i ≠ 8) (h3 : i ≠ 9) (h4 : i ≠ 16) (h5 : i ≠ 17) : (pkS S ks pl).2.1 i = S.2.1 i := by
  unfold pkS
  split
  · simp [pk1, sB, sI, va_up, h4, h5]
  · simp [pk2, wrk, wst, pst, pk1, sB, sI, va_up, h1, h2, h3, h4, h5]
/-- how many blocks KEY took -/
def pkQ (ks : Nat) : Nat := if ks ≤ 64 then 0 else padL ks / 64
theorem pkS_17 (S : wS) (ks pl : Nat) : (pkS S ks pl).2.1 17 pl = nI (pkQ ks) := by
  unfold pkS pkQ
  split
  · simp [sB, va_up, upd]
  · simp [sB, va_up, upd]
