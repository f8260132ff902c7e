theorem Lie.I {n : Nat} {cy : Nat → ClassId} {ad : Nat → Nat} {sk : Nat → wK} {S : wS} {n2 : Nat} {sk2 : Nat → wK} {f : Nat → Nat} {fi : Nat → Option Nat} (h : Lie n sk n2 sk2 f fi) {k : Nat} (hk : k < n2) (j : Nat) (v : Int32) : SubT n cy ad sk S n2 (fun k => ad (f k)) sk2 (sI (pul S f) k j v) f (sI S (f k) j v) := by
  have := h.T (cy := cy) (ad := ad) (S := S) (sI (pul S f) k j v)
  rwa [psh_sI h _ hk, psh_pul h] at this
theorem Lie.B {n : Nat} {cy : Nat → ClassId} {ad : Nat → Nat} {sk : Nat → wK} {S : wS} {n2 : Nat} {sk2 : Nat → wK} {f : Nat → Nat} {fi : Nat → Option Nat} (h : Lie n sk n2 sk2 f fi) {k : Nat} (hk : k < n2) (v : Nat → Int32) : SubT n cy ad sk S n2 (fun k => ad (f k)) sk2 (sB (pul S f) k v) f (sB S (f k) v) := by
  have := h.T (cy := cy) (ad := ad) (S := S) (sB (pul S f) k v)
  rwa [psh_sB h _ hk, psh_pul h] at this
theorem nI_m1 {k : Nat} (h : k < 2 ^ 31) : ¬ nI k = (-1) := fun e => by
  have := nI_pos (n := k) h
  rw [e] at this
  exact this (by decide)
/-- the digest of a leaf of kind kd, the tape of t bytes f -/
def lfD (kd t : Nat) (f : Nat → Int32) : Nat → Int32 := shaC kC wC0 (lfB (nI kd) (nI t) (ub f)) (0 + 1 + 1 + 1 + t)
/-- behind setLeaf -/
def slP (S : wS) (tr lf kd t : Nat) (S' : wS) : Prop := ∃ T, wr1 (sB S (39 + 3 * tr) (upd (S.2.1 (39 + 3 * tr)) lf (nI kd))) T (182 + 24 * tr + lf) (lfD kd t (S.2.1 59)) ∧ S' = sI T 58 1 (nI 0)
/-- the digest that the store's spot is cut from -/
def spH (t : Nat) (f : Nat → Int32) : Nat → Int32 := shaC kC wC0 (ub f) (0 + t)
def spD (t : Nat) (f : Nat → Int32) : Int32 := sbH (spH t f) 31 &&& nI 15
theorem full_0 {d : Nat} (h : nI (if d < 60 then 0 else 1) = 0) : d < 60 := by
  by_cases h1 : d < 60
  · exact h1
  · rw [if_neg h1] at h; exact absurd h (by decide)
theorem full_1 {d : Nat} (h : ¬ nI (if d < 60 then 0 else 1) = 0) : 60 ≤ d := by
  by_cases h1 : d < 60
  · rw [if_pos h1] at h; exact absurd rfl h
  · omega
section RA
variable {p : Program} {l : Launch} {e : Env} {R : Room} {s : State} {m : MethodId} {args : Array Value} {below : List Frame} {meth : Method} {c : Code} {H : Heap} {locs : List Loc} {cells slots : Nat} {Q : State → Prop} {pc : Nat} {ls : Array Slot} {rest : List Value}
theorem lv_ra {ad : Nat → Nat} {x y : Nat} (h : x = y) (k : W p l e R s m args below meth c H locs cells slots Q (F0 m pc ls (.ref (ad y) :: rest))) : W p l e R s m args below meth c H locs cells slots Q (F0 m pc ls (.ref (ad x) :: rest)) := h ▸ k
end RA
