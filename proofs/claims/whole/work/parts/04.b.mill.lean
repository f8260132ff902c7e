section CP
variable {p : Program} {l : Launch} {e : Env} {R : Room} {s : State} {m : MethodId} {args : Array Value} {below : List Frame} {meth : Method} {c : Code} {H : Heap} {locs : List Loc} {cells slots : Nat} {Q : State → Prop}
variable {cc : ByteArray} {pc : Nat} {ls : Array Slot} {rest : List Value}
variable {D : va_G} {tys : List (ClassId × FieldType)} {n : Nat} {cy : Nat → ClassId} {ad : Nat → Nat} {sk : Nat → wK} {A : Nat → Prop} {S : wS} {own : String}
/-- arraycopy out of a static array -/
theorem wb_cpx {nm : String} {a0 L : Nat} {xs : Nat → Int32} (hx : p.tables.exec = Jvm.exec) (hb : c.code = cc) (hml : c.maxLocals = ls.size) (hg : ∀ w ∈ wsG, w.before args s = true) {index : Nat} (hown : s.vm.findClass own = some m.cls) (hlink : Cond.methodLink own index arraycopyName ∈ wsG) (hnat : Cond.native arraycopyName ∈ wsG) (hstat : Cond.static arraycopyName ∈ wsG) (hini : Cond.initialized "java/lang/System" ∈ wsG) (w : WB D tys n cy ad sk A s S H locs) (h : stZ nm a0 L xs A s) (i : Nat) (hi : i < n) {len : Nat} {g : Nat → Option Nat} (he : sk i = .inr (0, len, g)) (t0 : Nat) (ht : tys[t0]? = some (cy 0, .int)) {sp dp k : Nat} (h4 : sp + k ≤ L) (h5 : dp + k ≤ len) (hL : L < 2 ^ 31) (hlen : len < 2 ^ 31) {f : Nat → Int32} (hf : S.2.1 i = f) (hframes : 1 ≤ R.frames) (hlocals : (rest.map fun v => v.category).sum + 18 ≤ R.locals) (hdg : decode cc pc = .ok (.invokestatic index, 3))
    (kk : ∀ (H1 : Heap) (locs1 : List Loc), WB D tys n cy ad sk A s (sB S i (va_cpy xs f sp dp k)) H1 locs1 → W p l e R s m args below meth c H1 locs1 cells slots Q (F0 m (pc + 3) ls rest)) : W p l e R s m args below meth c H locs cells slots Q (F0 m pc ls (.int (nI k) :: .int (nI dp) :: .ref (ad i) :: .int (nI sp) :: .ref a0 :: rest)) := by
  subst hf
  refine va_copyx hx hb hml hown (hg _ hlink) (hg _ hnat) (hg _ hstat) (hg _ hini) w.1 w.2.1 w.2.2.1 w.2.2.2.1 h.2.1 h.2.2.1 h.2.2.2 i t0 ((wW_get hi).trans (by rw [wC_i he (by decide)])) ht (nI_pos (by omega)) (nI_pos (by omega)) (nI_pos (by omega)) (by rw [nI_clamp (by omega), nI_clamp (by omega)]; exact h4) (by rw [nI_clamp (by omega), nI_clamp (by omega)]; exact h5) hframes hlocals hdg (fun H1 locs1 hP hD hS => ?_)
  rw [nI_clamp (by omega), nI_clamp (by omega), nI_clamp (by omega), wW_set hi (sB_o he (by decide) _) (sB_n _)] at hP hD
  exact kk H1 locs1 ⟨w.1, hP, hD, hS, w.2.2.2.2⟩
/-- arraycopy within the world: ints (kind 0), bytes (kind 1) -/
theorem wb_cpi (hx : p.tables.exec = Jvm.exec) (hb : c.code = cc) (hml : c.maxLocals = ls.size) (hg : ∀ w ∈ wsG, w.before args s = true) {index : Nat} (hown : s.vm.findClass own = some m.cls) (hlink : Cond.methodLink own index arraycopyName ∈ wsG) (hnat : Cond.native arraycopyName ∈ wsG) (hstat : Cond.static arraycopyName ∈ wsG) (hini : Cond.initialized "java/lang/System" ∈ wsG) (w : WB D tys n cy ad sk A s S H locs) (j : Nat) (hj : j < n) {len0 : Nat} {g0 : Nat → Option Nat} {kd : Nat} (he0 : sk j = .inr (kd, len0, g0)) (i : Nat) (hi : i < n) {len : Nat} {g : Nat → Option Nat} (he : sk i = .inr (kd, len, g)) (hkd : kd < 2) (t0 : Nat) {ty : FieldType} (ht : tys[t0]? = some (cy kd, ty)) (hprim : refKind ty = false) {sp dp k : Nat} (h4 : sp + k ≤ len0) (h5 : dp + k ≤ len) (hL : len0 < 2 ^ 31) (hlen : len < 2 ^ 31) {f f0 : Nat → Int32} (hf : S.2.1 i = f) (hf0 : S.2.1 j = f0) (hfit : ∀ i, i < k → fits ty (.int (f0 (sp + i))) = true) (hframes : 1 ≤ R.frames) (hlocals : (rest.map fun v => v.category).sum + 18 ≤ R.locals) (hdg : decode cc pc = .ok (.invokestatic index, 3))
    (kk : ∀ (H1 : Heap) (locs1 : List Loc), WB D tys n cy ad sk A s (sB S i (va_cpy f0 f sp dp k)) H1 locs1 → W p l e R s m args below meth c H1 locs1 cells slots Q (F0 m (pc + 3) ls rest)) : W p l e R s m args below meth c H locs cells slots Q (F0 m pc ls (.int (nI k) :: .int (nI dp) :: .ref (ad i) :: .int (nI sp) :: .ref (ad j) :: rest)) := by
  subst hf; subst hf0
  refine va_copyi hx hb hml hown (hg _ hlink) (hg _ hnat) (hg _ hstat) (hg _ hini) w.1 w.2.1 w.2.2.1 w.2.2.2.1 j i t0 t0 ((wW_get hj).trans (by rw [wC_i he0 hkd])) ((wW_get hi).trans (by rw [wC_i he hkd])) ht ht hprim (nI_pos (by omega)) (nI_pos (by omega)) (nI_pos (by omega)) (by rw [nI_clamp (by omega), nI_clamp (by omega)]; exact h4) (by rw [nI_clamp (by omega), nI_clamp (by omega)]; exact h5) (by rw [nI_clamp (by omega), nI_clamp (by omega)]; exact hfit) hframes hlocals hdg (fun H1 locs1 hP hD hS => ?_)
  rw [nI_clamp (by omega), nI_clamp (by omega), nI_clamp (by omega), wW_set hi (sB_o he hkd _) (sB_n _)] at hP hD
  exact kk H1 locs1 ⟨w.1, hP, hD, hS, w.2.2.2.2⟩
end CP
/-- an int array of 64 -/
def skSp : Nat → wK := fun _ => .inr (0, 64, fun _ => none)
/-- a mill, its h, its w; byte arrays of len behind -/
def skMi (len : Nat) : Nat → wK := fun i => match i with
  | 0 => .inl (5, [some 1, some 2, none, none, none])
  | 1 => .inr (0, 8, fun _ => none)
  | 2 => .inr (0, 64, fun _ => none)
  | _ => .inr (1, len, fun _ => none)
def pW (w : Nat → Int32) (fl : Nat) (b : Int32) : Nat → Int32 := upd w (fl / 4) ((w (fl / 4) <<< (nI 8 &&& 31)) ||| (b &&& nI 255))
/-- behind Mill.work() -/
def mwk (S : wS) : wS := sB (sB S 2 (schN (S.2.1 2) 48)) 1 (cmpB kC (S.2.1 1) (schN (S.2.1 2) 48))
/-- behind Mill.put(b) -/
def mpt (S : wS) (fl bl : Nat) (b : Int32) : wS := if fl + 1 = 64 then mwk (sI (sI (sB S 2 (pW (S.2.1 2) fl b)) 0 2 (nI 0)) 0 4 (nI (bl + 1))) else sI (sB S 2 (pW (S.2.1 2) fl b)) 0 2 (nI (fl + 1))
