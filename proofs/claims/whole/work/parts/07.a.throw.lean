/-! Methods that may throw ArrayIndexOutOfBoundsException -/
def nmA : List String := ["java/lang/IndexOutOfBoundsException", "java/lang/RuntimeException", "java/lang/Exception"]
def rnA : String := "java/lang/ArrayIndexOutOfBoundsException"
def atA : List Cond := vx_atS "DigestTrees" 139 rnA nmA
theorem atA_in : (atA.filter goodWord).all (fun w => decide (w ∈ lw_tbl)) = true := by decide +kernel
def dcA : List MethodName := [⟨"java/lang/IndexOutOfBoundsException", "<init>", "(Ljava/lang/String;)V"⟩, ⟨"java/lang/RuntimeException", "<init>", "(Ljava/lang/String;)V"⟩, ⟨"java/lang/Exception", "<init>", "(Ljava/lang/String;)V"⟩, ⟨"java/lang/Throwable", "<init>", "(Ljava/lang/String;)V"⟩]
theorem atA_bad : (atA.filter (fun w => !goodWord w)).all (fun w => decide (w ∈ dcA.map Cond.declares ++ [Cond.castable rnA rnA])) = true := by decide +kernel
theorem atA_ot : (Cond.classLink "DigestTrees" 135 rnA :: Cond.initialized rnA :: atA).all vx_ot = true := by decide +kernel
theorem nmA_ok : ∀ n ∈ nmA, Bundle.fit n = true := by
  have h : nmA.all Bundle.fit = true := by decide +kernel
  exact List.all_eq_true.mp h
theorem rnA_ok : Bundle.fit rnA = true := by decide +kernel
def exW (U : State) : Prop := (∀ x ∈ dcA, va_Nw (.declares x) U) ∧ va_Nw (.castable rnA rnA) U
theorem exW.mv {s U : State} (h : exW s) (hW : s.WarmedH U.vm) : exW U := ⟨fun x hx => va_Nw.warmD hW (h.1 x hx), va_Nw.warmC hW h.2⟩
theorem exW.bl {U : State} (h : exW U) (g : JFrame) (mk : MethodId) (v : Array Value) : exW (U.calling g mk v) := ⟨fun x hx => va_Nw.same rfl (u := U) (U := U.calling g mk v) rfl (h.1 x hx), va_Nw.same rfl (u := U) (U := U.calling g mk v) rfl h.2⟩
theorem exW.all {args : Array Value} {s : State} (h : exW s) (hg : ∀ w ∈ wsG, w.before args s = true) : ∀ w ∈ atA, w.before args s = true := by
  refine vx_hat (B := dcA.map Cond.declares ++ [Cond.castable rnA rnA]) (fun w hw => ?_) (fun w hw => ?_) (fun w hw => ?_)
  · have h1 := List.all_eq_true.mp atA_in w hw
    exact hg w (wsG_in (of_decide_eq_true h1) (List.mem_filter.mp hw).2)
  · exact of_decide_eq_true (List.all_eq_true.mp atA_bad w hw)
  · rcases List.mem_append.mp hw with h1 | h1
    · obtain ⟨x, hx, rfl⟩ := List.mem_map.mp h1
      exact va_Nw.use rfl (h.1 x hx)
    · obtain rfl := List.mem_singleton.mp h1
      exact va_Nw.use rfl h.2
/-- the texts -/
def sxL : List (Nat × String) := [(137, "not all of it is in the digest"), (150, "a block has W(0) to W(63)"), (160, "there are K(0) to K(63)"), (236, "rows have numbers 0 to 39"), (240, "no such row is kept"), (246, "the row has no such byte")]
def EX (al sx : Nat → Nat) : (Nat → Prop) → State → Prop := fun A U => EC al A U ∧ vx_Zq Bundle.tN "UNASSIGNED_STACK" Bundle.steD A U U.heap ∧ vx_Zq Bundle.tN "SUPPRESSED_SENTINEL" Bundle.listD A U U.heap ∧ exW U ∧ ∀ q ∈ sxL, vk_R "DigestTrees" q.1 q.2 (sx q.1) U
theorem zq_mv {C n d : String} {A A' : Nat → Prop} {s U : State} {H : Heap} {locs : List Loc} (h : vx_Zq C n d A s s.heap) (hU : U.heap = H) (hS : va_S A s.heap H locs) (hW : s.WarmedH U.vm) (hA : ∀ q, A' q → A q) : vx_Zq C n d A' U U.heap := by
  subst hU
  exact vx_Zq.narrow (vx_Zq.kept (vx_Zq.moved hW.alike h) (fun q g1 g2 => hS.2.1 q g1 g2)) hA
theorem EX_ok (al sx : Nat → Nat) : EOk (EX al sx) := ⟨fun A A' s U H locs h hU hS hW hA => ⟨(EC_ok al).1 A A' s U H locs h.1 hU hS hW hA, zq_mv h.2.1 hU hS hW hA, zq_mv h.2.2.1 hU hS hW hA, h.2.2.2.1.mv hW, fun q hq => vk_R.warm hW (h.2.2.2.2 q hq)⟩,
  fun A U g mk v h => ⟨(EC_ok al).2 A U g mk v h.1, vx_Zq.moved (u := U) (U := U.calling g mk v) (Vm.Alike.refl U.vm) h.2.1, vx_Zq.moved (u := U) (U := U.calling g mk v) (Vm.Alike.refl U.vm) h.2.2.1, h.2.2.2.1.bl g mk v, fun q hq => vk_R.same (u := U) (U := U.calling g mk v) rfl (h.2.2.2.2 q hq)⟩⟩
/-- what a throw leaves -/
abbrev wXC (px : String → wS → Prop) (D : va_G) (tys : List (ClassId × FieldType)) (n : Nat) (cy : Nat → ClassId) (ad : Nat → Nat) (sk : Nat → wK) (S : wS) (sz : Nat) : String → State → State → Prop := vx_X (S := wS) (fun _ => True) (fun E9 u t => px E9 u ∧ wPost D tys n cy ad sk S sz u t) (va_A (wW n cy ad sk S) sz)
def CtXi (l : Launch) (y : MethodName) (ws : List Cond) (fr lo ns : Nat) (av : List Value) (D : va_G) (tys : List (ClassId × FieldType)) (n : Nat) (cy : Nat → ClassId) (ad : Nat → Nat) (sk : Nat → wK) (E : (Nat → Prop) → State → Prop) (S : wS) (post : Int32 → wS → Prop) (px : String → wS → Prop) : Prop :=
  ∀ sz : Nat, vx_Met l y ws ({ frames := fr, cells := 1, slots := ns, locals := lo }) (va_Pc av (wPre D tys n cy ad sk E S sz)) (va_Qi post (wPost D tys n cy ad sk S sz) (va_A (wW n cy ad sk S) sz)) (wXC px D tys n cy ad sk S sz) 1 ns (va_A (wW n cy ad sk S) sz)
def CtXl (l : Launch) (y : MethodName) (ws : List Cond) (fr lo ns : Nat) (av : List Value) (D : va_G) (tys : List (ClassId × FieldType)) (n : Nat) (cy : Nat → ClassId) (ad : Nat → Nat) (sk : Nat → wK) (E : (Nat → Prop) → State → Prop) (S : wS) (post : Int64 → wS → Prop) (px : String → wS → Prop) : Prop :=
  ∀ sz : Nat, vx_Met l y ws ({ frames := fr, cells := 1, slots := ns, locals := lo }) (va_Pc av (wPre D tys n cy ad sk E S sz)) (va_Ql post (wPost D tys n cy ad sk S sz) (va_A (wW n cy ad sk S) sz)) (wXC px D tys n cy ad sk S sz) 1 ns (va_A (wW n cy ad sk S) sz)
section CX
variable {l : Launch} {y : MethodName} {cc : ByteArray} {maxL fr lo ns : Nat} {ret : Option FieldType} {av : List Value} {D : va_G} {tys : List (ClassId × FieldType)} {n : Nat} {cy : Nat → ClassId} {ad : Nat → Nat} {sk : Nat → wK} {E : (Nat → Prop) → State → Prop} {S : wS}
theorem Ct_bodyX {Qc : Nat → Array Value → State → Outcome → State → Prop} {XC : Nat → String → State → State → Prop} (hy : plainName y.cls = true) (hlen : (lg_sl av).length ≤ maxL)
    (body : ∀ (p : Program) (e : Env) (s : State) (m : MethodId) (args : Array Value) (below : List Frame) (meth : Method) (c : Code) (A : Nat → Prop) (ls : Array Slot), A = va_A (wW n cy ad sk S) s.heap.size → (∀ x ∈ c.exceptionTable.toList, False) → Bd p s m args meth c y.cls cc maxL ret av D tys n cy ad sk E S A ls →
      W p l e ({ frames := fr, cells := 1, slots := ns, locals := lo }) s m args below meth c s.heap [] 0 0 (vx_MQ below (Qc s.heap.size) (XC s.heap.size) args s 1 ns A) (F0 m 0 ls [])) :
    ∀ sz : Nat, vx_Met l y (Cond.code y cc maxL ret :: wsG) ({ frames := fr, cells := 1, slots := ns, locals := lo }) (va_Pc av (wPre D tys n cy ad sk E S sz)) (Qc sz) (XC sz) 1 ns (va_A (wW n cy ad sk S) sz) := by
  intro sz
  refine vx_ofW (cc := cc) (maxL := maxL) (ret := ret) hy rfl ?_
  intro p e s m args below meth c s₁ B hml htab hv
  obtain ⟨rfl, hsz, hP, hK, hD0, hE⟩ := hv
  subst hsz
  have hts := atoms_spec (ws := Cond.code y cc maxL ret :: wsG) B.pre
  rw [lg_entry_eq]
  exact body p e s m av.toArray below meth c _ _ rfl htab ⟨B.exec, B.bytes, B.returns, fun w h => hts w (List.mem_cons_of_mem _ h), findClass_of_methodNamed B.named, hml, B.notSynchronized, ⟨hK, hP, hD0.self, va_S.rf, fun q h => Or.inr h⟩, hE, lv_entry av hlen⟩
end CX
section CXR
variable {p : Program} {l : Launch} {e : Env} {R : Room} {s : State} {m : MethodId} {args : Array Value} {below : List Frame} {meth : Method} {c : Code} {H : Heap} {locs : List Loc} {cells slots : Nat}
variable {cc : ByteArray} {pc : Nat} {ls : Array Slot} {rest : List Value} {Qc : Array Value → State → Outcome → State → Prop}
variable {D : va_G} {tys : List (ClassId × FieldType)} {n : Nat} {cy : Nat → ClassId} {ad : Nat → Nat} {sk : Nat → wK} {A : Nat → Prop} {S S0 : wS}
/-- the world behind a throw: the heap may have grown -/
theorem wXC_of {px : String → wS → Prop} {E9 : String} (hA : A = va_A (wW n cy ad sk S0) s.heap.size) (w : WB D tys n cy ad sk A s S H locs) (hp : px E9 S) {t : State} (ha : s.vm.Alike t.vm) (h1 : H.size ≤ t.heap.size) (h2 : ∀ q : Nat, q < H.size → t.heap[q]? = H[q]?) : wXC px D tys n cy ad sk S0 s.heap.size E9 s t := by
  subst hA
  refine ⟨S, trivial, ⟨hp, fun i q hi => ?_, va_K.moved ha w.1, w.2.2.1⟩, Nat.le_trans w.2.2.2.1.1 h1, fun q g1 g2 => (h2 q (Nat.lt_of_lt_of_le g1 w.2.2.2.1.1)).trans (w.2.2.2.1.2.1 q g1 g2)⟩
  have h0 := w.2.1 i q hi
  exact h0.kept (h2 _ h0.lt)
theorem wb_thr {px : String → wS → Prop} {al sx : Nat → Nat} {ns is : Nat} {tx : String} (hx : p.tables.exec = Jvm.exec) (hb : c.code = cc) (hl : l.stackTraces = false) (hg : ∀ w ∈ wsG, w.before args s = true) (hown : s.vm.findClass "DigestTrees" = some m.cls) (htab : ∀ x ∈ c.exceptionTable.toList, False) (hlk : meth.locks = false) (hE : EX al sx A s) (hA : A = va_A (wW n cy ad sk S0) s.heap.size) (w : WB D tys n cy ad sk A s S H locs) (hk : Cond.classLink "DigestTrees" 135 rnA ∈ wsG) (hini : Cond.initialized rnA ∈ wsG) (hp : px rnA S) (hs9 : (is, tx) ∈ sxL) (hls : ls.size = c.maxLocals)
    (d0 : decode cc pc = .ok (.new 135, 3)) (d3 : decode cc (pc + 3) = .ok (.dup, 1)) (d4 : decode cc (pc + 4) = .ok (.ldc is, 2)) (d6 : decode cc (pc + 6) = .ok (.invokespecial 139, 3)) (d9 : decode cc (pc + 9) = .ok (.athrow, 1)) (hRf : 6 < R.frames) (hRl : 95 ≤ R.locals) (hRc : 1 ≤ R.cells) (hRs : 6 ≤ R.slots) (hns : 6 ≤ ns) :
    W p l e R s m args below meth c H locs 0 0 (vx_MQ below Qc (wXC px D tys n cy ad sk S0 s.heap.size) args s 1 ns A) (F0 m pc ls []) := by
  refine vx_throwS (is := is) (ik := 135) (ic := 139) (names := nmA) (text := tx) (A := A) hx hb hl hown rnA_ok nmA_ok (hg _ hk) (hg _ hini) (hE.2.2.2.2 _ hs9) (hE.2.2.2.1.all hg) (List.all_eq_true.mp atA_ot) hE.2.1 hE.2.2.1 w.2.2.2.1 hls d0 d3 d4 d6 d9 (fun x hx => (htab x hx).elim) hRf (by show 0 + 95 ≤ R.locals; omega) (by omega) (by omega) hlk (fun t ha h1 h2 => wXC_of hA w hp ha h1 h2) w.2.2.2.1.2.2 (by omega) (by omega)
end CXR
section SX
variable {l : Launch} {y : MethodName} {cc : ByteArray} {maxL fr lo ns : Nat} {av : List Value} {D : va_G} {tys : List (ClassId × FieldType)} {n : Nat} {cy : Nat → ClassId} {ad : Nat → Nat} {sk : Nat → wK} {al sx : Nat → Nat} {S : wS} {px : String → wS → Prop}
/-- how a walk throws -/
abbrev Thr (p : Program) (l : Launch) (e : Env) (R : Room) (s : State) (m : MethodId) (args : Array Value) (below : List Frame) (meth : Method) (c : Code) (Q : State → Prop) (cc : ByteArray) (D : va_G) (tys : List (ClassId × FieldType)) (n : Nat) (cy : Nat → ClassId) (ad : Nat → Nat) (sk : Nat → wK) (A : Nat → Prop) (maxL : Nat) (px : String → wS → Prop) : Prop :=
  ∀ (S' : wS) (H : Heap) (locs : List Loc) (pc : Nat) (ls : Array Slot) (is : Nat) (tx : String), (is, tx) ∈ sxL → px rnA S' → WB D tys n cy ad sk A s S' H locs → ls.size = maxL → decode cc pc = .ok (.new 135, 3) → decode cc (pc + 3) = .ok (.dup, 1) → decode cc (pc + 4) = .ok (.ldc is, 2) → decode cc (pc + 6) = .ok (.invokespecial 139, 3) → decode cc (pc + 9) = .ok (.athrow, 1) → W p l e R s m args below meth c H locs 0 0 Q (F0 m pc ls [])
theorem CtXi_of {post : Int32 → wS → Prop} {rt : FieldType} (hl : l.stackTraces = false) (hyd : y.cls = "DigestTrees") (hy : plainName y.cls = true) (hlen : (lg_sl av).length ≤ maxL) (hfr : 7 ≤ fr) (hlo : 95 ≤ lo) (hns : 6 ≤ ns) (hk : Cond.classLink "DigestTrees" 135 rnA ∈ wsG) (hini : Cond.initialized rnA ∈ wsG)
    (body : ∀ (p : Program) (e : Env) (s : State) (m : MethodId) (args : Array Value) (below : List Frame) (meth : Method) (c : Code) (A : Nat → Prop) (ls : Array Slot) (R : Room) (Q : State → Prop), Bd p s m args meth c y.cls cc maxL (some rt) av D tys n cy ad sk (EX al sx) S A ls → R.frames = fr → R.locals = lo →
      (∀ (v : Int32) (S' : wS) (H : Heap) (locs : List Loc) (pc : Nat) (ls : Array Slot), post v S' → narrow rt (.int v) = .int v → WB D tys n cy ad sk A s S' H locs → decode cc pc = .ok (.ireturn, 1) → W p l e R s m args below meth c H locs 0 0 Q (F0 m pc ls [.int v])) →
      Thr p l e R s m args below meth c Q cc D tys n cy ad sk A maxL px →
      W p l e R s m args below meth c s.heap [] 0 0 Q (F0 m 0 ls [])) :
    CtXi l y (Cond.code y cc maxL (some rt) :: wsG) fr lo ns av D tys n cy ad sk (EX al sx) S post px :=
  Ct_bodyX (Qc := fun sz => va_Qi post (wPost D tys n cy ad sk S sz) (va_A (wW n cy ad sk S) sz)) (XC := fun sz => wXC px D tys n cy ad sk S sz) hy hlen (fun p e s m args below meth c A ls hA htab B => body p e s m args below meth c A ls _ _ B rfl rfl
    (fun v S' H locs pc ls hp hn w hdg => W.widen (Nat.zero_le _) (Nat.zero_le _) (vx_ret (wb_iret B.1 B.2.1 B.2.2.1 hn B.2.2.2.2.2.2.1 hA w hp hdg)))
    (fun S' H locs pc ls is tx h1 h2 w h3 d0 d3 d4 d6 d9 => wb_thr B.1 B.2.1 hl B.2.2.2.1 (by rw [← hyd]; exact B.2.2.2.2.1) htab B.2.2.2.2.2.2.1 B.2.2.2.2.2.2.2.2.1 hA w hk hini h2 h1 (h3.trans B.2.2.2.2.2.1.symm) d0 d3 d4 d6 d9 (by show 6 < fr; omega) hlo (Nat.le_refl _) hns hns))
theorem CtXl_of {post : Int64 → wS → Prop} (hl : l.stackTraces = false) (hyd : y.cls = "DigestTrees") (hy : plainName y.cls = true) (hlen : (lg_sl av).length ≤ maxL) (hfr : 7 ≤ fr) (hlo : 95 ≤ lo) (hns : 6 ≤ ns) (hk : Cond.classLink "DigestTrees" 135 rnA ∈ wsG) (hini : Cond.initialized rnA ∈ wsG)
    (body : ∀ (p : Program) (e : Env) (s : State) (m : MethodId) (args : Array Value) (below : List Frame) (meth : Method) (c : Code) (A : Nat → Prop) (ls : Array Slot) (R : Room) (Q : State → Prop), Bd p s m args meth c y.cls cc maxL (some .long) av D tys n cy ad sk (EX al sx) S A ls → R.frames = fr → R.locals = lo →
      (∀ (v : Int64) (S' : wS) (H : Heap) (locs : List Loc) (pc : Nat) (ls : Array Slot), post v S' → WB D tys n cy ad sk A s S' H locs → decode cc pc = .ok (.lreturn, 1) → W p l e R s m args below meth c H locs 0 0 Q (F0 m pc ls [.long v])) →
      Thr p l e R s m args below meth c Q cc D tys n cy ad sk A maxL px →
      W p l e R s m args below meth c s.heap [] 0 0 Q (F0 m 0 ls [])) :
    CtXl l y (Cond.code y cc maxL (some .long) :: wsG) fr lo ns av D tys n cy ad sk (EX al sx) S post px :=
  Ct_bodyX (Qc := fun sz => va_Ql post (wPost D tys n cy ad sk S sz) (va_A (wW n cy ad sk S) sz)) (XC := fun sz => wXC px D tys n cy ad sk S sz) hy hlen (fun p e s m args below meth c A ls hA htab B => body p e s m args below meth c A ls _ _ B rfl rfl
    (fun v S' H locs pc ls hp w hdg => W.widen (Nat.zero_le _) (Nat.zero_le _) (vx_ret (wb_lret B.1 B.2.1 B.2.2.1 B.2.2.2.2.2.2.1 hA w hp hdg)))
    (fun S' H locs pc ls is tx h1 h2 w h3 d0 d3 d4 d6 d9 => wb_thr B.1 B.2.1 hl B.2.2.2.1 (by rw [← hyd]; exact B.2.2.2.2.1) htab B.2.2.2.2.2.2.1 B.2.2.2.2.2.2.2.2.1 hA w hk hini h2 h1 (h3.trans B.2.2.2.2.2.1.symm) d0 d3 d4 d6 d9 (by show 6 < fr; omega) hlo (Nat.le_refl _) hns hns))
end SX
