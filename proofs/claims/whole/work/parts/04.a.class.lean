/-! What the class's methods take as given beside their worlds: the static arrays, the links among nest mates -/
def stZ (nm : String) (a L : Nat) (xs : Nat → Int32) (A : Nat → Prop) (U : State) : Prop := va_Z "DigestTrees" nm "[I" (.ref a) A U U.heap ∧ va_X a L xs U U.heap ∧ a < U.heap.size ∧ ¬ A a
theorem stZ.mv {nm : String} {a L : Nat} {xs : Nat → Int32} {A A' : Nat → Prop} {s U : State} {H : Heap} {locs : List Loc} (h : stZ nm a L xs A s) (hU : U.heap = H) (hS : va_S A s.heap H locs) (hW : s.WarmedH U.vm) (hA : ∀ q, A' q → A q) : stZ nm a L xs A' U := by
  subst hU
  obtain ⟨h1, h2, h3, h4⟩ := h
  refine ⟨va_Z.narrow (va_Z.kept (va_Z.moved hW.alike h1) (fun q g1 g2 => hS.2.1 q g1 g2)) hA, va_X.kept (va_X.moved hW.alike h2) (hS.2.1 a h3 h4), Nat.lt_of_lt_of_le h3 hS.1, fun q => h4 (hA _ q)⟩
theorem stZ.bl {nm : String} {a L : Nat} {xs : Nat → Int32} {A : Nat → Prop} {U : State} (h : stZ nm a L xs A U) (g : JFrame) (mk : MethodId) (v : Array Value) : stZ nm a L xs A (U.calling g mk v) := by
  obtain ⟨h1, h2, h3, h4⟩ := h
  exact ⟨va_Z.moved (u := U) (U := U.calling g mk v) (Vm.Alike.refl U.vm) h1, va_X.moved (u := U) (U := U.calling g mk v) (Vm.Alike.refl U.vm) h2, h3, h4⟩
def nsF : List (String × Nat × String × String) := [("DigestTrees$Message", 44, "DigestTrees", "WIDE_START"), ("DigestTrees$Mill", 53, "DigestTrees", "K"), ("DigestTrees$Message", 40, "DigestTrees", "NARROW_START")]
def nsM : List (String × Nat × MethodName) := [("DigestTrees", 9, ⟨"DigestTrees$Bytes", "<init>", "()V"⟩), ("DigestTrees", 21, ⟨"DigestTrees$Mill", "<init>", "()V"⟩), ("DigestTrees", 41, ⟨"DigestTrees$Shelf", "<init>", "()V"⟩), ("DigestTrees", 54, ⟨"DigestTrees$Proof", "<init>", "()V"⟩), ("DigestTrees", 61, ⟨"DigestTrees$Store", "<init>", "()V"⟩), ("DigestTrees", 70, ⟨"DigestTrees$Tree", "<init>", "()V"⟩), ("DigestTrees$Mill", 43, ⟨"DigestTrees", "spread", "([I)V"⟩), ("DigestTrees$Shelf", 35, ⟨"DigestTrees", "bytesOf", "(I)I"⟩), ("DigestTrees$Tree", 30, ⟨"DigestTrees", "digestPair", "(LDigestTrees$Mill;[B[B[B)V"⟩), ("DigestTrees$Proof", 32, ⟨"DigestTrees", "digestPair", "(LDigestTrees$Mill;[B[B[B)V"⟩), ("DigestTrees$Store", 39, ⟨"DigestTrees", "alike", "([B[BI)Z"⟩), ("DigestTrees$Shelf", 54, ⟨"DigestTrees", "spread", "([I)V"⟩)]
def nst (U : State) : Prop := (∀ q ∈ nsF, va_Nw (.fieldLinkNest q.1 q.2.1 q.2.2.1 q.2.2.2 "[I" "DigestTrees") U) ∧ ∀ q ∈ nsM, va_Nw (.methodLinkNest q.1 q.2.1 q.2.2 "DigestTrees") U
theorem nst.mv {s U : State} (h : nst s) (hW : s.WarmedH U.vm) : nst U := ⟨fun q hq => va_Nw.warmF hW (h.1 q hq), fun q hq => va_Nw.warmM hW (h.2 q hq)⟩
theorem nst.bl {U : State} (h : nst U) (g : JFrame) (mk : MethodId) (v : Array Value) : nst (U.calling g mk v) := ⟨fun q hq => va_Nw.same rfl (u := U) (U := U.calling g mk v) rfl (h.1 q hq), fun q hq => va_Nw.same rfl (u := U) (U := U.calling g mk v) rfl (h.2 q hq)⟩
/-- the class's constants -/
def kC : Nat → Int32 := fun t => ([0x428a2f98, 0x71374491, 0xb5c0fbcf, 0xe9b5dba5, 0x3956c25b, 0x59f111f1, 0x923f82a4, 0xab1c5ed5, 0xd807aa98, 0x12835b01, 0x243185be, 0x550c7dc3, 0x72be5d74, 0x80deb1fe, 0x9bdc06a7, 0xc19bf174, 0xe49b69c1, 0xefbe4786, 0x0fc19dc6, 0x240ca1cc, 0x2de92c6f, 0x4a7484aa, 0x5cb0a9dc, 0x76f988da, 0x983e5152, 0xa831c66d, 0xb00327c8, 0xbf597fc7, 0xc6e00bf3, 0xd5a79147, 0x06ca6351, 0x14292967, 0x27b70a85, 0x2e1b2138, 0x4d2c6dfc, 0x53380d13, 0x650a7354, 0x766a0abb, 0x81c2c92e, 0x92722c85, 0xa2bfe8a1, 0xa81a664b, 0xc24b8b70, 0xc76c51a3, 0xd192e819, 0xd6990624, 0xf40e3585, 0x106aa070, 0x19a4c116, 0x1e376c08, 0x2748774c, 0x34b0bcb5, 0x391c0cb3, 0x4ed8aa4a, 0x5b9cca4f, 0x682e6ff3, 0x748f82ee, 0x78a5636f, 0x84c87814, 0x8cc70208, 0x90befffa, 0xa4506ceb, 0xbef9a3f7, 0xc67178f2] : List Nat).map nI |>.getD t 0
def wC0 : Nat → Int32 := fun t => ([0x6a09e667, 0xbb67ae85, 0x3c6ef372, 0xa54ff53a, 0x510e527f, 0x9b05688c, 0x1f83d9ab, 0x5be0cd19] : List Nat).map nI |>.getD t 0
def nC0 : Nat → Int32 := fun t => ([0xc1059ed8, 0x367cd507, 0x3070dd17, 0xf70e5939, 0xffc00b31, 0x68581511, 0x64f98fa7, 0xbefa4fa4] : List Nat).map nI |>.getD t 0
def wdC : Nat → Int32 := fun t => nI (([1, 2, 2, 4, 8] : List Nat).getD t 0)
def EC (al : Nat → Nat) : (Nat → Prop) → State → Prop := fun A U => stZ "K" (al 0) 64 kC A U ∧ stZ "WIDE_START" (al 1) 8 wC0 A U ∧ stZ "NARROW_START" (al 2) 8 nC0 A U ∧ stZ "WIDTH_BYTES" (al 3) 5 wdC A U ∧ nst U
theorem EC_ok (al : Nat → Nat) : EOk (EC al) := ⟨fun _ _ _ _ _ _ h hU hS hW hA => ⟨h.1.mv hU hS hW hA, h.2.1.mv hU hS hW hA, h.2.2.1.mv hU hS hW hA, h.2.2.2.1.mv hU hS hW hA, h.2.2.2.2.mv hW⟩, fun _ _ g mk v h => ⟨h.1.bl g mk v, h.2.1.bl g mk v, h.2.2.1.bl g mk v, h.2.2.2.1.bl g mk v, h.2.2.2.2.bl g mk v⟩⟩
/-- a smaller world within: how it lies there -/
def SubA (n : Nat) (cy : Nat → ClassId) (ad : Nat → Nat) (sk : Nat → wK) (S : wS) (n2 : Nat) (ad2 : Nat → Nat) (sk2 : Nat → wK) (S2 : wS) (f : Nat → Nat) : Prop :=
  (∀ k, k < n2 → f k < n ∧ ad2 k = ad (f k) ∧ wC cy ad2 sk2 S2 k = wC cy ad sk S (f k)) ∧ ∀ k k', k < n2 → k' < n2 → f k = f k' → k = k'
/-- .. and that the state T has what came back, the rest as it was -/
def SubT (n : Nat) (cy : Nat → ClassId) (ad : Nat → Nat) (sk : Nat → wK) (S : wS) (n2 : Nat) (ad2 : Nat → Nat) (sk2 : Nat → wK) (S2' : wS) (f : Nat → Nat) (T : wS) : Prop :=
  (∀ k, k < n2 → wC cy ad sk T (f k) = wC cy ad2 sk2 S2' k) ∧ ∀ i, i < n → (∀ k, k < n2 → f k ≠ i) → wC cy ad sk T i = wC cy ad sk S i
section CR2
variable {p : Program} {l : Launch} {e : Env} {R : Room} {s : State} {m : MethodId} {args : Array Value} {below : List Frame} {meth : Method} {c : Code} {H : Heap} {locs : List Loc} {cells slots : Nat} {Q : State → Prop}
variable {cc : ByteArray} {pc : Nat} {ls : Array Slot} {rest st0 : List Value}
variable {D : va_G} {tys : List (ClassId × FieldType)} {n : Nat} {cy : Nat → ClassId} {ad : Nat → Nat} {sk : Nat → wK} {A : Nat → Prop} {S S0 : wS} {own : String}
variable {n2 : Nat} {ad2 : Nat → Nat} {sk2 : Nat → wK} {S2 : wS} {f : Nat → Nat} {tys2 : List (ClassId × FieldType)} {E2 : (Nat → Prop) → State → Prop}
theorem SubA.P (h : SubA n cy ad sk S n2 ad2 sk2 S2 f) (w : WB D tys n cy ad sk A s S H locs) : va_P D vwCl (wW n2 cy ad2 sk2 S2) H ∧ va_D (fun _ => True) (wW n2 cy ad2 sk2 S2) ∧ ∀ q, va_A (wW n2 cy ad2 sk2 S2) H.size q → A q := by
  refine ⟨fun k q hk => ?_, ⟨fun i j x z hi hj hxz => ?_, fun _ _ _ => trivial⟩, fun q hq => ?_⟩
  · obtain ⟨h1, rfl⟩ := wW_of hk
    obtain ⟨h2, h3, h4⟩ := h.1 k h1
    rw [h3, h4]
    exact w.2.1 _ _ (wW_get h2)
  · obtain ⟨h1, rfl⟩ := wW_of hi
    obtain ⟨h2, rfl⟩ := wW_of hj
    obtain ⟨a1, a2, a3⟩ := h.1 i h1
    obtain ⟨b1, b2, b3⟩ := h.1 j h2
    exact h.2 i j h1 h2 (w.2.2.1.1 _ _ _ _ (wW_get a1) (wW_get b1) (a2.symm.trans (hxz.trans b2)))
  · rcases hq with ⟨k, e9, hk⟩ | hq
    · obtain ⟨h1, h5⟩ := wW_of hk
      obtain ⟨h2, h3, h4⟩ := h.1 k h1
      have h6 : q = ad2 k := congrArg Prod.fst h5
      rw [h6, h3]
      exact w.2.2.1.2 _ _ (wW_get (S := S) h2)
    · exact w.2.2.2.2 q (Nat.le_trans w.2.2.2.1.1 hq)
theorem SubA.back (h : SubA n cy ad sk S n2 ad2 sk2 S2 f) (w : WB D tys n cy ad sk A s S H locs) {H1 : Heap} {locs1 : List Loc} {S2' T : wS} (hT : SubT n cy ad sk S n2 ad2 sk2 S2' f T) (hP1 : va_P D vwCl (wW n2 cy ad2 sk2 S2') H1) (hk : ∀ q : Nat, q < H.size → ¬ va_A (wW n2 cy ad2 sk2 S2) H.size q → H1[q]? = H[q]?) (hS : va_S A s.heap H1 locs1) : WB D tys n cy ad sk A s T H1 locs1 := by
  refine ⟨w.1, fun i q hi => ?_, wW_D w.2.2.1, hS, w.2.2.2.2⟩
  obtain ⟨h1, rfl⟩ := wW_of hi
  by_cases hx : ∃ k, k < n2 ∧ f k = i
  · obtain ⟨k, hk2, rfl⟩ := hx
    obtain ⟨g1, g2, g3⟩ := h.1 k hk2
    have h2 := hP1 k _ (wW_get hk2)
    rw [g2, ← hT.1 k hk2] at h2
    exact h2
  · have hn : ∀ k, k < n2 → f k ≠ i := fun k h3 h4 => hx ⟨k, h3, h4⟩
    rw [hT.2 i h1 hn]
    have h0 := w.2.1 i _ (wW_get h1)
    refine h0.kept (hk (ad i) h0.lt (fun hA => ?_))
    rcases hA with ⟨k, e9, hk2⟩ | hA
    · obtain ⟨h3, h5⟩ := wW_of hk2
      obtain ⟨g1, g2, g3⟩ := h.1 k h3
      have h6 : ad i = ad2 k := congrArg Prod.fst h5
      exact hn k h3 (w.2.2.1.1 _ _ _ _ (wW_get (S := S) g1) (wW_get (S := S) h1) (g2.symm.trans h6.symm))
    · have := h0.lt
      omega
theorem wPre_of2 (hE2 : EOk E2) (h : SubA n cy ad sk S n2 ad2 sk2 S2 f) (w : WB D tys n cy ad sk A s S H locs) (hE : E2 A s) (hty : va_K D vwCl tys2 s) {U : State} (hU : U.heap = H) (hW : s.WarmedH U.vm) (av2 : List Value) : va_Pc av2 (wPre D tys2 n2 cy ad2 sk2 E2 S2 H.size) av2.toArray U := by
  obtain ⟨h1, h2, h3⟩ := h.P w
  exact ⟨rfl, by rw [hU], by rw [hU]; exact h1, va_K.moved hW.alike hty, h2, hE2.1 A _ s U H locs hE hU w.2.2.2.1 hW h3⟩
variable {y : MethodName} {bytes : ByteArray} {maxL nL fr lo index na : Nat} {ret : Option FieldType} {As : List Value}
/-- what the caller goes on with behind a call into a smaller world -/
def Go (p : Program) (l : Launch) (e : Env) (R : Room) (s : State) (m : MethodId) (args : Array Value) (below : List Frame) (meth : Method) (c : Code) (cells slots : Nat) (Q : State → Prop) (D : va_G) (tys : List (ClassId × FieldType)) (n : Nat) (cy : Nat → ClassId) (ad : Nat → Nat) (sk : Nat → wK) (A : Nat → Prop) (S : wS) (n2 : Nat) (ad2 : Nat → Nat) (sk2 : Nat → wK) (f : Nat → Nat) (S2' : wS) (g : JFrame) : Prop :=
  ∀ (H1 : Heap) (locs1 : List Loc), (∀ T : wS, SubT n cy ad sk S n2 ad2 sk2 S2' f T → WB D tys n cy ad sk A s T H1 locs1) → W p l e R s m args below meth c H1 locs1 cells slots Q g
theorem wc_Vi {post : Int32 → wS → Prop} (hx : p.tables.exec = Jvm.exec) (hb : c.code = cc) (hml : c.maxLocals = nL) (hg : ∀ w ∈ wsG, w.before args s = true) (hown : s.vm.findClass own = some m.cls) (w : WB D tys n cy ad sk A s S H locs) (hE2 : EOk E2) (hE : E2 A s) (hty : va_K D vwCl tys2 s) (sub : SubA n cy ad sk S n2 ad2 sk2 S2 f) (i : Nat) (hi : i < n) {ci : Nat} {fs : List (Option Nat)} (he : sk i = .inl (ci, fs)) {q : vw_C} (hc : vwCl[ci]? = some q) (hM : CtI l y (Cond.code y bytes maxL ret :: wsG) fr lo (.ref (ad i) :: As) D tys2 n2 cy ad2 sk2 E2 S2 post) (hcd : Cond.code y bytes maxL ret ∈ wsG) (hini : Cond.initialized y.cls ∈ wsG) (hl : Cond.methodLink own index y ∈ wsG) (him : Cond.instanceMethod y ∈ wsG) (hsel : Cond.selects q.1 y y ∈ wsG) (hd : y.cls ≠ "java/lang/invoke/MethodHandle" ∧ y.cls ≠ "java/lang/invoke/VarHandle" ∧ (parseMethodDescriptor y.desc).map (fun d => d.parameters.length) = some na) (hR : fr + 1 ≤ R.frames ∧ 8 + (maxL + 11) + lo ≤ R.locals) (hn : As.length = na) (hsz : ls.size = nL) (hst : st0 = As.reverse ++ .ref (ad i) :: rest) (hcat : (rest.map fun v => v.category).sum ≤ 8) (hdg : decode cc pc = .ok (.invokevirtual index, 3)) (hf : cells ≤ R.cells ∧ slots ≤ R.slots)
    (kk : ∀ (r : Int32) (S' : wS), post r S' → Go p l e R s m args below meth c cells slots Q D tys n cy ad sk A S n2 ad2 sk2 f S' (F0 m (pc + 3) ls (.int r :: rest))) : W p l e R s m args below meth c H locs cells slots Q (F0 m pc ls st0) := by
  have h3 := (sub.P w).2.2
  refine va_calli (va_runV (As := As) (rest := rest) ⟨hx, hb, hml, hown, hg⟩ (hM H.size) ⟨wCallB hg hcd hini hl hd hR, hg _ him, hg _ hsel⟩ ⟨wPre_blind hE2, va_recv w.1 w.2.1 hc ((wW_get hi).trans (by rw [wC_o he])), fun U hU hW => wPre_of2 hE2 sub w hE hty hU hW _⟩ rfl hn hsz hst (lv_room hcat) hdg hf) w.2.2.2.1 (fun q _ h => h3 q h) h3 (fun r u t H1 locs1 ht hvm hw hB hz1 hk1 hS => ?_)
  exact kk r u hw H1 locs1 (fun T hT => sub.back w hT (by rw [← ht]; exact hB.1) hk1 hS)
theorem wc_Vv {post : wS → Prop} (hx : p.tables.exec = Jvm.exec) (hb : c.code = cc) (hml : c.maxLocals = nL) (hg : ∀ w ∈ wsG, w.before args s = true) (hown : s.vm.findClass own = some m.cls) (w : WB D tys n cy ad sk A s S H locs) (hE2 : EOk E2) (hE : E2 A s) (hty : va_K D vwCl tys2 s) (sub : SubA n cy ad sk S n2 ad2 sk2 S2 f) (i : Nat) (hi : i < n) {ci : Nat} {fs : List (Option Nat)} (he : sk i = .inl (ci, fs)) {q : vw_C} (hc : vwCl[ci]? = some q) (hM : CtV l y (Cond.code y bytes maxL ret :: wsG) fr lo (.ref (ad i) :: As) D tys2 n2 cy ad2 sk2 E2 S2 post) (hcd : Cond.code y bytes maxL ret ∈ wsG) (hini : Cond.initialized y.cls ∈ wsG) (hl : Cond.methodLink own index y ∈ wsG) (him : Cond.instanceMethod y ∈ wsG) (hsel : Cond.selects q.1 y y ∈ wsG) (hd : y.cls ≠ "java/lang/invoke/MethodHandle" ∧ y.cls ≠ "java/lang/invoke/VarHandle" ∧ (parseMethodDescriptor y.desc).map (fun d => d.parameters.length) = some na) (hR : fr + 1 ≤ R.frames ∧ 8 + (maxL + 11) + lo ≤ R.locals) (hn : As.length = na) (hsz : ls.size = nL) (hst : st0 = As.reverse ++ .ref (ad i) :: rest) (hcat : (rest.map fun v => v.category).sum ≤ 8) (hdg : decode cc pc = .ok (.invokevirtual index, 3)) (hf : cells ≤ R.cells ∧ slots ≤ R.slots)
    (kk : ∀ (S' : wS), post S' → Go p l e R s m args below meth c cells slots Q D tys n cy ad sk A S n2 ad2 sk2 f S' (F0 m (pc + 3) ls rest)) : W p l e R s m args below meth c H locs cells slots Q (F0 m pc ls st0) := by
  have h3 := (sub.P w).2.2
  refine va_callv (va_runV (As := As) (rest := rest) ⟨hx, hb, hml, hown, hg⟩ (hM H.size) ⟨wCallB hg hcd hini hl hd hR, hg _ him, hg _ hsel⟩ ⟨wPre_blind hE2, va_recv w.1 w.2.1 hc ((wW_get hi).trans (by rw [wC_o he])), fun U hU hW => wPre_of2 hE2 sub w hE hty hU hW _⟩ rfl hn hsz hst (lv_room hcat) hdg hf) w.2.2.2.1 (fun q _ h => h3 q h) h3 (fun u t H1 locs1 ht hvm hw hB hz1 hk1 hS => ?_)
  exact kk u hw H1 locs1 (fun T hT => sub.back w hT (by rw [← ht]; exact hB.1) hk1 hS)
theorem wc_Si {post : Int32 → wS → Prop} (hx : p.tables.exec = Jvm.exec) (hb : c.code = cc) (hml : c.maxLocals = nL) (hg : ∀ w ∈ wsG, w.before args s = true) (hown : s.vm.findClass own = some m.cls) (w : WB D tys n cy ad sk A s S H locs) (hE2 : EOk E2) (hE : E2 A s) (hty : va_K D vwCl tys2 s) (sub : SubA n cy ad sk S n2 ad2 sk2 S2 f) (hM : CtI l y (Cond.code y bytes maxL ret :: wsG) fr lo As D tys2 n2 cy ad2 sk2 E2 S2 post) (hcd : Cond.code y bytes maxL ret ∈ wsG) (hini : Cond.initialized y.cls ∈ wsG) (hl : Cond.methodLink own index y ∈ wsG) (hsta : Cond.static y ∈ wsG) (hd : y.cls ≠ "java/lang/invoke/MethodHandle" ∧ y.cls ≠ "java/lang/invoke/VarHandle" ∧ (parseMethodDescriptor y.desc).map (fun d => d.parameters.length) = some na) (hR : fr + 1 ≤ R.frames ∧ 8 + (maxL + 11) + lo ≤ R.locals) (hn : As.length = na) (hsz : ls.size = nL) (hst : st0 = As.reverse ++ rest) (hcat : (rest.map fun v => v.category).sum ≤ 8) (hdg : decode cc pc = .ok (.invokestatic index, 3)) (hf : cells ≤ R.cells ∧ slots ≤ R.slots)
    (kk : ∀ (r : Int32) (S' : wS), post r S' → Go p l e R s m args below meth c cells slots Q D tys n cy ad sk A S n2 ad2 sk2 f S' (F0 m (pc + 3) ls (.int r :: rest))) : W p l e R s m args below meth c H locs cells slots Q (F0 m pc ls st0) := by
  have h3 := (sub.P w).2.2
  refine va_calli (va_runS (As := As) (rest := rest) ⟨hx, hb, hml, hown, hg⟩ (hM H.size) ⟨wCallB hg hcd hini hl hd hR, hg _ hsta⟩ ⟨wPre_blind hE2, fun U hU hW => wPre_of2 hE2 sub w hE hty hU hW _⟩ rfl hn hsz hst (lv_room hcat) hdg hf) w.2.2.2.1 (fun q _ h => h3 q h) h3 (fun r u t H1 locs1 ht hvm hw hB hz1 hk1 hS => ?_)
  exact kk r u hw H1 locs1 (fun T hT => sub.back w hT (by rw [← ht]; exact hB.1) hk1 hS)
theorem wc_Sv {post : wS → Prop} (hx : p.tables.exec = Jvm.exec) (hb : c.code = cc) (hml : c.maxLocals = nL) (hg : ∀ w ∈ wsG, w.before args s = true) (hown : s.vm.findClass own = some m.cls) (w : WB D tys n cy ad sk A s S H locs) (hE2 : EOk E2) (hE : E2 A s) (hty : va_K D vwCl tys2 s) (sub : SubA n cy ad sk S n2 ad2 sk2 S2 f) (hM : CtV l y (Cond.code y bytes maxL ret :: wsG) fr lo As D tys2 n2 cy ad2 sk2 E2 S2 post) (hcd : Cond.code y bytes maxL ret ∈ wsG) (hini : Cond.initialized y.cls ∈ wsG) (hl : Cond.methodLink own index y ∈ wsG) (hsta : Cond.static y ∈ wsG) (hd : y.cls ≠ "java/lang/invoke/MethodHandle" ∧ y.cls ≠ "java/lang/invoke/VarHandle" ∧ (parseMethodDescriptor y.desc).map (fun d => d.parameters.length) = some na) (hR : fr + 1 ≤ R.frames ∧ 8 + (maxL + 11) + lo ≤ R.locals) (hn : As.length = na) (hsz : ls.size = nL) (hst : st0 = As.reverse ++ rest) (hcat : (rest.map fun v => v.category).sum ≤ 8) (hdg : decode cc pc = .ok (.invokestatic index, 3)) (hf : cells ≤ R.cells ∧ slots ≤ R.slots)
    (kk : ∀ (S' : wS), post S' → Go p l e R s m args below meth c cells slots Q D tys n cy ad sk A S n2 ad2 sk2 f S' (F0 m (pc + 3) ls rest)) : W p l e R s m args below meth c H locs cells slots Q (F0 m pc ls st0) := by
  have h3 := (sub.P w).2.2
  refine va_callv (va_runS (As := As) (rest := rest) ⟨hx, hb, hml, hown, hg⟩ (hM H.size) ⟨wCallB hg hcd hini hl hd hR, hg _ hsta⟩ ⟨wPre_blind hE2, fun U hU hW => wPre_of2 hE2 sub w hE hty hU hW _⟩ rfl hn hsz hst (lv_room hcat) hdg hf) w.2.2.2.1 (fun q _ h => h3 q h) h3 (fun u t H1 locs1 ht hvm hw hB hz1 hk1 hS => ?_)
  exact kk u hw H1 locs1 (fun T hT => sub.back w hT (by rw [← ht]; exact hB.1) hk1 hS)
/-- a nest mate's static method -/
theorem wc_SNi {post : Int32 → wS → Prop} {host : String} (hx : p.tables.exec = Jvm.exec) (hb : c.code = cc) (hml : c.maxLocals = nL) (hg : ∀ w ∈ wsG, w.before args s = true) (hown : s.vm.findClass own = some m.cls) (w : WB D tys n cy ad sk A s S H locs) (hE2 : EOk E2) (hE : E2 A s) (hty : va_K D vwCl tys2 s) (sub : SubA n cy ad sk S n2 ad2 sk2 S2 f) (hM : CtI l y (Cond.code y bytes maxL ret :: wsG) fr lo As D tys2 n2 cy ad2 sk2 E2 S2 post) (hcd : Cond.code y bytes maxL ret ∈ wsG) (hini : Cond.initialized y.cls ∈ wsG) (hl : va_Nw (.methodLinkNest own index y host) s) (hsta : Cond.static y ∈ wsG) (hd : y.cls ≠ "java/lang/invoke/MethodHandle" ∧ y.cls ≠ "java/lang/invoke/VarHandle" ∧ (parseMethodDescriptor y.desc).map (fun d => d.parameters.length) = some na) (hR : fr + 1 ≤ R.frames ∧ 8 + (maxL + 11) + lo ≤ R.locals) (hn : As.length = na) (hsz : ls.size = nL) (hst : st0 = As.reverse ++ rest) (hcat : (rest.map fun v => v.category).sum ≤ 8) (hdg : decode cc pc = .ok (.invokestatic index, 3)) (hf : cells ≤ R.cells ∧ slots ≤ R.slots)
    (kk : ∀ (r : Int32) (S' : wS), post r S' → Go p l e R s m args below meth c cells slots Q D tys n cy ad sk A S n2 ad2 sk2 f S' (F0 m (pc + 3) ls (.int r :: rest))) : W p l e R s m args below meth c H locs cells slots Q (F0 m pc ls st0) := by
  have h3 := (sub.P w).2.2
  refine va_calli (va_runSN (As := As) (rest := rest) ⟨hx, hb, hml, hown, hg⟩ (hM H.size) ⟨va_cnB na hg (gdG hcd) rfl rfl rfl hl (hg _ hini) hd hR, hg _ hsta, trivial⟩ ⟨wPre_blind hE2, fun U hU hW => wPre_of2 hE2 sub w hE hty hU hW _⟩ rfl hn hsz hst (lv_room hcat) hdg hf) w.2.2.2.1 (fun q _ h => h3 q h) h3 (fun r u t H1 locs1 ht hvm hw hB hz1 hk1 hS => ?_)
  exact kk r u hw H1 locs1 (fun T hT => sub.back w hT (by rw [← ht]; exact hB.1) hk1 hS)
theorem wc_SNv {post : wS → Prop} {host : String} (hx : p.tables.exec = Jvm.exec) (hb : c.code = cc) (hml : c.maxLocals = nL) (hg : ∀ w ∈ wsG, w.before args s = true) (hown : s.vm.findClass own = some m.cls) (w : WB D tys n cy ad sk A s S H locs) (hE2 : EOk E2) (hE : E2 A s) (hty : va_K D vwCl tys2 s) (sub : SubA n cy ad sk S n2 ad2 sk2 S2 f) (hM : CtV l y (Cond.code y bytes maxL ret :: wsG) fr lo As D tys2 n2 cy ad2 sk2 E2 S2 post) (hcd : Cond.code y bytes maxL ret ∈ wsG) (hini : Cond.initialized y.cls ∈ wsG) (hl : va_Nw (.methodLinkNest own index y host) s) (hsta : Cond.static y ∈ wsG) (hd : y.cls ≠ "java/lang/invoke/MethodHandle" ∧ y.cls ≠ "java/lang/invoke/VarHandle" ∧ (parseMethodDescriptor y.desc).map (fun d => d.parameters.length) = some na) (hR : fr + 1 ≤ R.frames ∧ 8 + (maxL + 11) + lo ≤ R.locals) (hn : As.length = na) (hsz : ls.size = nL) (hst : st0 = As.reverse ++ rest) (hcat : (rest.map fun v => v.category).sum ≤ 8) (hdg : decode cc pc = .ok (.invokestatic index, 3)) (hf : cells ≤ R.cells ∧ slots ≤ R.slots)
    (kk : ∀ (S' : wS), post S' → Go p l e R s m args below meth c cells slots Q D tys n cy ad sk A S n2 ad2 sk2 f S' (F0 m (pc + 3) ls rest)) : W p l e R s m args below meth c H locs cells slots Q (F0 m pc ls st0) := by
  have h3 := (sub.P w).2.2
  refine va_callv (va_runSN (As := As) (rest := rest) ⟨hx, hb, hml, hown, hg⟩ (hM H.size) ⟨va_cnB na hg (gdG hcd) rfl rfl rfl hl (hg _ hini) hd hR, hg _ hsta, trivial⟩ ⟨wPre_blind hE2, fun U hU hW => wPre_of2 hE2 sub w hE hty hU hW _⟩ rfl hn hsz hst (lv_room hcat) hdg hf) w.2.2.2.1 (fun q _ h => h3 q h) h3 (fun u t H1 locs1 ht hvm hw hB hz1 hk1 hS => ?_)
  exact kk u hw H1 locs1 (fun T hT => sub.back w hT (by rw [← ht]; exact hB.1) hk1 hS)
/-- static arrays -/
theorem wb_sld {nm : String} {a L : Nat} {xs : Nat → Int32} (hx : p.tables.exec = Jvm.exec) (hb : c.code = cc) (w : WB D tys n cy ad sk A s S H locs) (h : stZ nm a L xs A s) {x : Int32} {k : Nat} (hxk : x = nI k) (hk : k < L) (hL : L < 2 ^ 31) {v : Int32} (hv : xs k = v) (hdg : decode cc pc = .ok (.iaload, 1)) (kk : W p l e R s m args below meth c H locs cells slots Q (F0 m (pc + 1) ls (.int v :: rest))) : W p l e R s m args below meth c H locs cells slots Q (F0 m pc ls (.int x :: .ref a :: rest)) := by
  subst hxk
  refine va_sld hx hb h.2.1 h.2.2.1 h.2.2.2 w.2.2.2.1 (vp_in_nI hk hL) hdg ?_
  rw [nI_clamp (Nat.lt_trans hk hL), hv]
  exact kk
end CR2
