/-! Contracts over a world, and their calls -/
/-- what a premise beside the world must bear: being carried into a callee, and the callee's frame -/
def EOk (E : (Nat → Prop) → State → Prop) : Prop := (∀ (A A' : Nat → Prop) (s U : State) (H : Heap) (locs : List Loc), E A s → U.heap = H → va_S A s.heap H locs → s.WarmedH U.vm → (∀ q, A' q → A q) → E A' U) ∧ ∀ (A : Nat → Prop) (U : State) (g : JFrame) (mk : MethodId) (a : Array Value), E A U → E A (U.calling g mk a)
def E0 : (Nat → Prop) → State → Prop := fun _ _ => True
theorem E0_ok : EOk E0 := ⟨fun _ _ _ _ _ _ _ _ _ _ _ => trivial, fun _ _ _ _ _ _ => trivial⟩
def wPre (D : va_G) (tys : List (ClassId × FieldType)) (n : Nat) (cy : Nat → ClassId) (ad : Nat → Nat) (sk : Nat → wK) (E : (Nat → Prop) → State → Prop) (S : wS) (sz : Nat) : State → Prop := fun U => U.heap.size = sz ∧ va_P D vwCl (wW n cy ad sk S) U.heap ∧ va_K D vwCl tys U ∧ va_D (fun _ => True) (wW n cy ad sk S) ∧ E (va_A (wW n cy ad sk S) sz) U
def wPost (D : va_G) (tys : List (ClassId × FieldType)) (n : Nat) (cy : Nat → ClassId) (ad : Nat → Nat) (sk : Nat → wK) (S : wS) (sz : Nat) : wS → State → Prop := fun S' t => va_P D vwCl (wW n cy ad sk S') t.heap ∧ va_K D vwCl tys t ∧ va_D (va_A (wW n cy ad sk S) sz) (wW n cy ad sk S')
/-- a method that answers an int -/
def CtI (l : Launch) (y : MethodName) (ws : List Cond) (fr lo : Nat) (av : List Value) (D : va_G) (tys : List (ClassId × FieldType)) (n : Nat) (cy : Nat → ClassId) (ad : Nat → Nat) (sk : Nat → wK) (E : (Nat → Prop) → State → Prop) (S : wS) (post : Int32 → wS → Prop) : Prop :=
  ∀ sz : Nat, Met l y ws ({ frames := fr, cells := 0, slots := 0, locals := lo }) (va_Pc av (wPre D tys n cy ad sk E S sz)) (va_Qi post (wPost D tys n cy ad sk S sz) (va_A (wW n cy ad sk S) sz)) 0 0 (va_A (wW n cy ad sk S) sz)
/-- .. a long -/
def CtL (l : Launch) (y : MethodName) (ws : List Cond) (fr lo : Nat) (av : List Value) (D : va_G) (tys : List (ClassId × FieldType)) (n : Nat) (cy : Nat → ClassId) (ad : Nat → Nat) (sk : Nat → wK) (E : (Nat → Prop) → State → Prop) (S : wS) (post : Int64 → wS → Prop) : Prop :=
  ∀ sz : Nat, Met l y ws ({ frames := fr, cells := 0, slots := 0, locals := lo }) (va_Pc av (wPre D tys n cy ad sk E S sz)) (va_Ql post (wPost D tys n cy ad sk S sz) (va_A (wW n cy ad sk S) sz)) 0 0 (va_A (wW n cy ad sk S) sz)
/-- .. nothing -/
def CtV (l : Launch) (y : MethodName) (ws : List Cond) (fr lo : Nat) (av : List Value) (D : va_G) (tys : List (ClassId × FieldType)) (n : Nat) (cy : Nat → ClassId) (ad : Nat → Nat) (sk : Nat → wK) (E : (Nat → Prop) → State → Prop) (S : wS) (post : wS → Prop) : Prop :=
  ∀ sz : Nat, Met l y ws ({ frames := fr, cells := 0, slots := 0, locals := lo }) (va_Pc av (wPre D tys n cy ad sk E S sz)) (va_Qv post (wPost D tys n cy ad sk S sz) (va_A (wW n cy ad sk S) sz)) 0 0 (va_A (wW n cy ad sk S) sz)
/-- what a body begins with -/
def Bd (p : Program) (s : State) (m : MethodId) (args : Array Value) (meth : Method) (c : Code) (own : String) (cc : ByteArray) (maxL : Nat) (ret : Option FieldType) (av : List Value) (D : va_G) (tys : List (ClassId × FieldType)) (n : Nat) (cy : Nat → ClassId) (ad : Nat → Nat) (sk : Nat → wK) (E : (Nat → Prop) → State → Prop) (S : wS) (A : Nat → Prop) (ls : Array Slot) : Prop :=
  p.tables.exec = Jvm.exec ∧ c.code = cc ∧ meth.sig.returnType = ret ∧ (∀ w ∈ wsG, w.before args s = true) ∧ s.vm.findClass own = some m.cls ∧ c.maxLocals = maxL ∧ meth.locks = false ∧ WB D tys n cy ad sk A s S s.heap [] ∧ E A s ∧ lv_has ls maxL (lv_args 0 av)
section CT
variable {l : Launch} {y : MethodName} {cc : ByteArray} {maxL fr lo : Nat} {ret : Option FieldType} {av : List Value} {D : va_G} {tys : List (ClassId × FieldType)} {n : Nat} {cy : Nat → ClassId} {ad : Nat → Nat} {sk : Nat → wK} {E : (Nat → Prop) → State → Prop} {S : wS}
theorem Ct_body {Qc : Nat → Array Value → State → Outcome → State → Prop} (hy : plainName y.cls = true) (hlen : (lg_sl av).length ≤ maxL)
    (body : ∀ (p : Program) (e : Env) (s : State) (m : MethodId) (args : Array Value) (below : List Frame) (meth : Method) (c : Code) (A : Nat → Prop) (ls : Array Slot), A = va_A (wW n cy ad sk S) s.heap.size → Bd p s m args meth c y.cls cc maxL ret av D tys n cy ad sk E S A ls →
      W p l e ({ frames := fr, cells := 0, slots := 0, locals := lo }) s m args below meth c s.heap [] 0 0 (MQ below (Qc s.heap.size) args s 0 0 A) (F0 m 0 ls [])) :
    ∀ sz : Nat, Met l y (Cond.code y cc maxL ret :: wsG) ({ frames := fr, cells := 0, slots := 0, locals := lo }) (va_Pc av (wPre D tys n cy ad sk E S sz)) (Qc sz) 0 0 (va_A (wW n cy ad sk S) sz) := by
  intro sz
  refine Met.ofW (cc := cc) (maxL := maxL) (ret := ret) hy rfl ?_
  intro p e s m args below meth c s₁ B hml hv
  obtain ⟨rfl, hsz, hP, hK, hD0, hE⟩ := hv
  subst hsz
  have hts := atoms_spec (ws := Cond.code y cc maxL ret :: wsG) B.pre
  rw [lg_entry_eq]
  exact body p e s m av.toArray below meth c _ _ rfl ⟨B.exec, B.bytes, B.returns, fun w h => hts w (List.mem_cons_of_mem _ h), findClass_of_methodNamed B.named, hml, B.notSynchronized, ⟨hK, hP, hD0.self, va_S.rf, fun q h => Or.inr h⟩, hE, lv_entry av hlen⟩
end CT
section CR
variable {p : Program} {l : Launch} {e : Env} {R : Room} {s : State} {m : MethodId} {args : Array Value} {below : List Frame} {meth : Method} {c : Code} {H : Heap} {locs : List Loc} {cells slots : Nat} {Q : State → Prop}
variable {cc : ByteArray} {pc : Nat} {ls : Array Slot} {rest st0 : List Value}
variable {D : va_G} {tys : List (ClassId × FieldType)} {n : Nat} {cy : Nat → ClassId} {ad : Nat → Nat} {sk : Nat → wK} {A : Nat → Prop} {S S0 : wS} {own : String}
/-- the ends -/
theorem wb_iret {post : Int32 → wS → Prop} {v : Int32} {ty : FieldType} (hx : p.tables.exec = Jvm.exec) (hb : c.code = cc) (hr : meth.sig.returnType = some ty) (hn : narrow ty (.int v) = .int v) (hlk : meth.locks = false) (hA : A = va_A (wW n cy ad sk S0) s.heap.size) (w : WB D tys n cy ad sk A s S H locs) (hp : post v S) (hdg : decode cc pc = .ok (.ireturn, 1)) :
    W p l e R s m args below meth c H locs cells slots (MQ below (va_Qi post (wPost D tys n cy ad sk S0 s.heap.size) (va_A (wW n cy ad sk S0) s.heap.size)) args s cells slots A) (F0 m pc ls [.int v]) := by
  subst hA
  exact W.zret hx hb hr hn (fun t ht hW => ⟨⟨v, S, rfl, hp, by rw [ht]; exact w.2.1, va_K.moved hW.alike w.1, w.2.2.1⟩, w.2.2.2.1.F ht⟩) w.2.2.2.1.2.2 hdg hlk
theorem wb_lret {post : Int64 → wS → Prop} {v : Int64} (hx : p.tables.exec = Jvm.exec) (hb : c.code = cc) (hr : meth.sig.returnType = some .long) (hlk : meth.locks = false) (hA : A = va_A (wW n cy ad sk S0) s.heap.size) (w : WB D tys n cy ad sk A s S H locs) (hp : post v S) (hdg : decode cc pc = .ok (.lreturn, 1)) :
    W p l e R s m args below meth c H locs cells slots (MQ below (va_Ql post (wPost D tys n cy ad sk S0 s.heap.size) (va_A (wW n cy ad sk S0) s.heap.size)) args s cells slots A) (F0 m pc ls [.long v]) := by
  subst hA
  exact W.lret hx hb hr (fun t ht hW => ⟨⟨v, S, rfl, hp, by rw [ht]; exact w.2.1, va_K.moved hW.alike w.1, w.2.2.1⟩, w.2.2.2.1.F ht⟩) w.2.2.2.1.2.2 hdg hlk
theorem wb_vret {post : wS → Prop} (hx : p.tables.exec = Jvm.exec) (hb : c.code = cc) (hr : meth.sig.returnType = none) (hlk : meth.locks = false) (hA : A = va_A (wW n cy ad sk S0) s.heap.size) (w : WB D tys n cy ad sk A s S H locs) (hp : post S) (hdg : decode cc pc = .ok (.return_, 1)) :
    W p l e R s m args below meth c H locs cells slots (MQ below (va_Qv post (wPost D tys n cy ad sk S0 s.heap.size) (va_A (wW n cy ad sk S0) s.heap.size)) args s cells slots A) (F0 m pc ls []) := by
  subst hA
  exact W.vret hx hb hr (fun t ht hW => ⟨⟨S, rfl, hp, by rw [ht]; exact w.2.1, va_K.moved hW.alike w.1, w.2.2.1⟩, w.2.2.2.1.F ht⟩) w.2.2.2.1.2.2 hdg hlk
/-- a smaller world of n2 cells within the world: cell k is cell f k; what the callee leaves (S2') makes the whole up S2' -/
def Sub (n : Nat) (cy : Nat → ClassId) (ad : Nat → Nat) (sk : Nat → wK) (S : wS) (n2 : Nat) (ad2 : Nat → Nat) (sk2 : Nat → wK) (S2 : wS) (f : Nat → Nat) (up : wS → wS) : Prop :=
  (∀ k, k < n2 → f k < n ∧ ad2 k = ad (f k) ∧ wC cy ad2 sk2 S2 k = wC cy ad sk S (f k)) ∧ (∀ k k', k < n2 → k' < n2 → f k = f k' → k = k') ∧
  ∀ S2' : wS, (∀ k, k < n2 → wC cy ad sk (up S2') (f k) = wC cy ad2 sk2 S2' k) ∧ ∀ i, i < n → (∀ k, k < n2 → f k ≠ i) → wC cy ad sk (up S2') i = wC cy ad sk S i
theorem Sub.self : Sub n cy ad sk S n ad sk S id id := ⟨fun k hk => ⟨hk, rfl, rfl⟩, fun _ _ _ _ h => h, fun _ => ⟨fun _ _ => rfl, fun i hi h => absurd rfl (h i hi)⟩⟩
theorem Sub.none {ad2 : Nat → Nat} {sk2 : Nat → wK} {S2 : wS} : Sub n cy ad sk S 0 ad2 sk2 S2 id (fun _ => S) := ⟨fun k hk => absurd hk (Nat.not_lt_zero k), fun k _ hk _ _ => absurd hk (Nat.not_lt_zero k), fun _ => ⟨fun k hk => absurd hk (Nat.not_lt_zero k), fun _ _ _ => rfl⟩⟩
variable {n2 : Nat} {ad2 : Nat → Nat} {sk2 : Nat → wK} {S2 : wS} {f : Nat → Nat} {up : wS → wS} {tys2 : List (ClassId × FieldType)} {E E2 : (Nat → Prop) → State → Prop}
theorem Sub.P (h : Sub n cy ad sk S n2 ad2 sk2 S2 f up) (w : WB D tys n cy ad sk A s S H locs) : va_P D vwCl (wW n2 cy ad2 sk2 S2) H ∧ va_D (fun _ => True) (wW n2 cy ad2 sk2 S2) ∧ ∀ q, va_A (wW n2 cy ad2 sk2 S2) H.size q → A q := by
  refine ⟨fun k q hk => ?_, ⟨fun i j x z hi hj hxz => ?_, fun _ _ _ => trivial⟩, fun q hq => ?_⟩
  · obtain ⟨h1, rfl⟩ := wW_of hk
    obtain ⟨h2, h3, h4⟩ := h.1 k h1
    rw [h3, h4]
    exact w.2.1 _ _ (wW_get h2)
  · obtain ⟨h1, rfl⟩ := wW_of hi
    obtain ⟨h2, rfl⟩ := wW_of hj
    obtain ⟨a1, a2, a3⟩ := h.1 i h1
    obtain ⟨b1, b2, b3⟩ := h.1 j h2
    refine h.2.1 i j h1 h2 (w.2.2.1.1 _ _ _ _ (wW_get a1) (wW_get b1) ?_)
    exact a2.symm.trans (hxz.trans b2)
  · rcases hq with ⟨k, e9, hk⟩ | hq
    · obtain ⟨h1, h5⟩ := wW_of hk
      obtain ⟨h2, h3, h4⟩ := h.1 k h1
      have h6 : q = ad2 k := congrArg Prod.fst h5
      rw [h6, h3]
      exact w.2.2.1.2 _ _ (wW_get (S := S) h2)
    · exact w.2.2.2.2 q (Nat.le_trans w.2.2.2.1.1 hq)
theorem Sub.back (h : Sub n cy ad sk S n2 ad2 sk2 S2 f up) (w : WB D tys n cy ad sk A s S H locs) {H1 : Heap} {locs1 : List Loc} {S2' : wS} (hP1 : va_P D vwCl (wW n2 cy ad2 sk2 S2') H1) (hk : ∀ q : Nat, q < H.size → ¬ va_A (wW n2 cy ad2 sk2 S2) H.size q → H1[q]? = H[q]?) (hS : va_S A s.heap H1 locs1) : WB D tys n cy ad sk A s (up S2') H1 locs1 := by
  refine ⟨w.1, fun i q hi => ?_, wW_D w.2.2.1, hS, w.2.2.2.2⟩
  obtain ⟨h1, rfl⟩ := wW_of hi
  by_cases hx : ∃ k, k < n2 ∧ f k = i
  · obtain ⟨k, hk2, rfl⟩ := hx
    obtain ⟨g1, g2, g3⟩ := h.1 k hk2
    have h2 := hP1 k _ (wW_get hk2)
    rw [g2, ← (h.2.2 S2').1 k hk2] at h2
    exact h2
  · have hn : ∀ k, k < n2 → f k ≠ i := fun k h3 h4 => hx ⟨k, h3, h4⟩
    rw [(h.2.2 S2').2 i h1 hn]
    have h0 := w.2.1 i _ (wW_get h1)
    refine h0.kept (hk (ad i) h0.lt (fun hA => ?_))
    rcases hA with ⟨k, e9, hk2⟩ | hA
    · obtain ⟨h3, h5⟩ := wW_of hk2
      obtain ⟨g1, g2, g3⟩ := h.1 k h3
      have h6 : ad i = ad2 k := congrArg Prod.fst h5
      exact hn k h3 (w.2.2.1.1 _ _ _ _ (wW_get (S := S) g1) (wW_get (S := S) h1) (g2.symm.trans h6.symm))
    · have := h0.lt
      omega
theorem wPre_blind (hE2 : EOk E2) {av2 : List Value} {sz : Nat} : FrameBlind (va_Pc av2 (wPre D tys2 n2 cy ad2 sk2 E2 S2 sz)) := fun a U g mk q => by
  obtain ⟨q0, q1, qP, qK, qD, qE⟩ := q
  exact ⟨q0, q1, qP, va_K.moved (u := U) (U := U.calling g mk a) (Vm.Alike.refl U.vm) qK, qD, hE2.2 _ _ g mk a qE⟩
theorem wPre_of (hE2 : EOk E2) (h : Sub n cy ad sk S n2 ad2 sk2 S2 f up) (w : WB D tys n cy ad sk A s S H locs) (hE : E2 A s) (hty : va_K D vwCl tys2 s) {U : State} (hU : U.heap = H) (hW : s.WarmedH U.vm) (av2 : List Value) : va_Pc av2 (wPre D tys2 n2 cy ad2 sk2 E2 S2 H.size) av2.toArray U := by
  obtain ⟨h1, h2, h3⟩ := h.P w
  exact ⟨rfl, by rw [hU], by rw [hU]; exact h1, va_K.moved hW.alike hty, h2, hE2.1 A _ s U H locs hE hU w.2.2.2.1 hW h3⟩
variable {y : MethodName} {bytes : ByteArray} {maxL nL fr lo index na : Nat} {ret : Option FieldType} {As : List Value}
/-- the words and the room of a call -/
theorem wCallB (hg : ∀ w ∈ wsG, w.before args s = true) (hcd : Cond.code y bytes maxL ret ∈ wsG) (hini : Cond.initialized y.cls ∈ wsG) (hl : Cond.methodLink own index y ∈ wsG) (hd : y.cls ≠ "java/lang/invoke/MethodHandle" ∧ y.cls ≠ "java/lang/invoke/VarHandle" ∧ (parseMethodDescriptor y.desc).map (fun d => d.parameters.length) = some na) (hR : fr + 1 ≤ R.frames ∧ 8 + (maxL + 11) + lo ≤ R.locals) :
    CallB R s args own index y bytes maxL ret (Cond.code y bytes maxL ret :: wsG) ({ frames := fr, cells := 0, slots := 0, locals := lo }) 0 0 na := callB_of na hg (gdG hcd) rfl rfl rfl (hg _ hini) (hg _ hl) hd hR
/-- a virtual call, an int comes back -/
theorem wb_Vi {post : Int32 → wS → Prop} (hx : p.tables.exec = Jvm.exec) (hb : c.code = cc) (hml : c.maxLocals = nL) (hg : ∀ w ∈ wsG, w.before args s = true) (hown : s.vm.findClass own = some m.cls) (w : WB D tys n cy ad sk A s S H locs) (hE2 : EOk E2) (hE : E2 A s) (hty : va_K D vwCl tys2 s) (sub : Sub n cy ad sk S n2 ad2 sk2 S2 f up) (i : Nat) (hi : i < n) {ci : Nat} {fs : List (Option Nat)} (he : sk i = .inl (ci, fs)) {q : vw_C} (hc : vwCl[ci]? = some q) (hM : CtI l y (Cond.code y bytes maxL ret :: wsG) fr lo (.ref (ad i) :: As) D tys2 n2 cy ad2 sk2 E2 S2 post) (hcd : Cond.code y bytes maxL ret ∈ wsG) (hini : Cond.initialized y.cls ∈ wsG) (hl : Cond.methodLink own index y ∈ wsG) (him : Cond.instanceMethod y ∈ wsG) (hsel : Cond.selects q.1 y y ∈ wsG) (hd : y.cls ≠ "java/lang/invoke/MethodHandle" ∧ y.cls ≠ "java/lang/invoke/VarHandle" ∧ (parseMethodDescriptor y.desc).map (fun d => d.parameters.length) = some na) (hR : fr + 1 ≤ R.frames ∧ 8 + (maxL + 11) + lo ≤ R.locals) (hn : As.length = na) (hsz : ls.size = nL) (hst : st0 = As.reverse ++ .ref (ad i) :: rest) (hcat : (rest.map fun v => v.category).sum ≤ 8) (hdg : decode cc pc = .ok (.invokevirtual index, 3)) (hf : cells ≤ R.cells ∧ slots ≤ R.slots)
    (kk : ∀ (r : Int32) (S' : wS) (H1 : Heap) (locs1 : List Loc), post r S' → WB D tys n cy ad sk A s (up S') H1 locs1 → W p l e R s m args below meth c H1 locs1 cells slots Q (F0 m (pc + 3) ls (.int r :: rest))) : W p l e R s m args below meth c H locs cells slots Q (F0 m pc ls st0) := by
  have h3 := (sub.P w).2.2
  refine va_calli (va_runV (As := As) (rest := rest) ⟨hx, hb, hml, hown, hg⟩ (hM H.size) ⟨wCallB hg hcd hini hl hd hR, hg _ him, hg _ hsel⟩ ⟨wPre_blind hE2, va_recv w.1 w.2.1 hc ((wW_get hi).trans (by rw [wC_o he])), fun U hU hW => wPre_of hE2 sub w hE hty hU hW _⟩ rfl hn hsz hst (lv_room hcat) hdg hf) w.2.2.2.1 (fun q _ h => h3 q h) h3 (fun r u t H1 locs1 ht hvm hw hB hz1 hk1 hS => ?_)
  exact kk r u H1 locs1 hw (sub.back w (by rw [← ht]; exact hB.1) hk1 hS)
theorem wb_Vl {post : Int64 → wS → Prop} (hx : p.tables.exec = Jvm.exec) (hb : c.code = cc) (hml : c.maxLocals = nL) (hg : ∀ w ∈ wsG, w.before args s = true) (hown : s.vm.findClass own = some m.cls) (w : WB D tys n cy ad sk A s S H locs) (hE2 : EOk E2) (hE : E2 A s) (hty : va_K D vwCl tys2 s) (sub : Sub n cy ad sk S n2 ad2 sk2 S2 f up) (i : Nat) (hi : i < n) {ci : Nat} {fs : List (Option Nat)} (he : sk i = .inl (ci, fs)) {q : vw_C} (hc : vwCl[ci]? = some q) (hM : CtL l y (Cond.code y bytes maxL ret :: wsG) fr lo (.ref (ad i) :: As) D tys2 n2 cy ad2 sk2 E2 S2 post) (hcd : Cond.code y bytes maxL ret ∈ wsG) (hini : Cond.initialized y.cls ∈ wsG) (hl : Cond.methodLink own index y ∈ wsG) (him : Cond.instanceMethod y ∈ wsG) (hsel : Cond.selects q.1 y y ∈ wsG) (hd : y.cls ≠ "java/lang/invoke/MethodHandle" ∧ y.cls ≠ "java/lang/invoke/VarHandle" ∧ (parseMethodDescriptor y.desc).map (fun d => d.parameters.length) = some na) (hR : fr + 1 ≤ R.frames ∧ 8 + (maxL + 11) + lo ≤ R.locals) (hn : As.length = na) (hsz : ls.size = nL) (hst : st0 = As.reverse ++ .ref (ad i) :: rest) (hcat : (rest.map fun v => v.category).sum ≤ 8) (hdg : decode cc pc = .ok (.invokevirtual index, 3)) (hf : cells ≤ R.cells ∧ slots ≤ R.slots)
    (kk : ∀ (r : Int64) (S' : wS) (H1 : Heap) (locs1 : List Loc), post r S' → WB D tys n cy ad sk A s (up S') H1 locs1 → W p l e R s m args below meth c H1 locs1 cells slots Q (F0 m (pc + 3) ls (.long r :: rest))) : W p l e R s m args below meth c H locs cells slots Q (F0 m pc ls st0) := by
  have h3 := (sub.P w).2.2
  refine va_calll (va_runV (As := As) (rest := rest) ⟨hx, hb, hml, hown, hg⟩ (hM H.size) ⟨wCallB hg hcd hini hl hd hR, hg _ him, hg _ hsel⟩ ⟨wPre_blind hE2, va_recv w.1 w.2.1 hc ((wW_get hi).trans (by rw [wC_o he])), fun U hU hW => wPre_of hE2 sub w hE hty hU hW _⟩ rfl hn hsz hst (lv_room hcat) hdg hf) w.2.2.2.1 (fun q _ h => h3 q h) h3 (fun r u t H1 locs1 ht hvm hw hB hz1 hk1 hS => ?_)
  exact kk r u H1 locs1 hw (sub.back w (by rw [← ht]; exact hB.1) hk1 hS)
theorem wb_Vv {post : wS → Prop} (hx : p.tables.exec = Jvm.exec) (hb : c.code = cc) (hml : c.maxLocals = nL) (hg : ∀ w ∈ wsG, w.before args s = true) (hown : s.vm.findClass own = some m.cls) (w : WB D tys n cy ad sk A s S H locs) (hE2 : EOk E2) (hE : E2 A s) (hty : va_K D vwCl tys2 s) (sub : Sub n cy ad sk S n2 ad2 sk2 S2 f up) (i : Nat) (hi : i < n) {ci : Nat} {fs : List (Option Nat)} (he : sk i = .inl (ci, fs)) {q : vw_C} (hc : vwCl[ci]? = some q) (hM : CtV l y (Cond.code y bytes maxL ret :: wsG) fr lo (.ref (ad i) :: As) D tys2 n2 cy ad2 sk2 E2 S2 post) (hcd : Cond.code y bytes maxL ret ∈ wsG) (hini : Cond.initialized y.cls ∈ wsG) (hl : Cond.methodLink own index y ∈ wsG) (him : Cond.instanceMethod y ∈ wsG) (hsel : Cond.selects q.1 y y ∈ wsG) (hd : y.cls ≠ "java/lang/invoke/MethodHandle" ∧ y.cls ≠ "java/lang/invoke/VarHandle" ∧ (parseMethodDescriptor y.desc).map (fun d => d.parameters.length) = some na) (hR : fr + 1 ≤ R.frames ∧ 8 + (maxL + 11) + lo ≤ R.locals) (hn : As.length = na) (hsz : ls.size = nL) (hst : st0 = As.reverse ++ .ref (ad i) :: rest) (hcat : (rest.map fun v => v.category).sum ≤ 8) (hdg : decode cc pc = .ok (.invokevirtual index, 3)) (hf : cells ≤ R.cells ∧ slots ≤ R.slots)
    (kk : ∀ (S' : wS) (H1 : Heap) (locs1 : List Loc), post S' → WB D tys n cy ad sk A s (up S') H1 locs1 → W p l e R s m args below meth c H1 locs1 cells slots Q (F0 m (pc + 3) ls rest)) : W p l e R s m args below meth c H locs cells slots Q (F0 m pc ls st0) := by
  have h3 := (sub.P w).2.2
  refine va_callv (va_runV (As := As) (rest := rest) ⟨hx, hb, hml, hown, hg⟩ (hM H.size) ⟨wCallB hg hcd hini hl hd hR, hg _ him, hg _ hsel⟩ ⟨wPre_blind hE2, va_recv w.1 w.2.1 hc ((wW_get hi).trans (by rw [wC_o he])), fun U hU hW => wPre_of hE2 sub w hE hty hU hW _⟩ rfl hn hsz hst (lv_room hcat) hdg hf) w.2.2.2.1 (fun q _ h => h3 q h) h3 (fun u t H1 locs1 ht hvm hw hB hz1 hk1 hS => ?_)
  exact kk u H1 locs1 hw (sub.back w (by rw [← ht]; exact hB.1) hk1 hS)
/-- a static call -/
theorem wb_Si {post : Int32 → wS → Prop} (hx : p.tables.exec = Jvm.exec) (hb : c.code = cc) (hml : c.maxLocals = nL) (hg : ∀ w ∈ wsG, w.before args s = true) (hown : s.vm.findClass own = some m.cls) (w : WB D tys n cy ad sk A s S H locs) (hE2 : EOk E2) (hE : E2 A s) (hty : va_K D vwCl tys2 s) (sub : Sub n cy ad sk S n2 ad2 sk2 S2 f up) (hM : CtI l y (Cond.code y bytes maxL ret :: wsG) fr lo As D tys2 n2 cy ad2 sk2 E2 S2 post) (hcd : Cond.code y bytes maxL ret ∈ wsG) (hini : Cond.initialized y.cls ∈ wsG) (hl : Cond.methodLink own index y ∈ wsG) (hsta : Cond.static y ∈ wsG) (hd : y.cls ≠ "java/lang/invoke/MethodHandle" ∧ y.cls ≠ "java/lang/invoke/VarHandle" ∧ (parseMethodDescriptor y.desc).map (fun d => d.parameters.length) = some na) (hR : fr + 1 ≤ R.frames ∧ 8 + (maxL + 11) + lo ≤ R.locals) (hn : As.length = na) (hsz : ls.size = nL) (hst : st0 = As.reverse ++ rest) (hcat : (rest.map fun v => v.category).sum ≤ 8) (hdg : decode cc pc = .ok (.invokestatic index, 3)) (hf : cells ≤ R.cells ∧ slots ≤ R.slots)
    (kk : ∀ (r : Int32) (S' : wS) (H1 : Heap) (locs1 : List Loc), post r S' → WB D tys n cy ad sk A s (up S') H1 locs1 → W p l e R s m args below meth c H1 locs1 cells slots Q (F0 m (pc + 3) ls (.int r :: rest))) : W p l e R s m args below meth c H locs cells slots Q (F0 m pc ls st0) := by
  have h3 := (sub.P w).2.2
  refine va_calli (va_runS (As := As) (rest := rest) ⟨hx, hb, hml, hown, hg⟩ (hM H.size) ⟨wCallB hg hcd hini hl hd hR, hg _ hsta⟩ ⟨wPre_blind hE2, fun U hU hW => wPre_of hE2 sub w hE hty hU hW _⟩ rfl hn hsz hst (lv_room hcat) hdg hf) w.2.2.2.1 (fun q _ h => h3 q h) h3 (fun r u t H1 locs1 ht hvm hw hB hz1 hk1 hS => ?_)
  exact kk r u H1 locs1 hw (sub.back w (by rw [← ht]; exact hB.1) hk1 hS)
theorem wb_Sv {post : wS → Prop} (hx : p.tables.exec = Jvm.exec) (hb : c.code = cc) (hml : c.maxLocals = nL) (hg : ∀ w ∈ wsG, w.before args s = true) (hown : s.vm.findClass own = some m.cls) (w : WB D tys n cy ad sk A s S H locs) (hE2 : EOk E2) (hE : E2 A s) (hty : va_K D vwCl tys2 s) (sub : Sub n cy ad sk S n2 ad2 sk2 S2 f up) (hM : CtV l y (Cond.code y bytes maxL ret :: wsG) fr lo As D tys2 n2 cy ad2 sk2 E2 S2 post) (hcd : Cond.code y bytes maxL ret ∈ wsG) (hini : Cond.initialized y.cls ∈ wsG) (hl : Cond.methodLink own index y ∈ wsG) (hsta : Cond.static y ∈ wsG) (hd : y.cls ≠ "java/lang/invoke/MethodHandle" ∧ y.cls ≠ "java/lang/invoke/VarHandle" ∧ (parseMethodDescriptor y.desc).map (fun d => d.parameters.length) = some na) (hR : fr + 1 ≤ R.frames ∧ 8 + (maxL + 11) + lo ≤ R.locals) (hn : As.length = na) (hsz : ls.size = nL) (hst : st0 = As.reverse ++ rest) (hcat : (rest.map fun v => v.category).sum ≤ 8) (hdg : decode cc pc = .ok (.invokestatic index, 3)) (hf : cells ≤ R.cells ∧ slots ≤ R.slots)
    (kk : ∀ (S' : wS) (H1 : Heap) (locs1 : List Loc), post S' → WB D tys n cy ad sk A s (up S') H1 locs1 → W p l e R s m args below meth c H1 locs1 cells slots Q (F0 m (pc + 3) ls rest)) : W p l e R s m args below meth c H locs cells slots Q (F0 m pc ls st0) := by
  have h3 := (sub.P w).2.2
  refine va_callv (va_runS (As := As) (rest := rest) ⟨hx, hb, hml, hown, hg⟩ (hM H.size) ⟨wCallB hg hcd hini hl hd hR, hg _ hsta⟩ ⟨wPre_blind hE2, fun U hU hW => wPre_of hE2 sub w hE hty hU hW _⟩ rfl hn hsz hst (lv_room hcat) hdg hf) w.2.2.2.1 (fun q _ h => h3 q h) h3 (fun u t H1 locs1 ht hvm hw hB hz1 hk1 hS => ?_)
  exact kk u H1 locs1 hw (sub.back w (by rw [← ht]; exact hB.1) hk1 hS)
end CR
