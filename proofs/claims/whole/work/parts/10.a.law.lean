/-! The law's world: 0 .. 321 the class's cells, 322 .. 352 the reference's, 353 the row for what came back -/
def skL : Nat → wK := fun i => if i < 322 then skD i else if i < 353 then rn (fun k => k + 322) (skM (i - 322)) else .inr (2, 1, fun _ => none)
def fiC (i : Nat) : Option Nat := if i < 322 then some i else none
def fRf (k : Nat) : Nat := k + 322
def fiRf (i : Nat) : Option Nat := if 322 ≤ i ∧ i < 353 then some (i - 322) else none
theorem rn_id (x : wK) : rn id x = x := by
  cases x with
  | inl q =>
    show Sum.inl (q.1, q.2.map (Option.map id)) = _
    rw [Option.map_id, List.map_id]
  | inr q =>
    show Sum.inr (q.1, q.2.1, fun j => (q.2.2 j).map id) = _
    simp
theorem lieC : Lie 354 skL 322 skD id fiC := by
  refine ⟨fun k hk => ⟨by show k < 354; omega, if_pos hk, ?_⟩, fun i k h => ?_⟩
  · rw [rn_id]; exact if_pos hk
  · unfold fiC at h
    by_cases h4 : i < 322
    · rw [if_pos h4] at h; cases h; exact ⟨h4, rfl⟩
    · rw [if_neg h4] at h; cases h
theorem lieM : Lie 354 skL 31 skM fRf fiRf := by
  refine ⟨fun k hk => ⟨by show k + 322 < 354; omega, ?_, ?_⟩, fun i k h => ?_⟩
  · show fiRf (k + 322) = _
    unfold fiRf
    rw [if_pos (by omega), show k + 322 - 322 = k by omega]
  · show skL (k + 322) = _
    unfold skL
    rw [if_neg (by omega), if_pos (by omega), show k + 322 - 322 = k by omega]; rfl
  · unfold fiRf at h
    by_cases h4 : 322 ≤ i ∧ i < 353
    · rw [if_pos h4] at h
      have h5 := Option.some.inj h
      subst h5
      exact ⟨by omega, by unfold fRf; omega⟩
    · rw [if_neg h4] at h; cases h
theorem skL_out : skL 353 = .inr (2, 1, fun _ => none) := by
  unfold skL
  rw [if_neg (by omega), if_neg (by omega)]
section WX
variable {p : Program} {l : Launch} {e : Env} {R : Room} {s : State} {m : MethodId} {args : Array Value} {below : List Frame} {meth : Method} {c : Code} {H : Heap} {locs : List Loc} {cells slots : Nat} {Q : State → Prop}
variable {cc : ByteArray} {pc : Nat} {ls : Array Slot} {rest st0 : List Value}
variable {D : va_G} {tys : List (ClassId × FieldType)} {n : Nat} {cy : Nat → ClassId} {ad : Nat → Nat} {sk : Nat → wK} {A : Nat → Prop} {S S0 : wS} {own : String}
variable {n2 : Nat} {ad2 : Nat → Nat} {sk2 : Nat → wK} {S2 : wS} {f : Nat → Nat} {tys2 : List (ClassId × FieldType)} {E2 : (Nat → Prop) → State → Prop}
variable {y : MethodName} {bytes : ByteArray} {maxL nL fr lo ns index na : Nat} {ret : Option FieldType} {As : List Value}
theorem wCallX (hg : ∀ w ∈ wsG, w.before args s = true) (hcd : Cond.code y bytes maxL ret ∈ wsG) (hini : Cond.initialized y.cls ∈ wsG) (hl : Cond.methodLink own index y ∈ wsG) (hd : y.cls ≠ "java/lang/invoke/MethodHandle" ∧ y.cls ≠ "java/lang/invoke/VarHandle" ∧ (parseMethodDescriptor y.desc).map (fun d => d.parameters.length) = some na) (hR : fr + 1 ≤ R.frames ∧ 8 + (maxL + 11) + lo ≤ R.locals) :
    CallB R s args own index y bytes maxL ret (Cond.code y bytes maxL ret :: wsG) ({ frames := fr, cells := 1, slots := ns, locals := lo }) 1 ns na := callB_of na hg (gdG hcd) rfl rfl rfl (hg _ hini) (hg _ hl) hd hR
/-- a call that may throw -/
theorem wc_Xl {post : Int64 → wS → Prop} {px : String → wS → Prop} (hx : p.tables.exec = Jvm.exec) (hb : c.code = cc) (hml : c.maxLocals = nL) (hg : ∀ w ∈ wsG, w.before args s = true) (hown : s.vm.findClass own = some m.cls) (w : WB D tys n cy ad sk A s S H locs) (hE2 : EOk E2) (hE : E2 A s) (hty : va_K D vwCl tys2 s) (sub : SubA n cy ad sk S n2 ad2 sk2 S2 f) (i : Nat) (hi : i < n) {ci : Nat} {fs : List (Option Nat)} (he : sk i = .inl (ci, fs)) {q : vw_C} (hc : vwCl[ci]? = some q) (hM : CtXl l y (Cond.code y bytes maxL ret :: wsG) fr lo ns (.ref (ad i) :: As) D tys2 n2 cy ad2 sk2 E2 S2 post px) (hcd : Cond.code y bytes maxL ret ∈ wsG) (hini : Cond.initialized y.cls ∈ wsG) (hl : Cond.methodLink own index y ∈ wsG) (him : Cond.instanceMethod y ∈ wsG) (hsel : Cond.selects q.1 y y ∈ wsG) (hd : y.cls ≠ "java/lang/invoke/MethodHandle" ∧ y.cls ≠ "java/lang/invoke/VarHandle" ∧ (parseMethodDescriptor y.desc).map (fun d => d.parameters.length) = some na) (hR : fr + 1 ≤ R.frames ∧ 8 + (maxL + 11) + lo ≤ R.locals) (hn : As.length = na) (hsz : ls.size = nL) (hst : st0 = As.reverse ++ .ref (ad i) :: rest) (hcat : (rest.map fun v => v.category).sum ≤ 8) (hdg : decode cc pc = .ok (.invokevirtual index, 3)) (hf : cells + 1 ≤ R.cells ∧ slots + ns ≤ R.slots)
    (kx : ∀ (E9 : String) (ce : Cell) (q9 : Addr) (S' : wS) (H1 : Heap) (locs1 : List Loc), px E9 S' → (∀ T : wS, SubT n cy ad sk S n2 ad2 sk2 S' f T → WB D tys n cy ad sk A s T H1 locs1) → H1[q9]? = some ce → ce.vm = .none → s.vm.findClass E9 = some ce.cls → vx_W p l e R s m args below meth c H1 locs1 (cells + 1) (slots + ns) Q (F0 m pc ls rest) q9)
    (kk : ∀ (r : Int64) (S' : wS), post r S' → Go p l e R s m args below meth c (cells + 1) (slots + ns) Q D tys n cy ad sk A S n2 ad2 sk2 f S' (F0 m (pc + 3) ls (.long r :: rest))) : W p l e R s m args below meth c H locs cells slots Q (F0 m pc ls st0) := by
  have h3 := (sub.P w).2.2
  refine vx_calll (vx_runV (As := As) (rest := rest) ⟨hx, hb, hml, hown, hg⟩ (hM H.size) ⟨wCallX hg hcd hini hl hd hR, hg _ him, hg _ hsel⟩ ⟨wPre_blind hE2, va_recv w.1 w.2.1 hc ((wW_get hi).trans (by rw [wC_o he])), fun U hU hW => wPre_of2 hE2 sub w hE hty hU hW _⟩ rfl hn hsz hst (lv_room hcat) hdg hf) w.2.2.2.1 (fun q _ h => h3 q h) h3 (fun q _ h => h3 q h) (fun E9 ce q9 u t H1 locs1 ht hvm _ hB hz1 hk1 hS hce hcv hcl => ?_) (fun r u t H1 locs1 ht hvm hw hB hz1 hk1 hS => ?_)
  · exact kx E9 ce q9 u H1 locs1 hB.1 (fun T hT => sub.back w hT (by rw [← ht]; exact hB.2.1) hk1 hS) hce hcv hcl
  · exact kk r u hw H1 locs1 (fun T hT => sub.back w hT (by rw [← ht]; exact hB.1) hk1 hS)
theorem wc_Xi {post : Int32 → wS → Prop} {px : String → wS → Prop} (hx : p.tables.exec = Jvm.exec) (hb : c.code = cc) (hml : c.maxLocals = nL) (hg : ∀ w ∈ wsG, w.before args s = true) (hown : s.vm.findClass own = some m.cls) (w : WB D tys n cy ad sk A s S H locs) (hE2 : EOk E2) (hE : E2 A s) (hty : va_K D vwCl tys2 s) (sub : SubA n cy ad sk S n2 ad2 sk2 S2 f) (i : Nat) (hi : i < n) {ci : Nat} {fs : List (Option Nat)} (he : sk i = .inl (ci, fs)) {q : vw_C} (hc : vwCl[ci]? = some q) (hM : CtXi l y (Cond.code y bytes maxL ret :: wsG) fr lo ns (.ref (ad i) :: As) D tys2 n2 cy ad2 sk2 E2 S2 post px) (hcd : Cond.code y bytes maxL ret ∈ wsG) (hini : Cond.initialized y.cls ∈ wsG) (hl : Cond.methodLink own index y ∈ wsG) (him : Cond.instanceMethod y ∈ wsG) (hsel : Cond.selects q.1 y y ∈ wsG) (hd : y.cls ≠ "java/lang/invoke/MethodHandle" ∧ y.cls ≠ "java/lang/invoke/VarHandle" ∧ (parseMethodDescriptor y.desc).map (fun d => d.parameters.length) = some na) (hR : fr + 1 ≤ R.frames ∧ 8 + (maxL + 11) + lo ≤ R.locals) (hn : As.length = na) (hsz : ls.size = nL) (hst : st0 = As.reverse ++ .ref (ad i) :: rest) (hcat : (rest.map fun v => v.category).sum ≤ 8) (hdg : decode cc pc = .ok (.invokevirtual index, 3)) (hf : cells + 1 ≤ R.cells ∧ slots + ns ≤ R.slots)
    (kx : ∀ (E9 : String) (ce : Cell) (q9 : Addr) (S' : wS) (H1 : Heap) (locs1 : List Loc), px E9 S' → (∀ T : wS, SubT n cy ad sk S n2 ad2 sk2 S' f T → WB D tys n cy ad sk A s T H1 locs1) → H1[q9]? = some ce → ce.vm = .none → s.vm.findClass E9 = some ce.cls → vx_W p l e R s m args below meth c H1 locs1 (cells + 1) (slots + ns) Q (F0 m pc ls rest) q9)
    (kk : ∀ (r : Int32) (S' : wS), post r S' → Go p l e R s m args below meth c (cells + 1) (slots + ns) Q D tys n cy ad sk A S n2 ad2 sk2 f S' (F0 m (pc + 3) ls (.int r :: rest))) : W p l e R s m args below meth c H locs cells slots Q (F0 m pc ls st0) := by
  have h3 := (sub.P w).2.2
  refine vx_calli (vx_runV (As := As) (rest := rest) ⟨hx, hb, hml, hown, hg⟩ (hM H.size) ⟨wCallX hg hcd hini hl hd hR, hg _ him, hg _ hsel⟩ ⟨wPre_blind hE2, va_recv w.1 w.2.1 hc ((wW_get hi).trans (by rw [wC_o he])), fun U hU hW => wPre_of2 hE2 sub w hE hty hU hW _⟩ rfl hn hsz hst (lv_room hcat) hdg hf) w.2.2.2.1 (fun q _ h => h3 q h) h3 (fun q _ h => h3 q h) (fun E9 ce q9 u t H1 locs1 ht hvm _ hB hz1 hk1 hS hce hcv hcl => ?_) (fun r u t H1 locs1 ht hvm hw hB hz1 hk1 hS => ?_)
  · exact kx E9 ce q9 u H1 locs1 hB.1 (fun T hT => sub.back w hT (by rw [← ht]; exact hB.2.1) hk1 hS) hce hcv hcl
  · exact kk r u hw H1 locs1 (fun T hT => sub.back w hT (by rw [← ht]; exact hB.1) hk1 hS)
end WX
/-- the contract of a method with handlers that answers an int -/
def CtH (l : Launch) (y : MethodName) (cc : ByteArray) (maxL : Nat) (hh : List (Nat × Nat × Nat × Nat)) (fr lo ns : Nat) (av : List Value) (D : va_G) (tys : List (ClassId × FieldType)) (n : Nat) (cy : Nat → ClassId) (ad : Nat → Nat) (sk : Nat → wK) (E : (Nat → Prop) → State → Prop) (S : wS) (post : Int32 → wS → Prop) : Prop :=
  ∀ sz : Nat, Met l y (Cond.codeWith y cc maxL (some .int) hh :: wsG) ({ frames := fr, cells := 1, slots := ns, locals := lo }) (va_Pc av (wPre D tys n cy ad sk E S sz)) (va_Qi post (wPost D tys n cy ad sk S sz) (va_A (wW n cy ad sk S) sz)) 1 ns (va_A (wW n cy ad sk S) sz)
theorem met_ofWH {l : Launch} {y : MethodName} {ws ws' : List Cond} {rm : Room} {Pc : Array Value → State → Prop} {Qc : Array Value → State → Outcome → State → Prop} {mc ms : Nat} {free : Addr → Prop} {cc : ByteArray} {maxL : Nat} {ret : Option FieldType} {hh : List (Nat × Nat × Nat × Nat)}
    (hy : plainName y.cls = true) (hw : ws = Cond.codeWith y cc maxL ret hh :: ws')
    (body : ∀ p e s m args below meth c s₁, BodyLoose p l y (headSpec ws rm) cc maxL ret e s m args below meth c s₁ → c.maxLocals = maxL → Pc args s →
      W p l e (headSpec ws rm).room s m args below meth c s.heap [] 0 0 (MQ below Qc args s mc ms free) (entryFrame m args maxL)) : Met l y ws rm Pc Qc mc ms free := by
  refine MetFree.of_bodyS (code := cc) (maxLocals := maxL) (ret := ret) hy ?_ ?_
  · intro args s m h hn
    obtain ⟨m9, meth, c, hn9, h1, h2, h3, h4, -, h5, h6, -⟩ := Cond.codeWith_spec (atoms_spec (ws := ws) h _ (by rw [hw]; exact List.mem_cons_self))
    cases hn.symm.trans hn9
    exact ⟨meth, c, h1, h2, h3, h4, h5, h6⟩
  · intro p e s m args below meth c s₁ B hml hP _
    have hh0 : s₁.heap = s.heap := by rw [B.state]; rfl
    obtain ⟨t, a1, o, b1, b2, b3⟩ := body p e s m args below meth c s₁ B hml hP s₁ hh0 (Stand.of_body B)
    exact ⟨t, o, a1, b1, b2, ⟨b3.1, b3.2⟩⟩
theorem CtH_of {l : Launch} {y : MethodName} {cc : ByteArray} {maxL fr lo ns : Nat} {hh : List (Nat × Nat × Nat × Nat)} {av : List Value} {D : va_G} {tys : List (ClassId × FieldType)} {n : Nat} {cy : Nat → ClassId} {ad : Nat → Nat} {sk : Nat → wK} {E : (Nat → Prop) → State → Prop} {S : wS} {post : Int32 → wS → Prop} (hy : plainName y.cls = true) (hlen : (lg_sl av).length ≤ maxL)
    (body : ∀ (p : Program) (e : Env) (s : State) (m : MethodId) (args : Array Value) (below : List Frame) (meth : Method) (c : Code) (A : Nat → Prop) (ls : Array Slot) (R : Room) (Q : State → Prop), Bd p s m args meth c y.cls cc maxL (some .int) av D tys n cy ad sk E S A ls → c.exceptionTable.toList = tableOf hh → R.frames = fr → R.locals = lo → R.cells = 1 → R.slots = ns →
      (∀ (v : Int32) (S' : wS) (H : Heap) (locs : List Loc) (pc : Nat) (ls : Array Slot), post v S' → WB D tys n cy ad sk A s S' H locs → decode cc pc = .ok (.ireturn, 1) → W p l e R s m args below meth c H locs 1 ns Q (F0 m pc ls [.int v])) →
      W p l e R s m args below meth c s.heap [] 0 0 Q (F0 m 0 ls [])) :
    CtH l y cc maxL hh fr lo ns av D tys n cy ad sk E S post := by
  intro sz
  refine met_ofWH (cc := cc) (maxL := maxL) (ret := some .int) (hh := hh) hy rfl ?_
  intro p e s m args below meth c s₁ B hml hv
  obtain ⟨rfl, hsz, hP, hK, hD0, hE⟩ := hv
  subst hsz
  have hts := atoms_spec (ws := Cond.codeWith y cc maxL (some .int) hh :: wsG) B.pre
  have htab : c.exceptionTable.toList = tableOf hh := vx_table (x := y) B (hts _ List.mem_cons_self)
  rw [lg_entry_eq]
  exact body p e s m av.toArray below meth c _ _ _ _ ⟨B.exec, B.bytes, B.returns, fun w h => hts w (List.mem_cons_of_mem _ h), findClass_of_methodNamed B.named, hml, B.notSynchronized, ⟨hK, hP, hD0.self, va_S.rf, fun q h => Or.inr h⟩, hE, lv_entry av hlen⟩ htab rfl rfl rfl rfl
    (fun v S' H locs pc ls hp w hdg => wb_iret B.exec B.bytes B.returns rfl B.notSynchronized rfl w hp hdg)
