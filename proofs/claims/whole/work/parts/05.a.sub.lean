/-! A smaller world anywhere within a larger one: cell k is cell f k, fi the way back; references renamed -/
def rn (f : Nat → Nat) : wK → wK
  | .inl q => .inl (q.1, q.2.map (Option.map f))
  | .inr q => .inr (q.1, q.2.1, fun j => (q.2.2 j).map f)
def pul (S : wS) (f : Nat → Nat) : wS := ((fun k => S.1 (f k)), (fun k => S.2.1 (f k)), (fun k => S.2.2 (f k)))
def psh (S : wS) (fi : Nat → Option Nat) (X : wS) : wS := ((fun i => (fi i).elim (S.1 i) X.1), (fun i => (fi i).elim (S.2.1 i) X.2.1), (fun i => (fi i).elim (S.2.2 i) X.2.2))
def Lie (n : Nat) (sk : Nat → wK) (n2 : Nat) (sk2 : Nat → wK) (f : Nat → Nat) (fi : Nat → Option Nat) : Prop := (∀ k, k < n2 → f k < n ∧ fi (f k) = some k ∧ sk (f k) = rn f (sk2 k)) ∧ ∀ i k, fi i = some k → k < n2 ∧ f k = i
section LIE
variable {n : Nat} {cy : Nat → ClassId} {ad : Nat → Nat} {sk : Nat → wK} {S : wS} {n2 : Nat} {sk2 : Nat → wK} {f : Nat → Nat} {fi : Nat → Option Nat}
theorem wC_rn {i k : Nat} {S S2 : wS} (h : sk i = rn f (sk2 k)) (h1 : S.1 i = S2.1 k) (h2 : S.2.1 i = S2.2.1 k) (h3 : S.2.2 i = S2.2.2 k) : wC cy ad sk S i = wC cy (fun k => ad (f k)) sk2 S2 k := by
  unfold wC
  rw [h, h1, h2, h3]
  cases sk2 k with
  | inl q =>
    show Sum.inr (q.1, wFs ad (S2.1 k) (q.2.map (Option.map f))) = Sum.inr (q.1, wFs (fun k => ad (f k)) (S2.1 k) q.2)
    congr 2
    unfold wFs
    apply List.ext_getElem?
    intro j
    rw [List.getElem?_mapIdx, List.getElem?_mapIdx, List.getElem?_map]
    cases q.2[j]? with
    | none => rfl
    | some o => cases o <;> rfl
  | inr q =>
    have e : (fun j => ((q.2.2 j).map f).map ad) = fun j => (q.2.2 j).map (fun k => ad (f k)) := by
      funext j
      cases q.2.2 j <;> rfl
    simp only [rn, e]
theorem Lie.A (h : Lie n sk n2 sk2 f fi) : SubA n cy ad sk S n2 (fun k => ad (f k)) sk2 (pul S f) f :=
  ⟨fun k hk => ⟨(h.1 k hk).1, rfl, (wC_rn (h.1 k hk).2.2 rfl rfl rfl).symm⟩, fun k k' hk hk' e => by
    have h1 := (h.1 k hk).2.1
    have h2 := (h.1 k' hk').2.1
    rw [e, h2] at h1
    exact (Option.some.inj h1).symm⟩
theorem Lie.T (h : Lie n sk n2 sk2 f fi) (X : wS) : SubT n cy ad sk S n2 (fun k => ad (f k)) sk2 X f (psh S fi X) :=
  ⟨fun k hk => by
    have h1 := (h.1 k hk).2.1
    exact wC_rn (h.1 k hk).2.2 (by simp [psh, h1]) (by simp [psh, h1]) (by simp [psh, h1]), fun i _ hn => by
    have h1 : fi i = none := by
      cases e : fi i with
      | none => rfl
      | some k => exact absurd (h.2 i k e).2 (hn k (h.2 i k e).1)
    exact wC_congr (by simp [psh, h1]) (by simp [psh, h1]) (by simp [psh, h1])⟩
/-- any other state that has the same there -/
theorem Lie.T2 (h : Lie n sk n2 sk2 f fi) {X T : wS} (h1 : ∀ k, k < n2 → T.1 (f k) = X.1 k ∧ T.2.1 (f k) = X.2.1 k ∧ T.2.2 (f k) = X.2.2 k) (h2 : ∀ i, fi i = none → T.1 i = S.1 i ∧ T.2.1 i = S.2.1 i ∧ T.2.2 i = S.2.2 i) : SubT n cy ad sk S n2 (fun k => ad (f k)) sk2 X f T :=
  ⟨fun k hk => wC_rn (h.1 k hk).2.2 (h1 k hk).1 (h1 k hk).2.1 (h1 k hk).2.2, fun i _ hn => by
    have h3 : fi i = none := by
      cases e : fi i with
      | none => rfl
      | some k => exact absurd (h.2 i k e).2 (hn k (h.2 i k e).1)
    exact wC_congr (h2 i h3).1 (h2 i h3).2.1 (h2 i h3).2.2⟩
theorem psh_1 (h : Lie n sk n2 sk2 f fi) (X : wS) {k : Nat} (hk : k < n2) : (psh S fi X).1 (f k) = X.1 k := by simp [psh, (h.1 k hk).2.1]
theorem psh_2 (h : Lie n sk n2 sk2 f fi) (X : wS) {k : Nat} (hk : k < n2) : (psh S fi X).2.1 (f k) = X.2.1 k := by simp [psh, (h.1 k hk).2.1]
theorem psh_o (X : wS) {i : Nat} (hi : fi i = none) : (psh S fi X).1 i = S.1 i ∧ (psh S fi X).2.1 i = S.2.1 i := by simp [psh, hi]
theorem psh_pul (h : Lie n sk n2 sk2 f fi) : psh S fi (pul S f) = S := by
  have e : ∀ (α : Type) (g : Nat → α) (i : Nat), (fi i).elim (g i) (fun k => g (f k)) = g i := by
    intro α g i
    cases e : fi i with
    | none => rfl
    | some k => show g (f k) = g i; rw [(h.2 i k e).2]
  show (_, _, _) = S
  obtain ⟨a, b, c⟩ := S
  simp only [pul]
  congr 1
  · funext i; exact e _ a i
  · congr 1
    · funext i; exact e _ b i
    · funext i; exact e _ c i
theorem psh_up {α : Type} (h : Lie n sk n2 sk2 f fi) (g x : Nat → α) {k : Nat} (hk : k < n2) (v : α) : (fun i => (fi i).elim (g i) (va_up x k v)) = va_up (fun i => (fi i).elim (g i) x) (f k) v := by
  funext i
  unfold va_up
  by_cases e : i = f k
  · subst e
    rw [(h.1 k hk).2.1]
    simp
  · simp only [e, if_false]
    cases e2 : fi i with
    | none => rfl
    | some k' =>
      show (if k' = k then v else x k') = x k'
      rw [if_neg]
      intro e3
      subst e3
      exact e (h.2 i _ e2).2.symm
theorem psh_sB (h : Lie n sk n2 sk2 f fi) (X : wS) {k : Nat} (hk : k < n2) (v : Nat → Int32) : psh S fi (sB X k v) = sB (psh S fi X) (f k) v := by
  have := psh_up h S.2.1 X.2.1 hk v
  unfold psh sB
  simp only
  rw [this]
theorem psh_sI (h : Lie n sk n2 sk2 f fi) (X : wS) {k : Nat} (hk : k < n2) (j : Nat) (v : Int32) : psh S fi (sI X k j v) = sI (psh S fi X) (f k) j v := by
  have := psh_up h S.1 X.1 hk (va_up (X.1 k) j v)
  unfold psh sI
  simp only
  rw [this]
  simp only [(h.1 k hk).2.1, Option.elim]
end LIE
/-! A method that answers a cell of its world -/
def CtR (l : Launch) (y : MethodName) (ws : List Cond) (fr lo : Nat) (av : List Value) (D : va_G) (tys : List (ClassId × FieldType)) (n : Nat) (cy : Nat → ClassId) (ad : Nat → Nat) (sk : Nat → wK) (E : (Nat → Prop) → State → Prop) (S : wS) (post : Nat → wS → Prop) : Prop :=
  ∀ sz : Nat, Met l y ws ({ frames := fr, cells := 0, slots := 0, locals := lo }) (va_Pc av (wPre D tys n cy ad sk E S sz)) (va_Qr (S := Nat × wS) (fun u => post u.1 u.2) (fun u a t => a = ad u.1 ∧ wPost D tys n cy ad sk S sz u.2 t) (va_A (wW n cy ad sk S) sz)) 0 0 (va_A (wW n cy ad sk S) sz)
section CRR
variable {p : Program} {l : Launch} {e : Env} {R : Room} {s : State} {m : MethodId} {args : Array Value} {below : List Frame} {meth : Method} {c : Code} {H : Heap} {locs : List Loc} {cells slots : Nat} {Q : State → Prop}
variable {cc : ByteArray} {pc : Nat} {ls : Array Slot} {rest st0 : List Value}
variable {D : va_G} {tys : List (ClassId × FieldType)} {n : Nat} {cy : Nat → ClassId} {ad : Nat → Nat} {sk : Nat → wK} {A : Nat → Prop} {S S0 : wS} {own : String}
variable {n2 : Nat} {sk2 : Nat → wK} {S2 : wS} {f : Nat → Nat} {tys2 : List (ClassId × FieldType)} {E2 : (Nat → Prop) → State → Prop}
theorem wb_aret {post : Nat → wS → Prop} {i : Nat} {ty : FieldType} (hx : p.tables.exec = Jvm.exec) (hb : c.code = cc) (hr : meth.sig.returnType = some (.array ty)) (hlk : meth.locks = false) (hA : A = va_A (wW n cy ad sk S0) s.heap.size) (w : WB D tys n cy ad sk A s S H locs) (hp : post i S) (hdg : decode cc pc = .ok (.areturn, 1)) :
    W p l e R s m args below meth c H locs cells slots (MQ below (va_Qr (S := Nat × wS) (fun u => post u.1 u.2) (fun u a t => a = ad u.1 ∧ wPost D tys n cy ad sk S0 s.heap.size u.2 t) (va_A (wW n cy ad sk S0) s.heap.size)) args s cells slots A) (F0 m pc ls [.ref (ad i)]) := by
  subst hA
  exact W.aret hx hb hr (Or.inr ⟨_, rfl⟩) (Or.inr ⟨_, rfl⟩) (fun t ht hW => ⟨⟨(i, S), ad i, rfl, hp, rfl, by rw [ht]; exact w.2.1, va_K.moved hW.alike w.1, w.2.2.1⟩, w.2.2.2.1.F ht⟩) w.2.2.2.1.2.2 hdg hlk
variable {y : MethodName} {bytes : ByteArray} {maxL nL fr lo index na : Nat} {ret : Option FieldType} {As : List Value}
theorem wc_Vr {post : Nat → wS → Prop} (hx : p.tables.exec = Jvm.exec) (hb : c.code = cc) (hml : c.maxLocals = nL) (hg : ∀ w ∈ wsG, w.before args s = true) (hown : s.vm.findClass own = some m.cls) (w : WB D tys n cy ad sk A s S H locs) (hE2 : EOk E2) (hE : E2 A s) (hty : va_K D vwCl tys2 s) (sub : SubA n cy ad sk S n2 (fun k => ad (f k)) sk2 S2 f) (i : Nat) (hi : i < n) {ci : Nat} {fs : List (Option Nat)} (he : sk i = .inl (ci, fs)) {q : vw_C} (hc : vwCl[ci]? = some q) (hM : CtR l y (Cond.code y bytes maxL ret :: wsG) fr lo (.ref (ad i) :: As) D tys2 n2 cy (fun k => ad (f k)) sk2 E2 S2 post) (hcd : Cond.code y bytes maxL ret ∈ wsG) (hini : Cond.initialized y.cls ∈ wsG) (hl : Cond.methodLink own index y ∈ wsG) (him : Cond.instanceMethod y ∈ wsG) (hsel : Cond.selects q.1 y y ∈ wsG) (hd : y.cls ≠ "java/lang/invoke/MethodHandle" ∧ y.cls ≠ "java/lang/invoke/VarHandle" ∧ (parseMethodDescriptor y.desc).map (fun d => d.parameters.length) = some na) (hR : fr + 1 ≤ R.frames ∧ 8 + (maxL + 11) + lo ≤ R.locals) (hn : As.length = na) (hsz : ls.size = nL) (hst : st0 = As.reverse ++ .ref (ad i) :: rest) (hcat : (rest.map fun v => v.category).sum ≤ 8) (hdg : decode cc pc = .ok (.invokevirtual index, 3)) (hf : cells ≤ R.cells ∧ slots ≤ R.slots)
    (kk : ∀ (r : Nat) (S' : wS), post r S' → Go p l e R s m args below meth c cells slots Q D tys n cy ad sk A S n2 (fun k => ad (f k)) sk2 f S' (F0 m (pc + 3) ls (.ref (ad (f r)) :: rest))) : W p l e R s m args below meth c H locs cells slots Q (F0 m pc ls st0) := by
  have h3 := (sub.P w).2.2
  refine va_callr (va_runV (As := As) (rest := rest) ⟨hx, hb, hml, hown, hg⟩ (hM H.size) ⟨wCallB hg hcd hini hl hd hR, hg _ him, hg _ hsel⟩ ⟨wPre_blind hE2, va_recv w.1 w.2.1 hc ((wW_get hi).trans (by rw [wC_o he])), fun U hU hW => wPre_of2 hE2 sub w hE hty hU hW _⟩ rfl hn hsz hst (lv_room hcat) hdg hf) w.2.2.2.1 (fun q _ h => h3 q h) h3 (fun u ra t H1 locs1 ht hvm hw hB hz1 hk1 hS => ?_)
  rw [hB.1]
  exact kk u.1 u.2 hw H1 locs1 (fun T hT => sub.back w hT (by rw [← ht]; exact hB.2.1) hk1 hS)
end CRR
theorem CtR_of {l : Launch} {y : MethodName} {cc : ByteArray} {maxL fr lo : Nat} {av : List Value} {D : va_G} {tys : List (ClassId × FieldType)} {n : Nat} {cy : Nat → ClassId} {ad : Nat → Nat} {sk : Nat → wK} {E : (Nat → Prop) → State → Prop} {S : wS} {post : Nat → wS → Prop} {rt : FieldType} (hy : plainName y.cls = true) (hlen : (lg_sl av).length ≤ maxL)
    (body : ∀ (p : Program) (e : Env) (s : State) (m : MethodId) (args : Array Value) (below : List Frame) (meth : Method) (c : Code) (A : Nat → Prop) (ls : Array Slot) (R : Room) (Q : State → Prop), Bd p s m args meth c y.cls cc maxL (some (.array rt)) av D tys n cy ad sk E S A ls → R.frames = fr → R.locals = lo →
      (∀ (i : Nat) (S' : wS) (H : Heap) (locs : List Loc) (pc : Nat) (ls : Array Slot), post i S' → WB D tys n cy ad sk A s S' H locs → decode cc pc = .ok (.areturn, 1) → W p l e R s m args below meth c H locs 0 0 Q (F0 m pc ls [.ref (ad i)])) →
      W p l e R s m args below meth c s.heap [] 0 0 Q (F0 m 0 ls [])) :
    CtR l y (Cond.code y cc maxL (some (.array rt)) :: wsG) fr lo av D tys n cy ad sk E S post :=
  Ct_body (Qc := fun sz => va_Qr (S := Nat × wS) (fun u => post u.1 u.2) (fun u a t => a = ad u.1 ∧ wPost D tys n cy ad sk S sz u.2 t) (va_A (wW n cy ad sk S) sz)) hy hlen (fun p e s m args below meth c A ls hA B => body p e s m args below meth c A ls _ _ B rfl rfl (fun i S' H locs pc ls hp w hdg => wb_aret B.1 B.2.1 B.2.2.1 B.2.2.2.2.2.2.1 hA w hp hdg))
