theorem aoa_mv {t : FieldType} {s U : State} (h : va_AOA t s) (hW : s.WarmedH U.vm) : va_AOA t U := by
  have e : (Cond.arrayOver (.array t)).before #[] U = (Cond.arrayOver (.array t)).before #[] (s.setVm U.vm) := rfl
  unfold va_AOA
  rw [e, Cond.arrayOver_setVmC hW.alike]
  exact h
theorem aoa_bl {t : FieldType} {U : State} (h : va_AOA t U) (g : JFrame) (mk : MethodId) (v : Array Value) : va_AOA t (U.calling g mk v) := h
/-- what constructors take as given -/
def EN : (Nat → Prop) → State → Prop := fun _ U => nst U ∧ va_AOA .byte U ∧ va_AOA .int U ∧ va_AO "DigestTrees$Message" U ∧ va_AO "DigestTrees$Tree" U
theorem EN_ok : EOk EN := ⟨fun _ _ _ _ _ _ h _ _ hW _ => ⟨h.1.mv hW, aoa_mv h.2.1 hW, aoa_mv h.2.2.1 hW, va_AO.moved hW.alike h.2.2.2.1, va_AO.moved hW.alike h.2.2.2.2⟩, fun _ U g mk v h => ⟨h.1.bl g mk v, aoa_bl h.2.1 g mk v, aoa_bl h.2.2.1 g mk v, va_AO.moved (u := U) (U := U.calling g mk v) (Vm.Alike.refl U.vm) h.2.2.2.1, va_AO.moved (u := U) (U := U.calling g mk v) (Vm.Alike.refl U.vm) h.2.2.2.2⟩⟩
def nPre (D : va_G) (cy : Nat → ClassId) (L : va_W) (sz : Nat) : State → Prop := fun U => U.heap.size = sz ∧ va_P D vwCl L U.heap ∧ va_K D vwCl (tyC cy) U ∧ va_D (fun _ => True) L ∧ EN (va_A L sz) U
def nPost (D : va_G) (cy : Nat → ClassId) (L : va_W) (sz : Nat) : va_W → State → Prop := fun w1 t => va_P D vwCl w1 t.heap ∧ va_K D vwCl (tyC cy) t ∧ va_D (va_A L sz) w1
/-- a constructor, over the cells L: mc cells of ms slots are new -/
def CtN (l : Launch) (y : MethodName) (ws : List Cond) (fr lo mc ms : Nat) (av : List Value) (D : va_G) (cy : Nat → ClassId) (L : va_W) (post : va_W → Prop) : Prop :=
  ∀ sz : Nat, Met l y ws ({ frames := fr, cells := mc, slots := ms, locals := lo }) (va_Pc av (nPre D cy L sz)) (va_Qv post (nPost D cy L sz) (va_A L sz)) mc ms (va_A L sz)
def Bn (p : Program) (s : State) (m : MethodId) (args : Array Value) (meth : Method) (c : Code) (own : String) (cc : ByteArray) (maxL : Nat) (av : List Value) (D : va_G) (cy : Nat → ClassId) (L : va_W) (A : Nat → Prop) (ls : Array Slot) : Prop :=
  p.tables.exec = Jvm.exec ∧ c.code = cc ∧ meth.sig.returnType = none ∧ (∀ w ∈ wsG, w.before args s = true) ∧ s.vm.findClass own = some m.cls ∧ c.maxLocals = maxL ∧ meth.locks = false ∧ CB D cy A s L s.heap [] ∧ EN A s ∧ lv_has ls maxL (lv_args 0 av)
theorem CtN_of {l : Launch} {y : MethodName} {cc : ByteArray} {maxL fr lo mc ms : Nat} {av : List Value} {D : va_G} {cy : Nat → ClassId} {L : va_W} {post : va_W → Prop} (hy : plainName y.cls = true) (hlen : (lg_sl av).length ≤ maxL)
    (body : ∀ (p : Program) (e : Env) (s : State) (m : MethodId) (args : Array Value) (below : List Frame) (meth : Method) (c : Code) (A : Nat → Prop) (ls : Array Slot) (R : Room) (Q : State → Prop), Bn p s m args meth c y.cls cc maxL av D cy L A ls → meth.name = y.name → R = { frames := fr, cells := mc, slots := ms, locals := lo } →
      (∀ (w1 : va_W) (H : Heap) (locs : List Loc) (pc : Nat) (ls : Array Slot), post w1 → CB D cy A s w1 H locs → decode cc pc = .ok (.return_, 1) → W p l e R s m args below meth c H locs mc ms Q (F0 m pc ls [])) →
      W p l e R s m args below meth c s.heap [] 0 0 Q (F0 m 0 ls [])) :
    CtN l y (Cond.code y cc maxL none :: wsG) fr lo mc ms av D cy L post := by
  intro sz
  refine Met.ofW (cc := cc) (maxL := maxL) (ret := none) hy rfl ?_
  intro p e s m args below meth c s₁ B hml hv
  obtain ⟨rfl, hsz, hP, hK, hD0, hE⟩ := hv
  subst hsz
  have hts := atoms_spec (ws := Cond.code y cc maxL none :: wsG) B.pre
  rw [lg_entry_eq]
  refine body p e s m av.toArray below meth c (va_A L s.heap.size) _ _ _ ⟨B.exec, B.bytes, B.returns, fun w h => hts w (List.mem_cons_of_mem _ h), findClass_of_methodNamed B.named, hml, B.notSynchronized, ⟨hK, hP, hD0.self, va_S.rf, fun q h => Or.inr h⟩, hE, lv_entry av hlen⟩ (name_of_methodNamed B.named B.method).1 rfl (fun w1 H locs pc ls hp w hdg => ?_)
  exact W.vret B.exec B.bytes B.returns (fun t ht hW => ⟨⟨w1, rfl, hp, by rw [ht]; exact w.2.1, va_K.moved hW.alike w.1, w.2.2.1⟩, w.2.2.2.1.F ht⟩) w.2.2.2.1.2.2 hdg B.notSynchronized
section CI
variable {p : Program} {l : Launch} {e : Env} {R : Room} {s : State} {m : MethodId} {args : Array Value} {below : List Frame} {meth : Method} {c : Code} {H : Heap} {locs : List Loc} {cells slots : Nat} {Q : State → Prop}
variable {cc : ByteArray} {pc : Nat} {ls : Array Slot} {rest st0 : List Value}
variable {D : va_G} {cy : Nat → ClassId} {A : Nat → Prop} {L : va_W} {own : String} {y : MethodName} {bytes : ByteArray} {maxL nL fr lo mc ms index na : Nat} {As : List Value}
theorem nPre_blind {av2 : List Value} {L2 : va_W} {sz : Nat} : FrameBlind (va_Pc av2 (nPre D cy L2 sz)) := fun a U g mk q => by
  obtain ⟨q0, q1, qP, qK, qD, qE⟩ := q
  exact ⟨q0, q1, qP, va_K.moved (u := U) (U := U.calling g mk a) (Vm.Alike.refl U.vm) qK, qD, EN_ok.2 _ _ g mk a qE⟩
theorem last_P {q : Nat} {e0 : va_E} (w : CB D cy A s (L ++ [(q, e0)]) H locs) : va_P D vwCl [(q, e0)] H ∧ va_D (fun _ => True) [(q, e0)] ∧ ∀ x, va_A [(q, e0)] H.size x → A x := by
  have hi : (L ++ [(q, e0)])[L.length]? = some (q, e0) := by simp
  refine ⟨fun k x hk => ?_, ⟨fun i j x z hi hj _ => ?_, fun _ _ _ => trivial⟩, fun x hx => ?_⟩
  · have h0 : k < 1 := (List.getElem?_eq_some_iff.mp hk).1
    obtain rfl : k = 0 := by omega
    cases hk
    exact w.2.1 _ _ hi
  · have h0 : i < 1 := (List.getElem?_eq_some_iff.mp hi).1
    have h1 : j < 1 := (List.getElem?_eq_some_iff.mp hj).1
    omega
  · rcases hx with ⟨k, e9, hk⟩ | hx
    · have h0 : k < 1 := (List.getElem?_eq_some_iff.mp hk).1
      obtain rfl : k = 0 := by omega
      cases hk
      exact w.2.2.1.2 _ _ hi
    · exact w.2.2.2.2 x (Nat.le_trans w.2.2.2.1.1 hx)
/-- behind a constructor that had the last cell -/
theorem last_back {q : Nat} {e0 : va_E} {w1 : va_W} {H1 : Heap} {locs1 : List Loc} (w : CB D cy A s (L ++ [(q, e0)]) H locs) (hP1 : va_P D vwCl w1 H1) (hD1 : va_D (va_A [(q, e0)] H.size) w1) (hk : ∀ x : Nat, x < H.size → ¬ va_A [(q, e0)] H.size x → H1[x]? = H[x]?) (hS : va_S A s.heap H1 locs1) : CB D cy A s (L ++ w1) H1 locs1 := by
  have hi : (L ++ [(q, e0)])[L.length]? = some (q, e0) := by simp
  have hold : ∀ (k : Nat) (x : Nat × va_E), L[k]? = some x → x.1 < H.size ∧ ¬ va_A [(q, e0)] H.size x.1 := by
    intro k x hx
    have hkl : k < L.length := (List.getElem?_eq_some_iff.mp hx).1
    have hx2 : (L ++ [(q, e0)])[k]? = some x := by rw [List.getElem?_append_left hkl]; exact hx
    have hlt := (w.2.1 k x hx2).lt
    refine ⟨hlt, fun h => ?_⟩
    rcases h with ⟨k2, e9, hk2⟩ | h
    · have h0 : k2 < 1 := (List.getElem?_eq_some_iff.mp hk2).1
      obtain rfl : k2 = 0 := by omega
      have e8 : (q, e0) = (x.1, e9) := Option.some.inj hk2
      have := w.2.2.1.1 k L.length x (q, e0) hx2 hi (congrArg Prod.fst e8).symm
      omega
    · omega
  refine ⟨w.1, va_P.app (fun k x hx => ?_) hP1, ⟨fun i j x z hi2 hj2 hxz => ?_, fun k x hx => ?_⟩, hS, w.2.2.2.2⟩
  · have hkl : k < L.length := (List.getElem?_eq_some_iff.mp hx).1
    have hx2 : (L ++ [(q, e0)])[k]? = some x := by rw [List.getElem?_append_left hkl]; exact hx
    obtain ⟨h1, h2⟩ := hold k x hx
    exact (w.2.1 k x hx2).kept (hk _ h1 h2)
  · by_cases a : i < L.length <;> by_cases b : j < L.length
    · rw [List.getElem?_append_left a] at hi2
      rw [List.getElem?_append_left b] at hj2
      exact w.2.2.1.1 i j x z (by rw [List.getElem?_append_left a]; exact hi2) (by rw [List.getElem?_append_left b]; exact hj2) hxz
    · rw [List.getElem?_append_left a] at hi2
      rw [List.getElem?_append_right (by omega)] at hj2
      have h2 := hD1.2 _ _ hj2
      rw [← hxz] at h2
      exact absurd h2 (hold i x hi2).2
    · rw [List.getElem?_append_right (by omega)] at hi2
      rw [List.getElem?_append_left b] at hj2
      have h2 := hD1.2 _ _ hi2
      rw [hxz] at h2
      exact absurd h2 (hold j z hj2).2
    · rw [List.getElem?_append_right (by omega)] at hi2 hj2
      have := hD1.1 _ _ x z hi2 hj2 hxz
      omega
  · by_cases a : k < L.length
    · rw [List.getElem?_append_left a] at hx
      exact w.2.2.1.2 k x (by rw [List.getElem?_append_left a]; exact hx)
    · rw [List.getElem?_append_right (by omega)] at hx
      exact (last_P w).2.2 _ (hD1.2 _ _ hx)
theorem cb_init {q : Nat} {e0 : va_E} {post : va_W → Prop} (hx : p.tables.exec = Jvm.exec) (hb : c.code = cc) (hml : c.maxLocals = nL) (hg : ∀ w ∈ wsG, w.before args s = true) (hown : s.vm.findClass own = some m.cls) (w : CB D cy A s (L ++ [(q, e0)]) H locs) (hE : EN A s) (hM : CtN l y (Cond.code y bytes maxL none :: wsG) fr lo mc ms (.ref q :: As) D cy [(q, e0)] post) (hcd : Cond.code y bytes maxL none ∈ wsG) (hini : Cond.initialized y.cls ∈ wsG) (hl : Cond.methodLink own index y ∈ wsG) (him : Cond.instanceMethod y ∈ wsG) (hy1 : y.name = "<init>") (hd : y.cls ≠ "java/lang/invoke/MethodHandle" ∧ y.cls ≠ "java/lang/invoke/VarHandle" ∧ (parseMethodDescriptor y.desc).map (fun d => d.parameters.length) = some na) (hR : fr + 1 ≤ R.frames ∧ 8 + (maxL + 11) + lo ≤ R.locals) (hn : As.length = na) (hsz : ls.size = nL) (hst : st0 = As.reverse ++ .ref q :: rest) (hcat : (rest.map fun v => v.category).sum ≤ 8) (hdg : decode cc pc = .ok (.invokespecial index, 3)) (hf : cells + mc ≤ R.cells ∧ slots + ms ≤ R.slots)
    (kk : ∀ (w1 : va_W) (H1 : Heap) (locs1 : List Loc), post w1 → CB D cy A s (L ++ w1) H1 locs1 → W p l e R s m args below meth c H1 locs1 (cells + mc) (slots + ms) Q (F0 m (pc + 3) ls rest)) : W p l e R s m args below meth c H locs cells slots Q (F0 m pc ls st0) := by
  obtain ⟨h1, h2, h3⟩ := last_P w
  refine va_callv (va_runI (As := As) (rest := rest) ⟨hx, hb, hml, hown, hg⟩ (hM H.size) (cwI na hg (gdG hcd) rfl rfl rfl (hg _ hini) (hg _ hl) (hg _ him) hy1 hd hR) ⟨nPre_blind, fun U hU hW => ⟨rfl, by rw [hU], by rw [hU]; exact h1, va_K.moved hW.alike w.1, h2, EN_ok.1 A _ s U H locs hE hU w.2.2.2.1 hW h3⟩⟩ rfl hn hsz hst (lv_room hcat) hdg hf) w.2.2.2.1 (fun x _ h => h3 x h) h3 (fun u t H1 locs1 ht hvm hw hB hz1 hk1 hS => ?_)
  exact kk u H1 locs1 hw (last_back w (by rw [← ht]; exact hB.1) hB.2.2 hk1 hS)
theorem cb_initN {q : Nat} {e0 : va_E} {post : va_W → Prop} {host : String} (hx : p.tables.exec = Jvm.exec) (hb : c.code = cc) (hml : c.maxLocals = nL) (hg : ∀ w ∈ wsG, w.before args s = true) (hown : s.vm.findClass own = some m.cls) (w : CB D cy A s (L ++ [(q, e0)]) H locs) (hE : EN A s) (hM : CtN l y (Cond.code y bytes maxL none :: wsG) fr lo mc ms (.ref q :: As) D cy [(q, e0)] post) (hcd : Cond.code y bytes maxL none ∈ wsG) (hini : Cond.initialized y.cls ∈ wsG) (hl : va_Nw (.methodLinkNest own index y host) s) (him : Cond.instanceMethod y ∈ wsG) (hy1 : y.name = "<init>") (hd : y.cls ≠ "java/lang/invoke/MethodHandle" ∧ y.cls ≠ "java/lang/invoke/VarHandle" ∧ (parseMethodDescriptor y.desc).map (fun d => d.parameters.length) = some na) (hR : fr + 1 ≤ R.frames ∧ 8 + (maxL + 11) + lo ≤ R.locals) (hn : As.length = na) (hsz : ls.size = nL) (hst : st0 = As.reverse ++ .ref q :: rest) (hcat : (rest.map fun v => v.category).sum ≤ 8) (hdg : decode cc pc = .ok (.invokespecial index, 3)) (hf : cells + mc ≤ R.cells ∧ slots + ms ≤ R.slots)
    (kk : ∀ (w1 : va_W) (H1 : Heap) (locs1 : List Loc), post w1 → CB D cy A s (L ++ w1) H1 locs1 → W p l e R s m args below meth c H1 locs1 (cells + mc) (slots + ms) Q (F0 m (pc + 3) ls rest)) : W p l e R s m args below meth c H locs cells slots Q (F0 m pc ls st0) := by
  obtain ⟨h1, h2, h3⟩ := last_P w
  refine va_callv (va_runIN (As := As) (rest := rest) ⟨hx, hb, hml, hown, hg⟩ (hM H.size) ⟨va_cnB na hg (gdG hcd) rfl rfl rfl hl (hg _ hini) hd hR, hy1, hg _ him⟩ ⟨nPre_blind, fun U hU hW => ⟨rfl, by rw [hU], by rw [hU]; exact h1, va_K.moved hW.alike w.1, h2, EN_ok.1 A _ s U H locs hE hU w.2.2.2.1 hW h3⟩⟩ rfl hn hsz hst (lv_room hcat) hdg hf) w.2.2.2.1 (fun x _ h => h3 x h) h3 (fun u t H1 locs1 ht hvm hw hB hz1 hk1 hS => ?_)
  exact kk u H1 locs1 hw (last_back w (by rw [← ht]; exact hB.1) hB.2.2 hk1 hS)
end CI
theorem CB.swap {D : va_G} {cy : Nat → ClassId} {A : Nat → Prop} {s : State} {L u v : va_W} {H : Heap} {locs : List Loc} (w : CB D cy A s ((L ++ u) ++ v) H locs) : CB D cy A s ((L ++ v) ++ u) H locs := by
  have hm : ∀ x, x ∈ (L ++ v) ++ u → x ∈ (L ++ u) ++ v := fun x hx => by
    simp only [List.mem_append] at hx ⊢
    rcases hx with (h | h) | h
    · exact Or.inl (Or.inl h)
    · exact Or.inr h
    · exact Or.inl (Or.inr h)
  have key : ∀ (k : Nat) (x : Nat × va_E), ((L ++ v) ++ u)[k]? = some x → ((L ++ u) ++ v)[if k < L.length then k else if k < L.length + v.length then k + u.length else k - v.length]? = some x := by
    intro k x hk
    have hlt : k < ((L ++ v) ++ u).length := (List.getElem?_eq_some_iff.mp hk).1
    simp only [List.length_append] at hlt
    by_cases h1 : k < L.length
    · rw [if_pos h1, List.getElem?_append_left (by simp only [List.length_append]; omega), List.getElem?_append_left h1]
      rw [List.getElem?_append_left (by simp only [List.length_append]; omega), List.getElem?_append_left h1] at hk
      exact hk
    · rw [if_neg h1]
      by_cases h2 : k < L.length + v.length
      · rw [if_pos h2, List.getElem?_append_right (by simp only [List.length_append]; omega)]
        rw [List.getElem?_append_left (by simp only [List.length_append]; omega), List.getElem?_append_right (by omega)] at hk
        rw [← hk]
        congr 1
        simp only [List.length_append]
        omega
      · rw [if_neg h2, List.getElem?_append_left (by simp only [List.length_append]; omega), List.getElem?_append_right (by omega)]
        rw [List.getElem?_append_right (by simp only [List.length_append]; omega)] at hk
        rw [← hk]
        congr 1
        simp only [List.length_append]
        omega
  refine ⟨w.1, fun k x hk => w.2.1 _ x (key k x hk), ⟨fun i j x z hi hj hxz => ?_, fun k x hk => w.2.2.1.2 _ x (key k x hk)⟩, w.2.2.2.1, w.2.2.2.2⟩
  have h1 := w.2.2.1.1 _ _ x z (key i x hi) (key j z hj) hxz
  have li : i < ((L ++ v) ++ u).length := (List.getElem?_eq_some_iff.mp hi).1
  have lj : j < ((L ++ v) ++ u).length := (List.getElem?_eq_some_iff.mp hj).1
  simp only [List.length_append] at li lj
  by_cases a1 : i < L.length <;> by_cases b1 : j < L.length <;> by_cases a2 : i < L.length + v.length <;> by_cases b2 : j < L.length + v.length <;> simp only [a1, b1, a2, b2, if_true, if_false] at h1 <;> omega
/-- a reference into an array of objects: the array at q0, the object at qk -/
theorem cb_ast {p : Program} {l : Launch} {e : Env} {R : Room} {s : State} {m : MethodId} {args : Array Value} {below : List Frame} {meth : Method} {c : Code} {H : Heap} {locs : List Loc} {cells slots : Nat} {Q : State → Prop} {cc : ByteArray} {pc : Nat} {ls : Array Slot} {rest : List Value} {D : va_G} {cy : Nat → ClassId} {A : Nat → Prop} {L L' : va_W} (hx : p.tables.exec = Jvm.exec) (hb : c.code = cc) (w : CB D cy A s L H locs) (q0 qk kd n ci k : Nat) {a v : Nat} {r : vw_C} {vs : List Value} {f : Nat → Option Nat} (ha : L[q0]? = some (a, eQ cy kd n f)) (ht : (tyC cy)[kd]? = some (cy kd, .object r.1)) (hv : L[qk]? = some (v, .inr (ci, vs))) (hc : vwCl[ci]? = some r) (hk : k < n) (hn : n < 2 ^ 20) (hL' : L.set q0 (a, eQ cy kd n (va_up f k (some v))) = L') (hdg : decode cc pc = .ok (.aastore, 1))
    (kk : ∀ (H1 : Heap) (locs1 : List Loc), CB D cy A s L' H1 locs1 → W p l e R s m args below meth c H1 locs1 cells slots Q (F0 m (pc + 1) ls rest)) : W p l e R s m args below meth c H locs cells slots Q (F0 m pc ls (.ref v :: .int (nI k) :: .ref a :: rest)) := by
  subst hL'
  refine va_astq hx hb w.1 w.2.1 w.2.2.1 w.2.2.2.1 q0 kd qk ci ha ht hv hc (vp_in_nI hk (by omega)) hdg (fun H1 locs1 hP hD hS => ?_)
  rw [nI_clamp (by omega)] at hP hD
  exact kk H1 locs1 ⟨w.1, hP, hD, hS, w.2.2.2.2⟩
