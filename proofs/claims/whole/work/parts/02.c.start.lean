/-! A contract out of a walk: the end is a hypothesis of the walk -/
section ST
variable {l : Launch} {y : MethodName} {cc : ByteArray} {maxL fr lo : Nat} {av : List Value} {D : va_G} {tys : List (ClassId × FieldType)} {n : Nat} {cy : Nat → ClassId} {ad : Nat → Nat} {sk : Nat → wK} {E : (Nat → Prop) → State → Prop} {S : wS}
theorem CtI_of {post : Int32 → wS → Prop} {rt : FieldType} (hy : plainName y.cls = true) (hlen : (lg_sl av).length ≤ maxL)
    (body : ∀ (p : Program) (e : Env) (s : State) (m : MethodId) (args : Array Value) (below : List Frame) (meth : Method) (c : Code) (A : Nat → Prop) (ls : Array Slot) (R : Room) (Q : State → Prop), Bd p s m args meth c y.cls cc maxL (some rt) av D tys n cy ad sk E S A ls → R.frames = fr → R.locals = lo →
      (∀ (v : Int32) (S' : wS) (H : Heap) (locs : List Loc) (pc : Nat) (ls : Array Slot), post v S' → narrow rt (.int v) = .int v → WB D tys n cy ad sk A s S' H locs → decode cc pc = .ok (.ireturn, 1) → W p l e R s m args below meth c H locs 0 0 Q (F0 m pc ls [.int v])) →
      W p l e R s m args below meth c s.heap [] 0 0 Q (F0 m 0 ls [])) :
    CtI l y (Cond.code y cc maxL (some rt) :: wsG) fr lo av D tys n cy ad sk E S post :=
  Ct_body (Qc := fun sz => va_Qi post (wPost D tys n cy ad sk S sz) (va_A (wW n cy ad sk S) sz)) hy hlen (fun p e s m args below meth c A ls hA B => body p e s m args below meth c A ls _ _ B rfl rfl (fun v S' H locs pc ls hp hn w hdg => wb_iret B.1 B.2.1 B.2.2.1 hn B.2.2.2.2.2.2.1 hA w hp hdg))
theorem CtL_of {post : Int64 → wS → Prop} (hy : plainName y.cls = true) (hlen : (lg_sl av).length ≤ maxL)
    (body : ∀ (p : Program) (e : Env) (s : State) (m : MethodId) (args : Array Value) (below : List Frame) (meth : Method) (c : Code) (A : Nat → Prop) (ls : Array Slot) (R : Room) (Q : State → Prop), Bd p s m args meth c y.cls cc maxL (some .long) av D tys n cy ad sk E S A ls → R.frames = fr → R.locals = lo →
      (∀ (v : Int64) (S' : wS) (H : Heap) (locs : List Loc) (pc : Nat) (ls : Array Slot), post v S' → WB D tys n cy ad sk A s S' H locs → decode cc pc = .ok (.lreturn, 1) → W p l e R s m args below meth c H locs 0 0 Q (F0 m pc ls [.long v])) →
      W p l e R s m args below meth c s.heap [] 0 0 Q (F0 m 0 ls [])) :
    CtL l y (Cond.code y cc maxL (some .long) :: wsG) fr lo av D tys n cy ad sk E S post :=
  Ct_body (Qc := fun sz => va_Ql post (wPost D tys n cy ad sk S sz) (va_A (wW n cy ad sk S) sz)) hy hlen (fun p e s m args below meth c A ls hA B => body p e s m args below meth c A ls _ _ B rfl rfl (fun v S' H locs pc ls hp w hdg => wb_lret B.1 B.2.1 B.2.2.1 B.2.2.2.2.2.2.1 hA w hp hdg))
theorem CtV_of {post : wS → Prop} (hy : plainName y.cls = true) (hlen : (lg_sl av).length ≤ maxL)
    (body : ∀ (p : Program) (e : Env) (s : State) (m : MethodId) (args : Array Value) (below : List Frame) (meth : Method) (c : Code) (A : Nat → Prop) (ls : Array Slot) (R : Room) (Q : State → Prop), Bd p s m args meth c y.cls cc maxL none av D tys n cy ad sk E S A ls → R.frames = fr → R.locals = lo →
      (∀ (S' : wS) (H : Heap) (locs : List Loc) (pc : Nat) (ls : Array Slot), post S' → WB D tys n cy ad sk A s S' H locs → decode cc pc = .ok (.return_, 1) → W p l e R s m args below meth c H locs 0 0 Q (F0 m pc ls [])) →
      W p l e R s m args below meth c s.heap [] 0 0 Q (F0 m 0 ls [])) :
    CtV l y (Cond.code y cc maxL none :: wsG) fr lo av D tys n cy ad sk E S post :=
  Ct_body (Qc := fun sz => va_Qv post (wPost D tys n cy ad sk S sz) (va_A (wW n cy ad sk S) sz)) hy hlen (fun p e s m args below meth c A ls hA B => body p e s m args below meth c A ls _ _ B rfl rfl (fun S' H locs pc ls hp w hdg => wb_vret B.1 B.2.1 B.2.2.1 B.2.2.2.2.2.2.1 hA w hp hdg))
end ST
section NR
variable {p : Program} {l : Launch} {e : Env} {R : Room} {s : State} {m : MethodId} {args : Array Value} {below : List Frame} {meth : Method} {c : Code} {H : Heap} {locs : List Loc} {cells slots : Nat} {Q : State → Prop}
variable {cc : ByteArray} {pc : Nat} {ls : Array Slot} {rest : List Value}
theorem WB_cast {D : va_G} {tys : List (ClassId × FieldType)} {n : Nat} {cy : Nat → ClassId} {ad : Nat → Nat} {sk : Nat → wK} {A : Nat → Prop} {S S' : wS} (w : WB D tys n cy ad sk A s S H locs) (h : S = S') : WB D tys n cy ad sk A s S' H locs := h ▸ w
theorem ni_inc (a b : Nat) : nI a + Int32.ofInt (b : Int) = nI (a + b) := by
  rw [← nI_add]
  congr 1
theorem ni_dec (a b : Nat) (h : b ≤ a) : nI a + Int32.ofInt (-(b : Int)) = nI (a - b) := by
  have h1 : a = (a - b) + b := by omega
  have h2 : nI a = nI (a - b) + nI b := by rw [nI_add]; exact congrArg nI h1
  rw [h2, Int32.add_assoc]
  have h3 : nI b + Int32.ofInt (-(b : Int)) = 0 := by
    apply Int32.toBitVec_inj.mp
    simp [nI, Int32.toBitVec_add, Int32.toBitVec_ofInt]
    exact BitVec.add_right_neg _
  rw [h3, Int32.add_zero]
theorem n_iadd {a b : Nat} (hx : p.tables.exec = Jvm.exec) (hb : c.code = cc) (hdg : decode cc pc = .ok (.iadd, 1)) (k : W p l e R s m args below meth c H locs cells slots Q (F0 m (pc + 1) ls (.int (nI (a + b)) :: rest))) : W p l e R s m args below meth c H locs cells slots Q (F0 m pc ls (.int (nI b) :: .int (nI a) :: rest)) :=
  lv_iadd hx hb hdg (by rw [nI_add]; exact k)
theorem n_isub {a b : Nat} (h : b ≤ a) (hx : p.tables.exec = Jvm.exec) (hb : c.code = cc) (hdg : decode cc pc = .ok (.isub, 1)) (k : W p l e R s m args below meth c H locs cells slots Q (F0 m (pc + 1) ls (.int (nI (a - b)) :: rest))) : W p l e R s m args below meth c H locs cells slots Q (F0 m pc ls (.int (nI b) :: .int (nI a) :: rest)) :=
  lv_isub hx hb hdg (by rw [pk_sub h]; exact k)
theorem n_imul {a b : Nat} (hx : p.tables.exec = Jvm.exec) (hb : c.code = cc) (hdg : decode cc pc = .ok (.imul, 1)) (k : W p l e R s m args below meth c H locs cells slots Q (F0 m (pc + 1) ls (.int (nI (a * b)) :: rest))) : W p l e R s m args below meth c H locs cells slots Q (F0 m pc ls (.int (nI b) :: .int (nI a) :: rest)) :=
  lv_imul hx hb hdg (by rw [pk_mul]; exact k)
theorem n_idiv {a b : Nat} (ha : a < 2 ^ 31) (h0 : 0 < b) (h1 : b < 2 ^ 31) (hx : p.tables.exec = Jvm.exec) (hb : c.code = cc) (hdg : decode cc pc = .ok (.idiv, 1)) (k : W p l e R s m args below meth c H locs cells slots Q (F0 m (pc + 1) ls (.int (nI (a / b)) :: rest))) : W p l e R s m args below meth c H locs cells slots Q (F0 m pc ls (.int (nI b) :: .int (nI a) :: rest)) :=
  lv_idiv hx hb hdg (nI_ne0 h0 h1) (by rw [pk_div ha h0 h1]; exact k)
theorem n_irem {a b : Nat} (ha : a < 2 ^ 31) (h0 : 0 < b) (h1 : b < 2 ^ 31) (hx : p.tables.exec = Jvm.exec) (hb : c.code = cc) (hdg : decode cc pc = .ok (.irem, 1)) (k : W p l e R s m args below meth c H locs cells slots Q (F0 m (pc + 1) ls (.int (nI (a % b)) :: rest))) : W p l e R s m args below meth c H locs cells slots Q (F0 m pc ls (.int (nI b) :: .int (nI a) :: rest)) :=
  lv_irem hx hb hdg (nI_ne0 h0 h1) (by rw [pk_rem ha h0 h1]; exact k)
theorem n_cmp_ge {a b : Nat} (ha : a < 2 ^ 31) (h1 : b < 2 ^ 31) (hx : p.tables.exec = Jvm.exec) (hb : c.code = cc) {off : Int} {tgt : Nat} (hdg : decode cc pc = .ok (.if_icmp .ge off, 3)) (ht : (pc : Int) + off = (tgt : Int)) (kt : b ≤ a → W p l e R s m args below meth c H locs cells slots Q (F0 m tgt ls rest)) (kf : a < b → W p l e R s m args below meth c H locs cells slots Q (F0 m (pc + 3) ls rest)) : W p l e R s m args below meth c H locs cells slots Q (F0 m pc ls (.int (nI b) :: .int (nI a) :: rest)) :=
  lv_icmp_ge hx hb hdg ht (fun h => kt ((nI_leI h1 ha).mp h)) (fun h => kf (Nat.not_le.mp fun h2 => h ((nI_leI h1 ha).mpr h2)))
theorem n_cmp_gt {a b : Nat} (ha : a < 2 ^ 31) (h1 : b < 2 ^ 31) (hx : p.tables.exec = Jvm.exec) (hb : c.code = cc) {off : Int} {tgt : Nat} (hdg : decode cc pc = .ok (.if_icmp .gt off, 3)) (ht : (pc : Int) + off = (tgt : Int)) (kt : b < a → W p l e R s m args below meth c H locs cells slots Q (F0 m tgt ls rest)) (kf : a ≤ b → W p l e R s m args below meth c H locs cells slots Q (F0 m (pc + 3) ls rest)) : W p l e R s m args below meth c H locs cells slots Q (F0 m pc ls (.int (nI b) :: .int (nI a) :: rest)) :=
  lv_icmp_gt hx hb hdg ht (fun h => kt ((nI_ltI h1 ha).mp h)) (fun h => kf (Nat.not_lt.mp fun h2 => h ((nI_ltI h1 ha).mpr h2)))
theorem n_cmp_le {a b : Nat} (ha : a < 2 ^ 31) (h1 : b < 2 ^ 31) (hx : p.tables.exec = Jvm.exec) (hb : c.code = cc) {off : Int} {tgt : Nat} (hdg : decode cc pc = .ok (.if_icmp .le off, 3)) (ht : (pc : Int) + off = (tgt : Int)) (kt : a ≤ b → W p l e R s m args below meth c H locs cells slots Q (F0 m tgt ls rest)) (kf : b < a → W p l e R s m args below meth c H locs cells slots Q (F0 m (pc + 3) ls rest)) : W p l e R s m args below meth c H locs cells slots Q (F0 m pc ls (.int (nI b) :: .int (nI a) :: rest)) :=
  lv_icmp_le hx hb hdg ht (fun h => kt ((nI_leI ha h1).mp h)) (fun h => kf (Nat.not_le.mp fun h2 => h ((nI_leI ha h1).mpr h2)))
theorem n_cmp_lt {a b : Nat} (ha : a < 2 ^ 31) (h1 : b < 2 ^ 31) (hx : p.tables.exec = Jvm.exec) (hb : c.code = cc) {off : Int} {tgt : Nat} (hdg : decode cc pc = .ok (.if_icmp .lt off, 3)) (ht : (pc : Int) + off = (tgt : Int)) (kt : a < b → W p l e R s m args below meth c H locs cells slots Q (F0 m tgt ls rest)) (kf : b ≤ a → W p l e R s m args below meth c H locs cells slots Q (F0 m (pc + 3) ls rest)) : W p l e R s m args below meth c H locs cells slots Q (F0 m pc ls (.int (nI b) :: .int (nI a) :: rest)) :=
  lv_icmp_lt hx hb hdg ht (fun h => kt ((nI_ltI ha h1).mp h)) (fun h => kf (Nat.not_lt.mp fun h2 => h ((nI_ltI ha h1).mpr h2)))
theorem n_cmp_eq {a b : Nat} (ha : a < 2 ^ 31) (h1 : b < 2 ^ 31) (hx : p.tables.exec = Jvm.exec) (hb : c.code = cc) {off : Int} {tgt : Nat} (hdg : decode cc pc = .ok (.if_icmp .eq off, 3)) (ht : (pc : Int) + off = (tgt : Int)) (kt : a = b → W p l e R s m args below meth c H locs cells slots Q (F0 m tgt ls rest)) (kf : ¬ a = b → W p l e R s m args below meth c H locs cells slots Q (F0 m (pc + 3) ls rest)) : W p l e R s m args below meth c H locs cells slots Q (F0 m pc ls (.int (nI b) :: .int (nI a) :: rest)) :=
  lv_icmp_eq hx hb hdg ht (fun h => kt ((nI_eq ha h1).mp h)) (fun h => kf fun h2 => h ((nI_eq ha h1).mpr h2))
theorem n_cmp_ne {a b : Nat} (ha : a < 2 ^ 31) (h1 : b < 2 ^ 31) (hx : p.tables.exec = Jvm.exec) (hb : c.code = cc) {off : Int} {tgt : Nat} (hdg : decode cc pc = .ok (.if_icmp .ne off, 3)) (ht : (pc : Int) + off = (tgt : Int)) (kt : ¬ a = b → W p l e R s m args below meth c H locs cells slots Q (F0 m tgt ls rest)) (kf : a = b → W p l e R s m args below meth c H locs cells slots Q (F0 m (pc + 3) ls rest)) : W p l e R s m args below meth c H locs cells slots Q (F0 m pc ls (.int (nI b) :: .int (nI a) :: rest)) :=
  lv_icmp_ne hx hb hdg ht (fun h => kt fun h2 => h ((nI_eq ha h1).mpr h2)) (fun h => kf ((nI_eq ha h1).mp h))
end NR
