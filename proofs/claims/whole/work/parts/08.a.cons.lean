/-! Constructors: worlds that grow, as lists -/
def eI (cy : Nat → ClassId) (k n : Nat) : va_E := .inl (cy k, n, .inl (fun _ => 0))
def eJ (cy : Nat → ClassId) (n : Nat) : va_E := .inl (cy 2, n, .inr (.inl (fun _ => 0)))
def eQ (cy : Nat → ClassId) (k n : Nat) (g : Nat → Option Nat) : va_E := .inl (cy k, n, .inr (.inr (.inr (.inr g))))
/-- N rows at r -/
def rwL (N : Nat) (r : Nat → Nat) (e : va_E) : va_W := (List.range N).map (fun i => (r i, e))
/-- an array of N rows at r -/
def rwQ (N : Nat) (r : Nat → Nat) : Nat → Option Nat := fun i => if i < N then some (r i) else none
def CB (D : va_G) (cy : Nat → ClassId) (A : Nat → Prop) (s : State) (L : va_W) (H : Heap) (locs : List Loc) : Prop := va_K D vwCl (tyC cy) s ∧ va_P D vwCl L H ∧ va_D A L ∧ va_S A s.heap H locs ∧ ∀ q, s.heap.size ≤ q → A q
theorem K_uniq {D : va_G} {cl : List vw_C} {tys : List (ClassId × FieldType)} {s : State} {cA c0 : ClassId} {ty : FieldType} {k : Nat} (h : va_K D cl (tys ++ [(cA, ty)]) s) (hk : tys[k]? = some (c0, ty)) : cA = c0 := by
  have h1 := (h.2 tys.length (cA, ty) (by simp)).2
  have h2 := (h.2 k (c0, ty) (by rw [List.getElem?_append_left (List.getElem?_eq_some_iff.mp hk).1]; exact hk)).2
  cases ty with
  | object C =>
    obtain ⟨_, _, _, _, _, a⟩ := h1
    obtain ⟨_, _, _, _, _, b⟩ := h2
    exact Option.some.inj (a.symm.trans b)
  | _ => exact Option.some.inj (Eq.trans (Eq.symm h1) h2)
section CN
variable {p : Program} {l : Launch} {e : Env} {R : Room} {s : State} {m : MethodId} {args : Array Value} {below : List Frame} {meth : Method} {c : Code} {H : Heap} {locs : List Loc} {cells slots : Nat} {Q : State → Prop}
variable {cc : ByteArray} {pc : Nat} {ls : Array Slot} {rest st0 : List Value}
variable {D : va_G} {cy : Nat → ClassId} {A : Nat → Prop} {L : va_W} {own : String}
theorem cb_new {C : String} {T : u_T} {N ci index : Nat} (hx : p.tables.exec = Jvm.exec) (hb : c.code = cc) (hg : ∀ w ∈ wsG, w.before args s = true) (hin : ∀ w ∈ u_ws C T N, w ∈ wsG) (ty : Nat → FieldType) (hty : ∀ k, k < N → parseFieldDescriptor (T k).2.2.1 = some (ty k)) (hown : s.vm.findClass own = some m.cls) (hcl : Cond.classLink own index C ∈ wsG) (hinst : Cond.instantiable C N ∈ wsG) (hini : Cond.initialized C ∈ wsG) (w : CB D cy A s L H locs) (hc : vwCl[ci]? = some (C, T, N)) {fs : List Value} (hfs : ∀ j, j < N → defaultValue (ty j) = vp_V fs j) (hcells : cells + 1 ≤ R.cells) (hslots : slots + N ≤ R.slots) (hdg : decode cc pc = .ok (.new index, 3))
    (kk : ∀ (q : Nat) (H1 : Heap), CB D cy A s (L ++ [(q, .inr (ci, fs))]) H1 locs → W p l e R s m args below meth c H1 locs (cells + 1) (slots + N) Q (F0 m (pc + 3) ls (.ref q :: rest))) : W p l e R s m args below meth c H locs cells slots Q (F0 m pc ls rest) :=
  va_new hx hb hg hin ty hty hown (hg _ hcl) (hg _ hinst) (hg _ hini) w.1 w.2.1 w.2.2.1 w.2.2.2.1 w.2.2.2.2 hc hfs hcells hslots hdg (fun q H1 hP hD hS => kk q H1 ⟨w.1, hP, hD, hS, w.2.2.2.2⟩)
theorem cb_newI {n : Nat} (hx : p.tables.exec = Jvm.exec) (hb : c.code = cc) (hg : ∀ w ∈ wsG, w.before args s = true) (harr : Cond.arrayClass .int ∈ wsG) (w : CB D cy A s L H locs) (hn : n < 2 ^ 20) (hcells : cells + 1 ≤ R.cells) (hslots : slots + n ≤ R.slots) (hdg : decode cc pc = .ok (.newarray .int, 2))
    (kk : ∀ (q : Nat) (H1 : Heap), CB D cy A s (L ++ [(q, eI cy 0 n)]) H1 locs → W p l e R s m args below meth c H1 locs (cells + 1) (slots + n) Q (F0 m (pc + 2) ls (.ref q :: rest))) : W p l e R s m args below meth c H locs cells slots Q (F0 m pc ls (.int (nI n) :: rest)) := by
  refine va_newa (atype := .int) (ty := .int) (a0 := (n, .inl (fun _ => 0))) hx hb (hg _ harr) rfl w.1 w.2.1 w.2.2.1 w.2.2.2.1 w.2.2.2.2 (fun _ => rfl) (nI_pos (by omega)) (nI_clamp (by omega)) (by show n * 4 ≤ _; omega) hcells hslots hdg (fun q cA H1 hK hP hD hS => ?_)
  obtain rfl : cA = cy 0 := K_uniq (k := 0) hK rfl
  exact kk q H1 ⟨w.1, hP, hD, hS, w.2.2.2.2⟩
theorem cb_newB {n : Nat} (hx : p.tables.exec = Jvm.exec) (hb : c.code = cc) (hg : ∀ w ∈ wsG, w.before args s = true) (harr : Cond.arrayClass .byte ∈ wsG) (w : CB D cy A s L H locs) (hn : n < 2 ^ 20) (hcells : cells + 1 ≤ R.cells) (hslots : slots + n ≤ R.slots) (hdg : decode cc pc = .ok (.newarray .byte, 2))
    (kk : ∀ (q : Nat) (H1 : Heap), CB D cy A s (L ++ [(q, eI cy 1 n)]) H1 locs → W p l e R s m args below meth c H1 locs (cells + 1) (slots + n) Q (F0 m (pc + 2) ls (.ref q :: rest))) : W p l e R s m args below meth c H locs cells slots Q (F0 m pc ls (.int (nI n) :: rest)) := by
  refine va_newa (atype := .byte) (ty := .byte) (a0 := (n, .inl (fun _ => 0))) hx hb (hg _ harr) rfl w.1 w.2.1 w.2.2.1 w.2.2.2.1 w.2.2.2.2 (fun _ => rfl) (nI_pos (by omega)) (nI_clamp (by omega)) (by show n * 1 ≤ _; omega) hcells hslots hdg (fun q cA H1 hK hP hD hS => ?_)
  obtain rfl : cA = cy 1 := K_uniq (k := 1) hK rfl
  exact kk q H1 ⟨w.1, hP, hD, hS, w.2.2.2.2⟩
theorem cb_newJ {n : Nat} (hx : p.tables.exec = Jvm.exec) (hb : c.code = cc) (hg : ∀ w ∈ wsG, w.before args s = true) (harr : Cond.arrayClass .long ∈ wsG) (w : CB D cy A s L H locs) (hn : n < 2 ^ 20) (hcells : cells + 1 ≤ R.cells) (hslots : slots + n ≤ R.slots) (hdg : decode cc pc = .ok (.newarray .long, 2))
    (kk : ∀ (q : Nat) (H1 : Heap), CB D cy A s (L ++ [(q, eJ cy n)]) H1 locs → W p l e R s m args below meth c H1 locs (cells + 1) (slots + n) Q (F0 m (pc + 2) ls (.ref q :: rest))) : W p l e R s m args below meth c H locs cells slots Q (F0 m pc ls (.int (nI n) :: rest)) := by
  refine va_newa (atype := .long) (ty := .long) (a0 := (n, .inr (.inl (fun _ => 0)))) hx hb (hg _ harr) rfl w.1 w.2.1 w.2.2.1 w.2.2.2.1 w.2.2.2.2 (fun _ => rfl) (nI_pos (by omega)) (nI_clamp (by omega)) (by show n * 8 ≤ _; omega) hcells hslots hdg (fun q cA H1 hK hP hD hS => ?_)
  obtain rfl : cA = cy 2 := K_uniq (k := 2) hK rfl
  exact kk q H1 ⟨w.1, hP, hD, hS, w.2.2.2.2⟩
/-- an array of n nulls -/
theorem cb_newQ {C : String} {index k n : Nat} (hx : p.tables.exec = Jvm.exec) (hb : c.code = cc) (hg : ∀ w ∈ wsG, w.before args s = true) (hown : s.vm.findClass own = some m.cls) (hcl : Cond.classLink own index C ∈ wsG) (hover : va_AO C s) (w : CB D cy A s L H locs) (hk : (tyC cy)[k]? = some (cy k, .object C)) (hn : n < 2 ^ 20) (hcells : cells + 1 ≤ R.cells) (hslots : slots + n ≤ R.slots) (hdg : decode cc pc = .ok (.anewarray index, 3))
    (kk : ∀ (q : Nat) (H1 : Heap), CB D cy A s (L ++ [(q, eQ cy k n (fun _ => none))]) H1 locs → W p l e R s m args below meth c H1 locs (cells + 1) (slots + n) Q (F0 m (pc + 3) ls (.ref q :: rest))) : W p l e R s m args below meth c H locs cells slots Q (F0 m pc ls (.int (nI n) :: rest)) := by
  refine va_newq hx hb hown (hg _ hcl) hover w.1 w.2.1 w.2.2.1 w.2.2.2.1 w.2.2.2.2 (nI_pos (by omega)) (nI_clamp (by omega)) (by omega) hcells hslots hdg (fun q cA H1 hK hP hD hS => ?_)
  obtain rfl : cA = cy k := K_uniq (k := k) hK hk
  exact kk q H1 ⟨w.1, hP, hD, hS, w.2.2.2.2⟩
/-- rows: kind k of the outer array, k0 of the rows -/
theorem cb_mna {index k k0 n n2 : Nat} {ty : FieldType} (hx : p.tables.exec = Jvm.exec) (hb : c.code = cc) (hg : ∀ w ∈ wsG, w.before args s = true) (hown : s.vm.findClass own = some m.cls) (hcl : Cond.classLink own index ("[" ++ (FieldType.array ty).toString) ∈ wsG) (hover : va_AOA ty s) (harr : Cond.arrayClass ty ∈ wsG) (w : CB D cy A s L H locs) (hk : (tyC cy)[k]? = some (cy k, .array ty)) (hty : (k0 = 0 ∧ ty = .int) ∨ (k0 = 1 ∧ ty = .byte)) (hn : n < 2 ^ 10) (hn2 : n2 < 2 ^ 10) (hcells : cells + (1 + n) ≤ R.cells) (hslots : slots + (n + n * n2) ≤ R.slots) (hdg : decode cc pc = .ok (.multianewarray index 2, 4))
    (kk : ∀ (q : Nat) (r : Nat → Nat) (H1 : Heap), CB D cy A s (L ++ ([(q, eQ cy k n (rwQ n r))] ++ rwL n r (eI cy k0 n2))) H1 locs → W p l e R s m args below meth c H1 locs (cells + 1 + n) (slots + n + n * n2) Q (F0 m (pc + 4) ls (.ref q :: rest))) : W p l e R s m args below meth c H locs cells slots Q (F0 m pc ls (.int (nI n2) :: .int (nI n) :: rest)) := by
  have hL0 : L ++ va_pl [] (fun _ => eI cy 0 0) = L := List.append_nil L
  have hcb : componentBytes ty ≤ 8 := by rcases hty with ⟨_, rfl⟩ | ⟨_, rfl⟩ <;> decide
  have hcc : n2 * componentBytes ty ≤ 536870912 := Nat.le_trans (Nat.mul_le_mul_left _ hcb) (by omega)
  refine va_mna (X := L) (L := []) (f := fun _ => eI cy 0 0) (cy := cy k0) (z := (n2, .inl (fun _ => 0))) hx hb hown (hg _ hcl) hover (hg _ harr) ?_ w.1 (by rw [hL0]; exact w.2.1) (by rw [hL0]; exact w.2.2.1) w.2.2.2.1 w.2.2.2.2 (nI_pos (by omega)) (nI_pos (by omega)) (nI_clamp (by omega)) (nI_clamp (by omega)) (by omega) hcc (by omega) ?_ ?_ hcells hslots ?_ hdg (fun q r cA H1 hr hrL hK hP hD hS => ?_)
  · rcases hty with ⟨rfl, rfl⟩ | ⟨rfl, rfl⟩
    · exact (w.1.2 0 _ rfl).2
    · exact (w.1.2 1 _ rfl).2
  · rcases hty with ⟨_, rfl⟩ | ⟨_, rfl⟩ <;> rfl
  · rcases hty with ⟨_, rfl⟩ | ⟨_, rfl⟩ <;> rfl
  · intro c9
    rcases hty with ⟨_, rfl⟩ | ⟨_, rfl⟩
    · show ({ cls := c9, slots := Array.replicate n2 (.int 0), vm := .none } : Cell) = arrV c9 n2 (fun _ => .int 0)
      rw [arrV_new]
    · show ({ cls := c9, slots := Array.replicate n2 (.int 0), vm := .none } : Cell) = arrV c9 n2 (fun _ => .int 0)
      rw [arrV_new]
  · obtain rfl : cA = cy k := K_uniq (k := k) hK hk
    have e1 : va_pl ([] ++ (List.range n).map r) (vr_up (fun _ => eI cy 0 0) ((List.range n).map r) (.inl (cy k0, n2, .inl (fun _ => 0)))) = rwL n r (eI cy k0 n2) := by
      unfold va_pl rwL
      rw [List.nil_append, List.map_map]
      apply List.map_congr_left
      intro i hi
      show (r i, vr_up _ _ _ (r i)) = (r i, eI cy k0 n2)
      rw [vr_up_in (List.mem_map.mpr ⟨i, hi, rfl⟩)]
      rfl
    rw [e1, List.append_assoc] at hP hD
    exact kk q r H1 ⟨w.1, hP, hD, hS, w.2.2.2.2⟩
/-- a final field of the object at place q0 -/
theorem cb_putF {C : String} {T : u_T} {N ci index : Nat} {a : Nat} (hx : p.tables.exec = Jvm.exec) (hb : c.code = cc) (hg : ∀ w ∈ wsG, w.before args s = true) (hin : ∀ w ∈ u_ws C T N, w ∈ wsG) (ty0 : Nat → FieldType) (hty : ∀ k, k < N → parseFieldDescriptor (T k).2.2.1 = some (ty0 k)) (hnm : ∀ a, a < N → ∀ b, b < N → a ≠ b → (T a).2.1 ≠ (T b).2.1) (hown : s.vm.findClass own = some m.cls) (w : CB D cy A s L H locs) (q0 : Nat) {fs : List Value} (he : L[q0]? = some (a, .inr (ci, fs))) (hc : vwCl[ci]? = some (C, T, N)) (k : Nat) (hk : k < N) (hl : Cond.fieldLink own index (T k).1 (T k).2.1 (T k).2.2.1 ∈ wsG) (hfin : (T k).2.2.2 = true) (hin2 : meth.name = "<init>") (hdecl : (T k).1 = own) {v : Value} (hn : narrow (ty0 k) v = v) (hfit : fits (ty0 k) v = true) (hlen : k < fs.length) (hdg : decode cc pc = .ok (.putfield index, 3)) {L' : va_W} (hL' : L.set q0 (a, .inr (ci, fs.set k v)) = L')
    (kk : ∀ (H1 : Heap) (locs1 : List Loc), CB D cy A s L' H1 locs1 → W p l e R s m args below meth c H1 locs1 cells slots Q (F0 m (pc + 3) ls rest)) : W p l e R s m args below meth c H locs cells slots Q (F0 m pc ls (v :: .ref a :: rest)) := by
  subst hL'
  exact va_putF hx hb hg hin ty0 hty hnm hown w.1 w.2.1 w.2.2.1 w.2.2.2.1 q0 he hc k hk (hg _ hl) (fun _ h => h) hfin hin2 hdecl (hty k hk) hn hfit hlen hdg (fun H1 locs1 hP hD hS => kk H1 locs1 ⟨w.1, hP, hD, hS, w.2.2.2.2⟩)
end CN
