/-! The words: those of the tables that every later state keeps; a method's words are its own code and these -/
def wsG : List Cond := lw_tbl.filter goodWord
theorem wsG_in {w : Cond} (h : w ∈ lw_tbl) (g : goodWord w = true) : w ∈ wsG := List.mem_filter.mpr ⟨h, g⟩
theorem wsG_of {w : Cond} (h : w ∈ wsG) : w ∈ lw_tbl := (List.mem_filter.mp h).1
theorem gdG {w : Cond} (h : w ∈ wsG) : GoodIn wsG (w :: wsG) := by
  intro v hv
  rcases List.mem_cons.mp hv with e | hv
  · rw [e]; exact ⟨h, good_of_word (List.mem_filter.mp h).2⟩
  · exact ⟨hv, good_of_word (List.mem_filter.mp hv).2⟩
theorem in_tables1 {w : Cond} (h : w ∈ tables_1_1) (g : goodWord w = true) : w ∈ wsG := wsG_in (List.mem_append_right _ (List.mem_append_left _ h)) g
theorem in_tables2 {w : Cond} (h : w ∈ tables_1_2) (g : goodWord w = true) : w ∈ wsG := wsG_in (List.mem_append_right _ (List.mem_append_right _ (List.mem_append_left _ h))) g
theorem in_tables3 {w : Cond} (h : w ∈ tables_1_3) (g : goodWord w = true) : w ∈ wsG := wsG_in (List.mem_append_right _ (List.mem_append_right _ (List.mem_append_right _ (List.mem_append_left _ h)))) g
theorem in_tables4 {w : Cond} (h : w ∈ tables_1_4) (g : goodWord w = true) : w ∈ wsG := wsG_in (List.mem_append_right _ (List.mem_append_right _ (List.mem_append_right _ (List.mem_append_right _ (List.mem_append_left _ h))))) g
theorem in_tables5 {w : Cond} (h : w ∈ tables_1_5) (g : goodWord w = true) : w ∈ wsG := wsG_in (List.mem_append_right _ (List.mem_append_right _ (List.mem_append_right _ (List.mem_append_right _ (List.mem_append_right _ h))))) g
theorem in_sels {q : MethodName × Nat} (h : q ∈ lw_privs) (g : goodWord (Cond.selects q.1.cls q.1 q.1) = true) : Cond.selects q.1.cls q.1 q.1 ∈ wsG := wsG_in (List.mem_append_left _ (List.mem_map.mpr ⟨q, h, rfl⟩)) g
/-! The world: cells 0 .. n-1 of a shape sk (an object: its class and fields, a reference to a cell or an int; an array: its kind, length, what references it holds), their numbers S: fields, ints, longs -/
abbrev wS : Type := (Nat → Nat → Int32) × (Nat → Nat → Int32) × (Nat → Nat → Int64)
abbrev wK : Type := (Nat × List (Option Nat)) ⊕ (Nat × Nat × (Nat → Option Nat))
def sI (S : wS) (i k : Nat) (v : Int32) : wS := (va_up S.1 i (va_up (S.1 i) k v), S.2.1, S.2.2)
def sB (S : wS) (i : Nat) (f : Nat → Int32) : wS := (S.1, va_up S.2.1 i f, S.2.2)
def sJ (S : wS) (i : Nat) (f : Nat → Int64) : wS := (S.1, S.2.1, va_up S.2.2 i f)
def wFv (ad : Nat → Nat) (v : Nat → Int32) (k : Nat) (o : Option Nat) : Value := match o with
  | some t => .ref (ad t)
  | none => .int (v k)
def wFs (ad : Nat → Nat) (v : Nat → Int32) (fs : List (Option Nat)) : List Value := fs.mapIdx (wFv ad v)
def wC (cy : Nat → ClassId) (ad : Nat → Nat) (sk : Nat → wK) (S : wS) (i : Nat) : va_E := match sk i with
  | .inl q => .inr (q.1, wFs ad (S.1 i) q.2)
  | .inr q => .inl (cy q.1, q.2.1, if q.1 = 2 then .inr (.inl (S.2.2 i)) else if q.1 < 2 then .inl (S.2.1 i) else .inr (.inr (.inr (.inr (fun j => (q.2.2 j).map ad)))))
def wW (n : Nat) (cy : Nat → ClassId) (ad : Nat → Nat) (sk : Nat → wK) (S : wS) : va_W := (List.range n).map (fun i => (ad i, wC cy ad sk S i))
section WW
variable {n : Nat} {cy : Nat → ClassId} {ad : Nat → Nat} {sk : Nat → wK} {S S' : wS}
theorem wFs_get {v : Nat → Int32} {fs : List (Option Nat)} {k : Nat} {o : Option Nat} (h : fs[k]? = some o) : (wFs ad v fs)[k]? = some (wFv ad v k o) := by
  unfold wFs
  rw [List.getElem?_mapIdx, h]
  rfl
theorem wFs_set {v : Nat → Int32} {fs : List (Option Nat)} {k : Nat} (h : fs[k]? = some none) (x : Int32) : (wFs ad v fs).set k (.int x) = wFs ad (va_up v k x) fs := by
  unfold wFs
  apply List.ext_getElem?
  intro j
  rw [List.getElem?_set, List.getElem?_mapIdx, List.getElem?_mapIdx]
  by_cases e : k = j
  · subst e
    have hl : k < fs.length := (List.getElem?_eq_some_iff.mp h).1
    rw [if_pos rfl, if_pos (by rw [List.length_mapIdx]; exact hl), h]
    simp [wFv, va_up]
  · rw [if_neg e]
    cases fs[j]? with
    | none => rfl
    | some o => cases o <;> simp [wFv, va_up, Ne.symm e]
theorem wW_len : (wW n cy ad sk S).length = n := by simp [wW]
theorem wW_get {i : Nat} (h : i < n) : (wW n cy ad sk S)[i]? = some (ad i, wC cy ad sk S i) := by
  unfold wW
  rw [List.getElem?_map, List.getElem?_range h]
  rfl
theorem wW_of {i : Nat} {q : Nat × va_E} (h : (wW n cy ad sk S)[i]? = some q) : i < n ∧ q = (ad i, wC cy ad sk S i) := by
  have hl : i < n := by
    have := (List.getElem?_eq_some_iff.mp h).1
    rwa [wW_len] at this
  rw [wW_get hl] at h
  exact ⟨hl, (Option.some.inj h).symm⟩
theorem wW_set {i : Nat} {e : va_E} (hi : i < n) (he : wC cy ad sk S' i = e) (ho : ∀ j, j ≠ i → wC cy ad sk S' j = wC cy ad sk S j) : (wW n cy ad sk S).set i (ad i, e) = wW n cy ad sk S' := by
  apply List.ext_getElem?
  intro j
  rw [List.getElem?_set]
  by_cases hj : j < n
  · rw [wW_get hj, wW_get hj, wW_len]
    by_cases e' : i = j
    · subst e'
      rw [if_pos rfl, if_pos hj, he]
    · rw [if_neg e', ho j (Ne.symm e')]
  · have h1 : (wW n cy ad sk S)[j]? = none := List.getElem?_eq_none (by rw [wW_len]; omega)
    have h2 : (wW n cy ad sk S')[j]? = none := List.getElem?_eq_none (by rw [wW_len]; omega)
    rw [h1, h2]
    by_cases e' : i = j
    · omega
    · rw [if_neg e']
theorem wW_D {A : Nat → Prop} (h : va_D A (wW n cy ad sk S)) : va_D A (wW n cy ad sk S') := by
  refine ⟨fun i j x y hx hy hxy => ?_, fun k q hk => ?_⟩
  · obtain ⟨h1, rfl⟩ := wW_of hx
    obtain ⟨h2, rfl⟩ := wW_of hy
    exact h.1 i j _ _ (wW_get h1) (wW_get h2) hxy
  · obtain ⟨h1, rfl⟩ := wW_of hk
    exact h.2 k (ad k, wC cy ad sk S k) (wW_get h1)
theorem wC_o {i ci : Nat} {fs : List (Option Nat)} (he : sk i = .inl (ci, fs)) : wC cy ad sk S i = .inr (ci, wFs ad (S.1 i) fs) := by
  unfold wC; rw [he]
theorem wC_i {i k len : Nat} {g : Nat → Option Nat} (he : sk i = .inr (k, len, g)) (hk : k < 2) : wC cy ad sk S i = .inl (cy k, len, .inl (S.2.1 i)) := by
  unfold wC; rw [he]; dsimp only; rw [if_neg (by omega), if_pos hk]
theorem wC_l {i len : Nat} {g : Nat → Option Nat} (he : sk i = .inr (2, len, g)) : wC cy ad sk S i = .inl (cy 2, len, .inr (.inl (S.2.2 i))) := by
  unfold wC; rw [he]; rfl
theorem wC_q {i k len : Nat} {g : Nat → Option Nat} (he : sk i = .inr (k, len, g)) (hk : 2 < k) : wC cy ad sk S i = .inl (cy k, len, .inr (.inr (.inr (.inr (fun j => (g j).map ad))))) := by
  unfold wC; rw [he]; dsimp only; rw [if_neg (by omega), if_neg (by omega)]
theorem wC_congr {i : Nat} (h1 : S'.1 i = S.1 i) (h2 : S'.2.1 i = S.2.1 i) (h3 : S'.2.2 i = S.2.2 i) : wC cy ad sk S' i = wC cy ad sk S i := by
  unfold wC; rw [h1, h2, h3]
end WW
/-- a world in a method's walk -/
def WB (D : va_G) (tys : List (ClassId × FieldType)) (n : Nat) (cy : Nat → ClassId) (ad : Nat → Nat) (sk : Nat → wK) (A : Nat → Prop) (s : State) (S : wS) (H : Heap) (locs : List Loc) : Prop :=
  va_K D vwCl tys s ∧ va_P D vwCl (wW n cy ad sk S) H ∧ va_D A (wW n cy ad sk S) ∧ va_S A s.heap H locs ∧ ∀ q, s.heap.size ≤ q → A q
section WR
variable {p : Program} {l : Launch} {e : Env} {R : Room} {s : State} {m : MethodId} {args : Array Value} {below : List Frame} {meth : Method} {c : Code} {H : Heap} {locs : List Loc} {cells slots : Nat} {Q : State → Prop}
variable {cc : ByteArray} {pc : Nat} {ls : Array Slot} {rest : List Value}
variable {D : va_G} {tys : List (ClassId × FieldType)} {n : Nat} {cy : Nat → ClassId} {ad : Nat → Nat} {sk : Nat → wK} {A : Nat → Prop} {S : wS} {own : String}
/-- an int field -/
theorem wb_gi (hx : p.tables.exec = Jvm.exec) (hb : c.code = cc) (hg : ∀ w ∈ wsG, w.before args s = true) (hown : s.vm.findClass own = some m.cls) (w : WB D tys n cy ad sk A s S H locs) {C : String} {T : u_T} {N : Nat} (hin : ∀ w ∈ u_ws C T N, w ∈ wsG) (i : Nat) (hi : i < n) {ci : Nat} {fs : List (Option Nat)} (he : sk i = .inl (ci, fs)) (hc : vwCl[ci]? = some (C, T, N)) (k : Nat) (hk : k < N) (hf : fs[k]? = some none) {index : Nat} (hl : Cond.fieldLink own index (T k).1 (T k).2.1 (T k).2.2.1 ∈ wsG) {v : Int32} (hv : S.1 i k = v) (hdg : decode cc pc = .ok (.getfield index, 3))
    (kk : W p l e R s m args below meth c H locs cells slots Q (F0 m (pc + 3) ls (.int v :: rest))) : W p l e R s m args below meth c H locs cells slots Q (F0 m pc ls (.ref (ad i) :: rest)) :=
  va_get hx hb hg hin hown w.1 w.2.1 i ((wW_get hi).trans (by rw [wC_o he])) hc k hk (hg _ hl) (fun _ h => h) ((wFs_get hf).trans (by rw [← hv]; rfl)) hdg kk
/-- a reference field -/
theorem wb_gr (hx : p.tables.exec = Jvm.exec) (hb : c.code = cc) (hg : ∀ w ∈ wsG, w.before args s = true) (hown : s.vm.findClass own = some m.cls) (w : WB D tys n cy ad sk A s S H locs) {C : String} {T : u_T} {N : Nat} (hin : ∀ w ∈ u_ws C T N, w ∈ wsG) (i : Nat) (hi : i < n) {ci : Nat} {fs : List (Option Nat)} (he : sk i = .inl (ci, fs)) (hc : vwCl[ci]? = some (C, T, N)) (k : Nat) (hk : k < N) {t : Nat} (hf : fs[k]? = some (some t)) {index : Nat} (hl : Cond.fieldLink own index (T k).1 (T k).2.1 (T k).2.2.1 ∈ wsG) (hdg : decode cc pc = .ok (.getfield index, 3))
    (kk : W p l e R s m args below meth c H locs cells slots Q (F0 m (pc + 3) ls (.ref (ad t) :: rest))) : W p l e R s m args below meth c H locs cells slots Q (F0 m pc ls (.ref (ad i) :: rest)) :=
  va_get hx hb hg hin hown w.1 w.2.1 i ((wW_get hi).trans (by rw [wC_o he])) hc k hk (hg _ hl) (fun _ h => h) (wFs_get hf) hdg kk
/-- writing an int field -/
theorem wb_pi (hx : p.tables.exec = Jvm.exec) (hb : c.code = cc) (hg : ∀ w ∈ wsG, w.before args s = true) (hown : s.vm.findClass own = some m.cls) (w : WB D tys n cy ad sk A s S H locs) {C : String} {T : u_T} {N : Nat} (hin : ∀ w ∈ u_ws C T N, w ∈ wsG) (ty0 : Nat → FieldType) (hty : ∀ k, k < N → parseFieldDescriptor (T k).2.2.1 = some (ty0 k)) (hnm : ∀ a, a < N → ∀ b, b < N → a ≠ b → (T a).2.1 ≠ (T b).2.1) (i : Nat) (hi : i < n) {ci : Nat} {fs : List (Option Nat)} (he : sk i = .inl (ci, fs)) (hc : vwCl[ci]? = some (C, T, N)) (k : Nat) (hk : k < N) (hf : fs[k]? = some none) {index : Nat} (hl : Cond.fieldLink own index (T k).1 (T k).2.1 (T k).2.2.1 ∈ wsG) (hfin : (T k).2.2.2 = false) {v : Int32} (hn : narrow (ty0 k) (.int v) = .int v) (hfit : fits (ty0 k) (.int v) = true) {S' : wS} (hS' : sI S i k v = S') (hdg : decode cc pc = .ok (.putfield index, 3))
    (kk : ∀ (H1 : Heap) (locs1 : List Loc), WB D tys n cy ad sk A s S' H1 locs1 → W p l e R s m args below meth c H1 locs1 cells slots Q (F0 m (pc + 3) ls rest)) : W p l e R s m args below meth c H locs cells slots Q (F0 m pc ls (.int v :: .ref (ad i) :: rest)) := by
  subst hS'
  have e1 : wC cy ad sk (sI S i k v) i = .inr (ci, (wFs ad (S.1 i) fs).set k (.int v)) := by
    rw [wC_o he, wFs_set hf]
    have : (sI S i k v).1 i = va_up (S.1 i) k v := by simp [sI, va_up]
    rw [this]
  have e2 : ∀ j, j ≠ i → wC cy ad sk (sI S i k v) j = wC cy ad sk S j := fun j hj => wC_congr (by simp [sI, va_up, hj]) rfl rfl
  refine va_put hx hb hg hin ty0 hty hnm hown w.1 w.2.1 w.2.2.1 w.2.2.2.1 i ((wW_get hi).trans (by rw [wC_o he])) hc k hk (hg _ hl) (fun _ h => h) hfin (hty k hk) hn hfit (by have := (List.getElem?_eq_some_iff.mp (wFs_get (ad := ad) (v := S.1 i) hf)).1; exact this) hdg (fun H1 locs1 hP hD hS => ?_)
  rw [wW_set hi e1 e2] at hP hD
  exact kk H1 locs1 ⟨w.1, hP, hD, hS, w.2.2.2.2⟩
/-- an int out of an array of ints -/
theorem wb_iald (hx : p.tables.exec = Jvm.exec) (hb : c.code = cc) (w : WB D tys n cy ad sk A s S H locs) (i : Nat) (hi : i < n) {len : Nat} {g : Nat → Option Nat} (he : sk i = .inr (0, len, g)) (t0 : Nat) (ht : tys[t0]? = some (cy 0, .int)) {x : Int32} {k : Nat} (hxk : x = nI k) (hk : k < len) (hlen : len < 2 ^ 31) {v : Int32} (hv : S.2.1 i k = v) (hdg : decode cc pc = .ok (.iaload, 1))
    (kk : W p l e R s m args below meth c H locs cells slots Q (F0 m (pc + 1) ls (.int v :: rest))) : W p l e R s m args below meth c H locs cells slots Q (F0 m pc ls (.int x :: .ref (ad i) :: rest)) := by
  subst hxk
  refine va_iald hx hb w.1 w.2.1 i t0 ((wW_get hi).trans (by rw [wC_i he (by decide)])) ht (vp_in_nI hk hlen) hdg ?_
  rw [nI_clamp (Nat.lt_trans hk hlen), hv]
  exact kk
theorem wb_bald (hx : p.tables.exec = Jvm.exec) (hb : c.code = cc) (w : WB D tys n cy ad sk A s S H locs) (i : Nat) (hi : i < n) {len : Nat} {g : Nat → Option Nat} (he : sk i = .inr (1, len, g)) (t0 : Nat) (ht : tys[t0]? = some (cy 1, .byte)) {x : Int32} {k : Nat} (hxk : x = nI k) (hk : k < len) (hlen : len < 2 ^ 31) {v : Int32} (hv : S.2.1 i k = v) (hdg : decode cc pc = .ok (.baload, 1))
    (kk : W p l e R s m args below meth c H locs cells slots Q (F0 m (pc + 1) ls (.int v :: rest))) : W p l e R s m args below meth c H locs cells slots Q (F0 m pc ls (.int x :: .ref (ad i) :: rest)) := by
  subst hxk
  refine va_bald hx hb w.1 w.2.1 i t0 ((wW_get hi).trans (by rw [wC_i he (by decide)])) ht (vp_in_nI hk hlen) hdg ?_
  rw [nI_clamp (Nat.lt_trans hk hlen), hv]
  exact kk
theorem wb_lald (hx : p.tables.exec = Jvm.exec) (hb : c.code = cc) (w : WB D tys n cy ad sk A s S H locs) (i : Nat) (hi : i < n) {len : Nat} {g : Nat → Option Nat} (he : sk i = .inr (2, len, g)) (t0 : Nat) (ht : tys[t0]? = some (cy 2, .long)) {x : Int32} {k : Nat} (hxk : x = nI k) (hk : k < len) (hlen : len < 2 ^ 31) {v : Int64} (hv : S.2.2 i k = v) (hdg : decode cc pc = .ok (.laload, 1))
    (kk : W p l e R s m args below meth c H locs cells slots Q (F0 m (pc + 1) ls (.long v :: rest))) : W p l e R s m args below meth c H locs cells slots Q (F0 m pc ls (.int x :: .ref (ad i) :: rest)) := by
  subst hxk
  refine va_lald hx hb w.1 w.2.1 i t0 ((wW_get hi).trans (by rw [wC_l he])) ht (vp_in_nI hk hlen) hdg ?_
  rw [nI_clamp (Nat.lt_trans hk hlen), hv]
  exact kk
theorem sB_o {i k len : Nat} {g : Nat → Option Nat} (he : sk i = .inr (k, len, g)) (hk : k < 2) (f : Nat → Int32) : wC cy ad sk (sB S i f) i = .inl (cy k, len, .inl f) := by
  rw [wC_i he hk]
  have : (sB S i f).2.1 i = f := by simp [sB, va_up]
  rw [this]
theorem sB_n {i : Nat} (f : Nat → Int32) : ∀ j, j ≠ i → wC cy ad sk (sB S i f) j = wC cy ad sk S j := fun j hj => wC_congr rfl (by simp [sB, va_up, hj]) rfl
theorem sJ_o {i len : Nat} {g : Nat → Option Nat} (he : sk i = .inr (2, len, g)) (f : Nat → Int64) : wC cy ad sk (sJ S i f) i = .inl (cy 2, len, .inr (.inl f)) := by
  rw [wC_l he]
  have : (sJ S i f).2.2 i = f := by simp [sJ, va_up]
  rw [this]
theorem sJ_n {i : Nat} (f : Nat → Int64) : ∀ j, j ≠ i → wC cy ad sk (sJ S i f) j = wC cy ad sk S j := fun j hj => wC_congr rfl rfl (by simp [sJ, va_up, hj])
theorem wb_iast (hx : p.tables.exec = Jvm.exec) (hb : c.code = cc) (w : WB D tys n cy ad sk A s S H locs) (i : Nat) (hi : i < n) {len : Nat} {g : Nat → Option Nat} (he : sk i = .inr (0, len, g)) (t0 : Nat) (ht : tys[t0]? = some (cy 0, .int)) {x y : Int32} {k : Nat} (hxk : x = nI k) (hk : k < len) (hlen : len < 2 ^ 31) {f : Nat → Int32} (hf : S.2.1 i = f) {S' : wS} (hS' : sB S i (upd f k y) = S') (hdg : decode cc pc = .ok (.iastore, 1))
    (kk : ∀ (H1 : Heap) (locs1 : List Loc), WB D tys n cy ad sk A s S' H1 locs1 → W p l e R s m args below meth c H1 locs1 cells slots Q (F0 m (pc + 1) ls rest)) : W p l e R s m args below meth c H locs cells slots Q (F0 m pc ls (.int y :: .int x :: .ref (ad i) :: rest)) := by
  subst hxk; subst hS'; subst hf
  refine va_iast hx hb w.1 w.2.1 w.2.2.1 w.2.2.2.1 i t0 ((wW_get hi).trans (by rw [wC_i he (by decide)])) ht (vp_in_nI hk hlen) hdg (fun H1 locs1 hP hD hS => ?_)
  rw [nI_clamp (Nat.lt_trans hk hlen), wW_set hi (sB_o he (by decide) _) (sB_n _)] at hP hD
  exact kk H1 locs1 ⟨w.1, hP, hD, hS, w.2.2.2.2⟩
theorem wb_bast (hx : p.tables.exec = Jvm.exec) (hb : c.code = cc) (w : WB D tys n cy ad sk A s S H locs) (i : Nat) (hi : i < n) {len : Nat} {g : Nat → Option Nat} (he : sk i = .inr (1, len, g)) (t0 : Nat) (ht : tys[t0]? = some (cy 1, .byte)) {x y z : Int32} {k : Nat} (hxk : x = nI k) (hk : k < len) (hlen : len < 2 ^ 31) {f : Nat → Int32} (hf : S.2.1 i = f) (hz : y.toInt8.toInt32 = z) {S' : wS} (hS' : sB S i (upd f k z) = S') (hdg : decode cc pc = .ok (.bastore, 1))
    (kk : ∀ (H1 : Heap) (locs1 : List Loc), WB D tys n cy ad sk A s S' H1 locs1 → W p l e R s m args below meth c H1 locs1 cells slots Q (F0 m (pc + 1) ls rest)) : W p l e R s m args below meth c H locs cells slots Q (F0 m pc ls (.int y :: .int x :: .ref (ad i) :: rest)) := by
  subst hxk; subst hS'; subst hf; subst hz
  refine va_bast hx hb w.1 w.2.1 w.2.2.1 w.2.2.2.1 i t0 ((wW_get hi).trans (by rw [wC_i he (by decide)])) ht (vp_in_nI hk hlen) hdg (fun H1 locs1 hP hD hS => ?_)
  rw [nI_clamp (Nat.lt_trans hk hlen), vp_nar_byte, wW_set hi (sB_o he (by decide) _) (sB_n _)] at hP hD
  exact kk H1 locs1 ⟨w.1, hP, hD, hS, w.2.2.2.2⟩
theorem wb_last (hx : p.tables.exec = Jvm.exec) (hb : c.code = cc) (w : WB D tys n cy ad sk A s S H locs) (i : Nat) (hi : i < n) {len : Nat} {g : Nat → Option Nat} (he : sk i = .inr (2, len, g)) (t0 : Nat) (ht : tys[t0]? = some (cy 2, .long)) {x : Int32} {y : Int64} {k : Nat} (hxk : x = nI k) (hk : k < len) (hlen : len < 2 ^ 31) {f : Nat → Int64} (hf : S.2.2 i = f) {S' : wS} (hS' : sJ S i (vp_updL f k y) = S') (hdg : decode cc pc = .ok (.lastore, 1))
    (kk : ∀ (H1 : Heap) (locs1 : List Loc), WB D tys n cy ad sk A s S' H1 locs1 → W p l e R s m args below meth c H1 locs1 cells slots Q (F0 m (pc + 1) ls rest)) : W p l e R s m args below meth c H locs cells slots Q (F0 m pc ls (.long y :: .int x :: .ref (ad i) :: rest)) := by
  subst hxk; subst hS'; subst hf
  refine va_last hx hb w.1 w.2.1 w.2.2.1 w.2.2.2.1 i t0 ((wW_get hi).trans (by rw [wC_l he])) ht (vp_in_nI hk hlen) hdg (fun H1 locs1 hP hD hS => ?_)
  rw [nI_clamp (Nat.lt_trans hk hlen), wW_set hi (sJ_o he _) (sJ_n _)] at hP hD
  exact kk H1 locs1 ⟨w.1, hP, hD, hS, w.2.2.2.2⟩
/-- a reference out of an array of objects -/
theorem wb_aald (hx : p.tables.exec = Jvm.exec) (hb : c.code = cc) (w : WB D tys n cy ad sk A s S H locs) (i : Nat) (hi : i < n) {kd len : Nat} {g : Nat → Option Nat} (he : sk i = .inr (kd, len, g)) (hkd : 2 < kd) (t0 : Nat) {C : String} (ht : tys[t0]? = some (cy kd, .object C)) {x : Int32} {k t : Nat} (hxk : x = nI k) (hk : k < len) (hlen : len < 2 ^ 31) (hg : g k = some t) (hdg : decode cc pc = .ok (.aaload, 1))
    (kk : W p l e R s m args below meth c H locs cells slots Q (F0 m (pc + 1) ls (.ref (ad t) :: rest))) : W p l e R s m args below meth c H locs cells slots Q (F0 m pc ls (.int x :: .ref (ad i) :: rest)) := by
  subst hxk
  refine va_aldq hx hb w.1 w.2.1 i t0 ((wW_get hi).trans (by rw [wC_q he hkd])) ht (vp_in_nI hk hlen) hdg ?_
  rw [nI_clamp (Nat.lt_trans hk hlen), hg]
  exact kk
/-- a row out of an array of arrays -/
theorem wb_aaldA (hx : p.tables.exec = Jvm.exec) (hb : c.code = cc) (w : WB D tys n cy ad sk A s S H locs) (i : Nat) (hi : i < n) {kd len : Nat} {g : Nat → Option Nat} (he : sk i = .inr (kd, len, g)) (hkd : 2 < kd) (t0 : Nat) {ty : FieldType} (ht : tys[t0]? = some (cy kd, .array ty)) {x : Int32} {k t : Nat} (hxk : x = nI k) (hk : k < len) (hlen : len < 2 ^ 31) (hg : g k = some t) (hdg : decode cc pc = .ok (.aaload, 1))
    (kk : W p l e R s m args below meth c H locs cells slots Q (F0 m (pc + 1) ls (.ref (ad t) :: rest))) : W p l e R s m args below meth c H locs cells slots Q (F0 m pc ls (.int x :: .ref (ad i) :: rest)) := by
  subst hxk
  have hin := vp_in_nI hk hlen
  have ha : (wW n cy ad sk S)[i]? = some (ad i, .inl (cy kd, len, .inr (.inr (.inr (.inr (fun j => (g j).map ad)))))) := (wW_get hi).trans (by rw [wC_q he hkd])
  have hlt : (nI k).toNatClampNeg < len := Nat.not_le.mp fun q => hin (Or.inr q)
  refine W.aald (v := va_rf ((g (nI k).toNatClampNeg).map ad)) (ty := .array ty) hx hb (w.2.1 i _ ha) ((w.1.2 t0 _ ht).1 len (fun j => va_rf ((g j).map ad))) rfl (fun q => by cases q) (by show ¬ (nI k < 0 ∨ (arrV _ _ _).slots.size ≤ _); rw [arrV_size]; exact hin) (by show (arrV _ _ _).slots[_]? = _; rw [arrV_read _ _ hlt]) rfl rfl hdg ?_
  rw [nI_clamp (Nat.lt_trans hk hlen), hg]
  exact kk
/-- an array's length -/
theorem wb_alen (hx : p.tables.exec = Jvm.exec) (hb : c.code = cc) (w : WB D tys n cy ad sk A s S H locs) (i : Nat) (hi : i < n) {kd len : Nat} {g : Nat → Option Nat} (he : sk i = .inr (kd, len, g)) (t0 : Nat) {ty : FieldType} (ht : tys[t0]? = some (cy kd, ty)) (hdg : decode cc pc = .ok (.arraylength, 1))
    (kk : W p l e R s m args below meth c H locs cells slots Q (F0 m (pc + 1) ls (.int (nI len) :: rest))) : W p l e R s m args below meth c H locs cells slots Q (F0 m pc ls (.ref (ad i) :: rest)) := by
  refine va_alen hx hb w.1 w.2.1 i t0 (cA := cy kd) (x := (len, if kd = 2 then .inr (.inl (S.2.2 i)) else if kd < 2 then .inl (S.2.1 i) else .inr (.inr (.inr (.inr (fun j => (g j).map ad)))))) ((wW_get hi).trans ?_) ht rfl hdg kk
  have : wC cy ad sk S i = .inl (cy kd, len, if kd = 2 then .inr (.inl (S.2.2 i)) else if kd < 2 then .inl (S.2.1 i) else .inr (.inr (.inr (.inr (fun j => (g j).map ad))))) := by unfold wC; rw [he]
  rw [this]
end WR
