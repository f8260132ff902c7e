/-! 'throw new NullPointerException(text)', no traces kept: its fillInStackTrace is synchronized and its own, its cell has 8 slots -/
def npxIn (N : NpeC) (x : Cell) (T : ThrowableC) (u0 : RefV) (t : ThreadId) : Cell := (((npeCell N.toNpeT x t).withEntry t).setSlot T.fStack.slot u0.v).left
theorem npx_w (m : MethodId) (self : Addr) (pc : Nat) (fs : List Frame) : (stackUse (Frame.java (fillJ m self pc []) :: fs)).2 = (stackUse fs).2 + 14 := by
  rw [stackUse_java]
  simp [operandWords]
theorem npx_fill (p : Program) {e : Env} {below : List Frame} {s₀ X : State} {g : JFrame} {c : Code} {self : Addr} (h : At X g.method c below) (hexec : p.tables.exec = Jvm.exec)
    (T : ThrowableC) (L : T.Links e.platform s₀) (N : NpeC) (LN : N.Links T e.platform s₀) (hW : s₀.WarmedH X.vm)
    {x cellS : Cell} {kx : Class} {u0 : RefV}
    (hcell : X.heap[self]? = some x) (hobj : ∀ k, x.vm ≠ .statics k) (hknown : x.vm ≠ .unknown) (hfree : x.monitor.owner = none) (hkx : s₀.vm.classes[x.cls]? = some kx) (hsel0 : selectMethod e.platform s₀.vm x.cls T.fill0 = .method T.fill0)
    (hcellS : X.heap[T.aS]? = some cellS) (hneS : T.aS ≠ self) (hknownS : cellS.vm ≠ .unknown) (hvU : cellS.slots[T.fUnassigned.slot]? = some u0.v)
    (hvS : x.slots[T.fStack.slot]? = some u0.v) (hneSt : T.fStack.slot ≠ N.fState.slot) (hv0 : x.slots[N.fState.slot]? = some (.int 0))
    (htS : Takes s₀ x T.fStack u0.v) (ht1 : Takes s₀ x N.fState (.int 1))
    (hskip : SkipFacts T e.platform s₀ (fun u => u) u0 ((npeCell N.toNpeT x X.cur).withEntry X.cur))
    (htr : e.platform.stackTraces = false) {ig : Instr} {len : Nat} (hdg : decode c.code g.pc = .ok (ig, len))
    {lim : Nat × Nat} (hlim : e.platform.stackLimits X.me = lim) (hframes : X.frames.length + 2 < lim.1) (hwords : (stackUse (.java g :: X.frames.tail)).2 + 43 ≤ lim.2) :
    ∃ vm', s₀.WarmedH vm' ∧ ∀ t' : State, Steps p.tables e below (((X.setVm vm').setCell self (npxIn N x T u0 X.cur).left).setTop { g with pc := g.pc + len, stack := .ref self :: g.stack }) t' →
      Steps p.tables e below (doInvoke e (X.setTop g) [] N.fill #[.ref self]).1 t' := by
  have hlt : self < X.heap.size := (Array.getElem?_eq_some_iff.mp hcell).1
  have htop := h.top
  obtain ⟨g₀, hg⟩ := Option.isSome_iff_exists.mp htop
  obtain ⟨tl, htl⟩ := State.topJava?_eq_some.mp hg
  have hlen : X.frames.length = (Frame.java g :: X.frames.tail).length := by rw [htl]; rfl
  have r1 : e.platform.stackFull (((X.setTop g).threads[(X.setTop g).cur]?).getD { frames := [] }) (X.setTop g).frames (1 + 2) = false :=
    Jvm.roomAbove (pushed := []) (base := .java g :: X.frames.tail) (free := 43) (lim := lim) (by rw [State.frames_setTop _ htl, htl]; rfl) (by rw [State.stackLimits_setTop _ htop]; exact hlim) (by rw [← hlen]; simp only [List.length_nil]; omega) hwords (by simp only [stackUse_nil]; omega)
  have hfN : ∀ vm, (npeInside (X.setVm vm) g N.toNpeT self x).frames = .java (entryFrameSync N.fill #[.ref self] 1 self) :: .java g :: X.frames.tail := fun vm => frames_entered (g := g) (s := (X.setVm vm).setCell self (x.withEntry X.cur)) htop _
  have htN : ∀ vm, (npeInside (X.setVm vm) g N.toNpeT self x).topJava?.isSome := fun vm => by rw [State.topJava?_of_frames (hfN vm)]; rfl
  have hlN : ∀ vm, e.platform.stackLimits (npeInside (X.setVm vm) g N.toNpeT self x).me = lim := fun vm => by
    show e.platform.stackLimits (fillInside (X.setVm vm) g N.fill self x).me = lim
    rw [State.stackLimits_pushFrame, State.stackLimits_setTop _ (show ((X.setVm vm).setCell self (x.withEntry (X.setVm vm).cur)).topJava?.isSome from htop)]
    exact hlim
  have r2 : ∀ vm, e.platform.stackFull ((((npeInside (X.setVm vm) g N.toNpeT self x).setTop (fillJ N.fill self 37 [])).threads[((npeInside (X.setVm vm) g N.toNpeT self x).setTop (fillJ N.fill self 37 [])).cur]?).getD { frames := [] }) ((npeInside (X.setVm vm) g N.toNpeT self x).setTop (fillJ N.fill self 37 [])).frames (1 + 2) = false := fun vm =>
    Jvm.roomAbove (pushed := [.java (fillJ N.fill self 37 [])]) (base := .java g :: X.frames.tail) (free := 43) (lim := lim) (State.frames_setTop _ (hfN vm)) (by rw [State.stackLimits_setTop _ (htN vm)]; exact hlN vm) (by rw [← hlen]; simp only [List.length_cons, List.length_nil]; omega) hwords (by rw [npx_w, stackUse_nil]; omega)
  have hfF : ∀ vm, (fillInside (npeInside (X.setVm vm) g N.toNpeT self x) (fillJ N.fill self 37 []) T.fill self (npeCell N.toNpeT x X.cur)).frames = .java (entryFrameSync T.fill #[.ref self] 1 self) :: .java (fillJ N.fill self 37 []) :: .java g :: X.frames.tail := fun vm => by
    rw [show (fillInside (npeInside (X.setVm vm) g N.toNpeT self x) (fillJ N.fill self 37 []) T.fill self (npeCell N.toNpeT x X.cur)).frames = _ from frames_entered (g := fillJ N.fill self 37 []) (s := (npeInside (X.setVm vm) g N.toNpeT self x).setCell self ((npeCell N.toNpeT x X.cur).withEntry X.cur)) (by rw [State.topJava?_setCell]; exact htN vm) _]
    show _ :: _ :: ((npeInside (X.setVm vm) g N.toNpeT self x).frames).tail = _
    rw [hfN vm]; rfl
  have r3 : ∀ vm, e.platform.stackFull ((((fillInside (npeInside (X.setVm vm) g N.toNpeT self x) (fillJ N.fill self 37 []) T.fill self (npeCell N.toNpeT x X.cur)).setTop (fillJ T.fill self 16 [])).threads[((fillInside (npeInside (X.setVm vm) g N.toNpeT self x) (fillJ N.fill self 37 []) T.fill self (npeCell N.toNpeT x X.cur)).setTop (fillJ T.fill self 16 [])).cur]?).getD { frames := [] }) ((fillInside (npeInside (X.setVm vm) g N.toNpeT self x) (fillJ N.fill self 37 []) T.fill self (npeCell N.toNpeT x X.cur)).setTop (fillJ T.fill self 16 [])).frames (nativeFrameWords "java/lang/Throwable" "fillInStackTrace" 2) = false := fun vm =>
    Jvm.roomAbove (pushed := [.java (fillJ T.fill self 16 []), .java (fillJ N.fill self 37 [])]) (base := .java g :: X.frames.tail) (free := 43) (lim := lim) (State.frames_setTop _ (hfF vm))
      (by rw [State.stackLimits_setTop _ (by rw [State.topJava?_of_frames (hfF vm)]; rfl), State.stackLimits_pushFrame, State.stackLimits_setTop _ (by rw [State.topJava?_setCell]; exact htN vm)]; exact hlN vm)
      (by rw [← hlen]; simp only [List.length_cons, List.length_nil]; omega) hwords (by rw [npx_w, npx_w, stackUse_nil]; decide)
  have tk2 : ∀ {f : Field} {v : Value}, Takes s₀ x f v → Takes s₀ (npeCell N.toNpeT x X.cur) f v := fun h' => ⟨by simpa [npeCell, Cell.setSlot, Cell.withEntry] using h'.1, h'.2⟩
  have hvSN : (npeCell N.toNpeT x X.cur).slots[T.fStack.slot]? = some u0.v := by
    have h1 : T.fStack.slot < x.slots.size := htS.1
    simp [npeCell, Cell.setSlot, Cell.withEntry, Ne.symm hneSt, hvS]
  have hmon : (npxIn N x T u0 X.cur).monitor = (npeCell N.toNpeT x X.cur).monitor := by
    unfold npxIn
    rw [Cell.left_setSlot, Cell.left_withEntry_held (c := npeCell N.toNpeT x X.cur) X.cur rfl (Nat.succ_pos _)]
    rfl
  have hinner : ∀ vm1, s₀.WarmedH vm1 → At (npeInside (X.setVm vm1) g N.toNpeT self x) N.fill N.codeFill below → ∃ vm2, s₀.WarmedH vm2 ∧ ∀ t' : State,
      Steps p.tables e below (((npeInside (X.setVm vm2) g N.toNpeT self x).setCell self (npxIn N x T u0 X.cur)).setTop (fillJ N.fill self 40 [.ref self])) t' →
      Steps p.tables e below (doInvoke e ((npeInside (X.setVm vm1) g N.toNpeT self x).setTop (fillJ N.fill self 37 [])) [] T.fill #[.ref self]).1 t' := by
    intro vm1 hW1 hB
    have hc1 : (npeInside (X.setVm vm1) g N.toNpeT self x).heap[self]? = some (npeCell N.toNpeT x X.cur) := heapAt_setCell_self _ (by show self < (X.heap.setIfInBounds self _).size; simpa using hlt)
    have hc2 : (npeInside (X.setVm vm1) g N.toNpeT self x).heap[T.aS]? = some cellS := by
      show ((X.heap.setIfInBounds self _).setIfInBounds self _)[T.aS]? = _
      simp [Ne.symm hneS, hcellS]
    exact Steps.fillColdAnyV p (V := npeInside (X.setVm vm1) g N.toNpeT self x) (g := fillJ N.fill self 37 []) (c := N.codeFill) (self := self) hB hexec T L hW1 (Nn := fun u => u) heapOnly_id (fun _ _ => rfl) (fun _ => rfl) (fun u y z => setCell_twice _ _ _ _) (cell := npeCell N.toNpeT x X.cur) (cellS := cellS) (cN := (npeCell N.toNpeT x X.cur).withEntry X.cur)
      (u0 := u0) (ig := .invokespecial 24) (len := 3) [] hc1 hobj hknown (Or.inr rfl) hvSN hsel0 hc2 hneS hknownS hvU (fun _ hu => hu) (fun _ hu => hu) rfl rfl rfl (by simp [npeCell, Cell.setSlot, Cell.withEntry]) (tk2 htS)
      (by rw [LN.fillBytes]; exact LibCode.NullPointerException.Fill.at_37) (fun _ vm2 hW2 hAt t' hs => L.nativeOff p htr hAt hW2 (r3 vm2) hs) (r2 vm1) hskip
  obtain ⟨vm', hW', st⟩ := Steps.npeFillColdBy p (V := X) (g := g) (c := c) (self := self) h hexec T L N LN hW (Fi := fun u => u.setCell self (npxIn N x T u0 X.cur)) (heapOnly_id.thenSetCell self _) (fun _ => rfl)
    (fun u y z => by show ((u.setCell self y).setCell self _).setCell self z = _; rw [setCell_twice, setCell_twice, setCell_twice]) (cell := x) (cFi := npxIn N x T u0 X.cur) (kcell := kx) (ig := ig) (len := len) [] hcell hobj hknown hfree hkx hv0 ht1
    (fun u hu => heapAt_setCell_self _ (Array.getElem?_eq_some_iff.mp hu).1) hmon hdg hinner r1
  refine ⟨vm', hW', fun t' hs => st t' ?_⟩
  show Steps p.tables e below ((((X.setVm vm').setCell self (npxIn N x T u0 X.cur)).setCell self (npxIn N x T u0 X.cur).left).setTop _) t'
  rw [setCell_twice]
  exact hs
/-- the cell behind the constructor -/
def npxC (T : ThrowableC) (N : NpeC) (cell : Cell) (self : Addr) (u0 sen : RefV) (msg : Value) : Cell := (npeBareV T.toThrowableT N.toNpeT cell self u0 sen).setSlot T.fMsg.slot msg
/-- what the constructor takes as given -/
def npxG (e : Env) (s₀ V : State) (T : ThrowableC) (N : NpeC) (u0 sen : RefV) (msg : Value) (cell cellS : Cell) (kx : Class) (self : Addr) : Prop :=
  V.heap[self]? = some cell ∧ (∀ k, cell.vm ≠ .statics k) ∧ cell.vm ≠ .unknown ∧ cell.monitor.owner = none ∧ cell.monitor.count = 0 ∧ s₀.vm.classes[cell.cls]? = some kx ∧ selectMethod e.platform s₀.vm cell.cls T.fill0 = .method T.fill0 ∧ selectMethod e.platform s₀.vm cell.cls T.fill = .method N.fill ∧
  V.heap[T.aS]? = some cellS ∧ T.aS ≠ self ∧ cellS.vm ≠ .unknown ∧ cellS.slots[T.fUnassigned.slot]? = some u0.v ∧ cellS.slots[T.fSentinel.slot]? = some sen.v ∧
  cell.slots[N.fState.slot]? = some (.int 0) ∧ T.fCause.slot ≠ N.fState.slot ∧ T.fStack.slot ≠ N.fState.slot ∧ T.fSupp.slot ≠ N.fState.slot ∧
  Takes s₀ cell T.fCause (.ref self) ∧ Takes s₀ cell T.fStack u0.v ∧ Takes s₀ cell T.fSupp sen.v ∧ Takes s₀ cell T.fMsg msg ∧ Takes s₀ cell N.fState (.int 1) ∧ T.codeObj.maxLocals = 1 ∧
  SkipFacts T e.platform s₀ (fun u => u) u0 ((npeCell N.toNpeT (preparedCellV T.toThrowableT cell self u0 sen) V.cur).withEntry V.cur)
theorem npx_init (p : Program) {e : Env} {below : List Frame} {s₀ V : State} {g : JFrame} {c : Code} {self : Addr} (h : At V g.method c below) (hexec : p.tables.exec = Jvm.exec)
    (T : ThrowableC) (L : T.Links e.platform s₀) (Z : Init0T) (LZ : Z.LaidS T.toThrowableT) (M : MsgC) (LM : M.Links T e.platform s₀) (N : NpeC) (LN : N.Links T e.platform s₀) (hW : s₀.WarmedH V.vm)
    {u0 sen : RefV} {msg : Value} (hmsg : msg.isRef = true) {cell cellS : Cell} {kx : Class} (G : npxG e s₀ V T N u0 sen msg cell cellS kx self)
    (htr : e.platform.stackTraces = false) {ig : Instr} {len : Nat} (acts : List Action)
    {lim : Nat × Nat} (hlim : e.platform.stackLimits V.me = lim) (hframes : V.frames.length + 3 < lim.1) (hwords : (stackUse (.java g :: V.frames.tail)).2 + 56 ≤ lim.2) (hdg : decode c.code g.pc = .ok (ig, len)) :
    ∃ vm', s₀.WarmedH vm' ∧ ∀ target : State, Steps p.tables e below (((V.setVm vm').setCell self (npxC T N cell self u0 sen msg)).setTop { g with pc := g.pc + len }) target →
      Steps p.tables e below (doInvoke e (V.setTop g) acts (Z.m T.toThrowableT) #[.ref self, msg]).1 target := by
  obtain ⟨hcell, hobj, hknown, hfree, hcount, hkx, hsel0, hselF, hcellS, hneS, hknownS, hvU, hvSen, hv0, hneC, hneSt, hneP, htC, htS, htP, htM, ht1, hobjLocals, hskip⟩ := G
  have hlt : self < V.heap.size := (Array.getElem?_eq_some_iff.mp hcell).1
  obtain ⟨r1, r2, -, -⟩ := plainRoomsV (e := e) (g := g) (self := self) h.top T hobjLocals Z cell u0 sen msg hlim (by omega) (by omega)
  have tk : ∀ {f : Field} {v : Value}, Takes s₀ cell f v → Takes s₀ (preparedCellV T.toThrowableT cell self u0 sen) f v := fun h' => ⟨by simpa [preparedCellV, Cell.setSlot] using h'.1, h'.2⟩
  have hvS : (preparedCellV T.toThrowableT cell self u0 sen).slots[T.fStack.slot]? = some u0.v := by
    have h1 : T.fStack.slot < cell.slots.size := htS.1
    simp [preparedCellV, Cell.setSlot, Ne.symm L.stackApartSupp, h1]
  have hv0P : (preparedCellV T.toThrowableT cell self u0 sen).slots[N.fState.slot]? = some (.int 0) := by
    simp [preparedCellV, Cell.setSlot, hneC, hneSt, hneP, hv0]
  have hlen : V.frames.length = (Frame.java g :: V.frames.tail).length := by
    obtain ⟨g₀, hg⟩ := Option.isSome_iff_exists.mp h.top
    obtain ⟨tl, htl⟩ := State.topJava?_eq_some.mp hg
    rw [htl]; rfl
  have hK : (npxIn N (preparedCellV T.toThrowableT cell self u0 sen) T u0 V.cur).left = npeBareV T.toThrowableT N.toNpeT cell self u0 sen := npeBareV_eq T.toThrowableT N.toNpeT self u0 sen V.cur hfree hcount
  have hfill : ∀ vm1, s₀.WarmedH vm1 → At ((initSInside (V.setVm vm1) g T.toThrowableT Z self msg).setCell self (preparedCellV T.toThrowableT cell self u0 sen)) (Z.m T.toThrowableT) Z.code below → ∃ vm2, s₀.WarmedH vm2 ∧ ∀ t' : State,
      Steps p.tables e below ((((initSInside (V.setVm vm2) g T.toThrowableT Z self msg).setCell self (preparedCellV T.toThrowableT cell self u0 sen)).setCell self (npeBareV T.toThrowableT N.toNpeT cell self u0 sen)).setTop (initSJ T.toThrowableT Z self msg 27 [.ref self])) t' →
      Steps p.tables e below (doInvoke e (((initSInside (V.setVm vm1) g T.toThrowableT Z self msg).setCell self (preparedCellV T.toThrowableT cell self u0 sen)).setTop (initSJ T.toThrowableT Z self msg 24 [])) [] N.fill #[.ref self]).1 t' := fun vm1 hW1 hA => by
    have hfU : ((initSInside (V.setVm vm1) g T.toThrowableT Z self msg).setCell self (preparedCellV T.toThrowableT cell self u0 sen)).frames = .java (initSJ T.toThrowableT Z self msg 0 []) :: .java g :: V.frames.tail := frames_entered (g := g) (s := V.setVm vm1) h.top _
    obtain ⟨vm2, hW2, st⟩ := npx_fill p (X := (initSInside (V.setVm vm1) g T.toThrowableT Z self msg).setCell self (preparedCellV T.toThrowableT cell self u0 sen)) (g := initSJ T.toThrowableT Z self msg 24 []) (c := Z.code) (self := self) hA hexec T L N LN hW1 (x := preparedCellV T.toThrowableT cell self u0 sen) (cellS := cellS) (kx := kx) (u0 := u0)
      (heapAt_setCell_self (s := initSInside (V.setVm vm1) g T.toThrowableT Z self msg) _ hlt) hobj hknown hfree hkx hsel0 (by rw [heapAt_setCell_ne _ (Ne.symm hneS)]; exact hcellS) hneS hknownS hvU hvS hneSt hv0P (tk htS) (tk ht1) hskip htr (ig := .invokevirtual 27) (len := 3) (by rw [LZ.bytes]; exact LibCode.Throwable.InitS.at_24) (lim := lim)
      (by show e.platform.stackLimits (initSInside (V.setVm vm1) g T.toThrowableT Z self msg).me = lim; rw [State.stackLimits_pushFrame, State.stackLimits_setTop _ (show (V.setVm vm1).topJava?.isSome from h.top)]; exact hlim)
      (by rw [hfU]; simp only [List.length_cons] at hlen ⊢; omega)
      (by rw [hfU, List.tail_cons, stackUse_java]; simp only [operandWords, List.foldl_nil]; show (stackUse (Frame.java g :: V.frames.tail)).2 + (2 + 11 + 2 * 0 + 0) + 43 ≤ lim.2; omega)
    refine ⟨vm2, hW2, fun t' hs => st t' ?_⟩
    show Steps p.tables e below ((((initSInside (V.setVm vm2) g T.toThrowableT Z self msg).setCell self (preparedCellV T.toThrowableT cell self u0 sen)).setCell self (npxIn N (preparedCellV T.toThrowableT cell self u0 sen) T u0 V.cur).left).setTop (initSJ T.toThrowableT Z self msg 27 [.ref self])) t'
    rw [hK]
    exact hs
  obtain ⟨vm', hW', st⟩ := Steps.throwableInitSColdByV p h hexec T L Z LZ M LM hW (F := fun u => u.setCell self (npeBareV T.toThrowableT N.toNpeT cell self u0 sen)) (heapOnly_id.thenSetCell self _) (fun u vm => rfl)
    hmsg (u0 := u0) (sen := sen) (cF := npeBareV T.toThrowableT N.toNpeT cell self u0 sen) hcell hknown (fun u hu => heapAt_setCell_self _ (Array.getElem?_eq_some_iff.mp hu).1) rfl rfl (by simp [npeBareV, preparedCellV, Cell.setSlot]) htM hdg (mSel := N.fill) (methSel := N.methFill) (kSel := N.kN) hobj hselF LN.method LN.fillAbstract LN.cls LN.notInterface hfill acts
    hcellS hneS hknownS hvU hvSen htC htS htP r1 r2
  refine ⟨vm', hW', fun target hrest => st target ?_⟩
  show Steps p.tables e below (((((V.setVm vm').setCell self (preparedCellV T.toThrowableT cell self u0 sen)).setCell self (npeBareV T.toThrowableT N.toNpeT cell self u0 sen)).setCell self ((npeBareV T.toThrowableT N.toNpeT cell self u0 sen).setSlot T.fMsg.slot msg)).setTop { g with pc := g.pc + len }) target
  rw [setCell_twice, setCell_twice]
  exact hrest
theorem npx_chain (p : Program) {e : Env} {below : List Frame} {s₀ V : State} {g : JFrame} {c : Code} {self : Addr} (h : At V g.method c below) (hexec : p.tables.exec = Jvm.exec)
    (T : ThrowableC) (L : T.Links e.platform s₀) (Z : Init0T) (LZ : Z.LaidS T.toThrowableT) (M : MsgC) (LM : M.Links T e.platform s₀) (N : NpeC) (LN : N.Links T e.platform s₀) (hW : s₀.WarmedH V.vm)
    {u0 sen : RefV} {msg : Value} (hmsg : msg.isRef = true) {cell cellS : Cell} {kx : Class} (G : npxG e s₀ V T N u0 sen msg cell cellS kx self)
    (htr : e.platform.stackTraces = false) (Ps : List PassC) (hL : ∀ P, P ∈ Ps → P.LinksS e.platform s₀) (hlink : PassesOn (Z.m T.toThrowableT) (Ps.map (·.toPassT))) {ig : Instr} {len : Nat} (acts : List Action)
    {lim : Nat × Nat} (hlim : e.platform.stackLimits V.me = lim) (hframes : V.frames.length + Ps.length + 3 < lim.1) (hwords : (stackUse (.java g :: V.frames.tail)).2 + 13 * Ps.length + 56 ≤ lim.2) (hdg : decode c.code g.pc = .ok (ig, len)) :
    ∃ vm', s₀.WarmedH vm' ∧ ∀ target : State, Steps p.tables e below (((V.setVm vm').setCell self (npxC T N cell self u0 sen msg)).setTop { g with pc := g.pc + len }) target →
      Steps p.tables e below (doInvoke e (V.setTop g) acts (firstOf (Z.m T.toThrowableT) (Ps.map (·.toPassT))) #[.ref self, msg]).1 target := by
  obtain ⟨f1, -, -, f4, f5, f6⟩ := chainEnd_facts e.platform self msg (Ps.map (·.toPassT)) V g h.top
  have fc := chainEnd_cur self msg (Ps.map (·.toPassT)) V g
  rw [List.length_map] at f5 f6
  refine Steps.initChainSCold hexec (H := fun u => u.setCell self (npxC T N cell self u0 sen msg)) (heapOnly_id.thenSetCell self _) (Z.m T.toThrowableT) hmsg lim Ps V g c ig len acts h hW hL hlink hdg hlim (by omega) (by omega) (fun vm1 hW1 c' ig' len' hA' hdg' => ?_)
  simp only [chainEnd_setVm] at hA' hdg' ⊢
  generalize chainEnd self msg V g (Ps.map (·.toPassT)) = E at f1 f4 f5 f6 fc hA' hdg' ⊢
  obtain ⟨vm2, hW2, st⟩ := npx_init p (V := E.1.setVm vm1) (g := E.2) (self := self) hA' hexec T L Z LZ M LM N LN hW1 hmsg (cell := cell) (cellS := cellS) (kx := kx) (u0 := u0) (sen := sen)
    (by
      obtain ⟨hcell, a1, a2, a3, a4, a5, a6, a7, hcellS, b1, b2, b3, b4, b5, b6, b7, b8, b9, c1, c2, c3, c4, c5, hskip⟩ := G
      exact ⟨by show E.1.heap[self]? = _; rw [f1]; exact hcell, a1, a2, a3, a4, a5, a6, a7, by show E.1.heap[T.aS]? = _; rw [f1]; exact hcellS, b1, b2, b3, b4, b5, b6, b7, b8, b9, c1, c2, c3, c4, c5, by show SkipFacts T e.platform s₀ _ u0 ((npeCell N.toNpeT (preparedCellV T.toThrowableT cell self u0 sen) E.1.cur).withEntry E.1.cur); rw [fc]; exact hskip⟩)
    htr [] (lim := lim) (by show e.platform.stackLimits E.1.me = lim; rw [f4]; exact hlim) (by show E.1.frames.length + 3 < lim.1; rw [f5]; omega) (by show (stackUse (.java E.2 :: E.1.frames.tail)).2 + 56 ≤ lim.2; rw [f6]; omega) hdg'
  exact ⟨vm2, hW2, fun t' hs => st t' (by rw [State.setVm_twice]; exact hs)⟩
