/-- what every segment of the constructor takes as given -/
def nB (p : Program) (s : State) (m : MethodId) (args : Array Value) (meth : Method) (c : Code) (A : Nat → Prop) (R : Room) : Prop := p.tables.exec = Jvm.exec ∧ c.code = cX7_init ∧ (∀ w ∈ wsG, w.before args s = true) ∧ s.vm.findClass yX7_init.cls = some m.cls ∧ c.maxLocals = 2 ∧ EN A s ∧ meth.name = "<init>" ∧ R = { frames := 2, cells := 321, slots := 9622, locals := 33 }
theorem get_mid {α : Type} (X : List α) (x : α) (ys : List α) : (X ++ (x :: ys))[X.length]? = some x := by simp
section ND
variable {p : Program} {l : Launch} {e : Env} {R : Room} {s : State} {m : MethodId} {args : Array Value} {below : List Frame} {meth : Method} {c : Code} {H : Heap} {locs : List Loc} {Q : State → Prop} {ls : Array Slot} {D : va_G} {cy : Nat → ClassId} {A : Nat → Prop} {a : Nat}
set_option maxRecDepth 100000 in
theorem nd_4 (B : nB p s m args meth c A R) (fs : List Value) (hfs : 10 = fs.length) (L : va_W) (w : CB D cy A s ((a, .inr (10, fs)) :: L) H locs) (hl : lv_has ls 2 [(0, .ref a)])
    (k : ∀ (q : Nat) (b_ : Nat) (H : Heap) (locs : List Loc), CB D cy A s ((a, .inr (10, fs.set 0 (.ref q))) :: (L ++ [(q, .inr (3, [.ref b_, .int 0])), (b_, eI cy 1 200)])) H locs → W p l e R s m args below meth c H locs 2 202 Q (F0 m 15 ls [])) : W p l e R s m args below meth c H locs 0 0 Q (F0 m 4 ls []) := by
  obtain ⟨hx, hbc, hg, hown, hml, hE, hin, rfl⟩ := B
  refine lv_aload_n hx hbc dX7_init_4 rfl (lv_at hl 0 rfl) ?_
  refine cb_new (ci := 3) (fs := [.null, .int 0]) (C := RX0) (T := TX0) (N := 2) hx hbc hg inG_X0 tyX0 tyX0_ok hown wk_28 wk_29 wk_2 w rfl (fun j hj => by rcases (show j = 0 ∨ j = 1 by omega) with rfl | rfl <;> rfl) (Nat.le_of_ble_eq_true rfl) (Nat.le_of_ble_eq_true rfl) dX7_init_5 (fun q H w => ?_)
  refine lv_dup hx hbc dX7_init_8 rfl ?_
  refine cb_initN (As := []) (rest := [.ref q, .ref a]) (na := 0) hx hbc hml hg hown w hE (k_nBytes l D cy q) wk_32 wk_2 (hE.1.2 _ (List.mem_of_getElem? (i := 0) rfl)) wk_31 rfl ⟨by decide, by decide, by decide⟩ ⟨(Nat.le_of_ble_eq_true rfl), (Nat.le_of_ble_eq_true rfl)⟩ rfl hl.1 rfl (Nat.le_of_ble_eq_true rfl) dX7_init_9 ⟨(Nat.le_of_ble_eq_true rfl), (Nat.le_of_ble_eq_true rfl)⟩ (fun w1 H locs hp w => ?_)
  obtain ⟨b_, rfl⟩ := hp
  refine cb_putF (v := .ref q) hx hbc hg inG_X7 tyX7 tyX7_ok nmX7 hown w 0 rfl rfl 0 (by decide) wk_205 rfl hin rfl rfl rfl (by omega) dX7_init_12 (L' := (a, .inr (10, fs.set 0 (.ref q))) :: (L ++ [(q, .inr (3, [.ref b_, .int 0])), (b_, eI cy 1 200)])) rfl (fun H locs w => ?_)
  exact k q b_ H locs w
set_option maxRecDepth 100000 in
theorem nd_15 (B : nB p s m args meth c A R) (fs : List Value) (hfs : 10 = fs.length) (L : va_W) (w : CB D cy A s ((a, .inr (10, fs)) :: L) H locs) (hl : lv_has ls 2 [(0, .ref a)])
    (k : ∀ (q : Nat) (b_ : Nat) (H : Heap) (locs : List Loc), CB D cy A s ((a, .inr (10, fs.set 1 (.ref q))) :: (L ++ [(q, .inr (3, [.ref b_, .int 0])), (b_, eI cy 1 200)])) H locs → W p l e R s m args below meth c H locs 4 404 Q (F0 m 26 ls [])) : W p l e R s m args below meth c H locs 2 202 Q (F0 m 15 ls []) := by
  obtain ⟨hx, hbc, hg, hown, hml, hE, hin, rfl⟩ := B
  refine lv_aload_n hx hbc dX7_init_15 rfl (lv_at hl 0 rfl) ?_
  refine cb_new (ci := 3) (fs := [.null, .int 0]) (C := RX0) (T := TX0) (N := 2) hx hbc hg inG_X0 tyX0 tyX0_ok hown wk_28 wk_29 wk_2 w rfl (fun j hj => by rcases (show j = 0 ∨ j = 1 by omega) with rfl | rfl <;> rfl) (Nat.le_of_ble_eq_true rfl) (Nat.le_of_ble_eq_true rfl) dX7_init_16 (fun q H w => ?_)
  refine lv_dup hx hbc dX7_init_19 rfl ?_
  refine cb_initN (As := []) (rest := [.ref q, .ref a]) (na := 0) hx hbc hml hg hown w hE (k_nBytes l D cy q) wk_32 wk_2 (hE.1.2 _ (List.mem_of_getElem? (i := 0) rfl)) wk_31 rfl ⟨by decide, by decide, by decide⟩ ⟨(Nat.le_of_ble_eq_true rfl), (Nat.le_of_ble_eq_true rfl)⟩ rfl hl.1 rfl (Nat.le_of_ble_eq_true rfl) dX7_init_20 ⟨(Nat.le_of_ble_eq_true rfl), (Nat.le_of_ble_eq_true rfl)⟩ (fun w1 H locs hp w => ?_)
  obtain ⟨b_, rfl⟩ := hp
  refine cb_putF (v := .ref q) hx hbc hg inG_X7 tyX7 tyX7_ok nmX7 hown w 0 rfl rfl 1 (by decide) wk_206 rfl hin rfl rfl rfl (by omega) dX7_init_23 (L' := (a, .inr (10, fs.set 1 (.ref q))) :: (L ++ [(q, .inr (3, [.ref b_, .int 0])), (b_, eI cy 1 200)])) rfl (fun H locs w => ?_)
  exact k q b_ H locs w
set_option maxRecDepth 100000 in
theorem nd_26 (B : nB p s m args meth c A R) (fs : List Value) (hfs : 10 = fs.length) (L : va_W) (w : CB D cy A s ((a, .inr (10, fs)) :: L) H locs) (hl : lv_has ls 2 [(0, .ref a)])
    (k : ∀ (q : Nat) (b_ : Nat) (c_ : Nat) (H : Heap) (locs : List Loc), CB D cy A s ((a, .inr (10, fs.set 2 (.ref q))) :: (L ++ [(q, .inr (5, [.ref b_, .ref c_, .int 0, .int 0, .int 0])), (b_, eI cy 0 8), (c_, eI cy 0 64)])) H locs → W p l e R s m args below meth c H locs 7 481 Q (F0 m 37 ls [])) : W p l e R s m args below meth c H locs 4 404 Q (F0 m 26 ls []) := by
  obtain ⟨hx, hbc, hg, hown, hml, hE, hin, rfl⟩ := B
  refine lv_aload_n hx hbc dX7_init_26 rfl (lv_at hl 0 rfl) ?_
  refine cb_new (ci := 5) (fs := [.null, .null, .int 0, .int 0, .int 0]) (C := RX2) (T := TX2) (N := 5) hx hbc hg inG_X2 tyX2 tyX2_ok hown wk_47 wk_48 wk_3 w rfl (fun j hj => by rcases (show j = 0 ∨ j = 1 ∨ j = 2 ∨ j = 3 ∨ j = 4 by omega) with rfl | rfl | rfl | rfl | rfl <;> rfl) (Nat.le_of_ble_eq_true rfl) (Nat.le_of_ble_eq_true rfl) dX7_init_27 (fun q H w => ?_)
  refine lv_dup hx hbc dX7_init_30 rfl ?_
  refine cb_initN (As := []) (rest := [.ref q, .ref a]) (na := 0) hx hbc hml hg hown w hE (k_nMill l D cy q) wk_51 wk_3 (hE.1.2 _ (List.mem_of_getElem? (i := 1) rfl)) wk_50 rfl ⟨by decide, by decide, by decide⟩ ⟨(Nat.le_of_ble_eq_true rfl), (Nat.le_of_ble_eq_true rfl)⟩ rfl hl.1 rfl (Nat.le_of_ble_eq_true rfl) dX7_init_31 ⟨(Nat.le_of_ble_eq_true rfl), (Nat.le_of_ble_eq_true rfl)⟩ (fun w1 H locs hp w => ?_)
  obtain ⟨b_, c_, rfl⟩ := hp
  refine cb_putF (v := .ref q) hx hbc hg inG_X7 tyX7 tyX7_ok nmX7 hown w 0 rfl rfl 2 (by decide) wk_207 rfl hin rfl rfl rfl (by omega) dX7_init_34 (L' := (a, .inr (10, fs.set 2 (.ref q))) :: (L ++ [(q, .inr (5, [.ref b_, .ref c_, .int 0, .int 0, .int 0])), (b_, eI cy 0 8), (c_, eI cy 0 64)])) rfl (fun H locs w => ?_)
  exact k q b_ c_ H locs w
set_option maxRecDepth 100000 in
theorem nd_37 (B : nB p s m args meth c A R) (fs : List Value) (hfs : 10 = fs.length) {mm : Nat} (hm : fs[2]? = some (.ref mm)) (L : va_W) (w : CB D cy A s ((a, .inr (10, fs)) :: L) H locs) (hl : lv_has ls 2 [(0, .ref a)])
    (k : ∀ (q : Nat) (b_ : Nat) (c_ : Nat) (H : Heap) (locs : List Loc), CB D cy A s ((a, .inr (10, fs.set 3 (.ref q))) :: (L ++ [(q, .inr (4, [.ref mm, .ref b_, .ref c_, .int 0, .int 0, .int 0, .int 0])), (b_, eI cy 1 64), (c_, eI cy 1 32)])) H locs → W p l e R s m args below meth c H locs 10 584 Q (F0 m 52 ls [])) : W p l e R s m args below meth c H locs 7 481 Q (F0 m 37 ls []) := by
  obtain ⟨hx, hbc, hg, hown, hml, hE, hin, rfl⟩ := B
  refine lv_aload_n hx hbc dX7_init_37 rfl (lv_at hl 0 rfl) ?_
  refine cb_new (ci := 4) (fs := [.null, .null, .null, .int 0, .int 0, .int 0, .int 0]) (C := RX1) (T := TX1) (N := 7) hx hbc hg inG_X1 tyX1 tyX1_ok hown wk_73 wk_74 wk_4 w rfl (fun j hj => by rcases (show j = 0 ∨ j = 1 ∨ j = 2 ∨ j = 3 ∨ j = 4 ∨ j = 5 ∨ j = 6 by omega) with rfl | rfl | rfl | rfl | rfl | rfl | rfl <;> rfl) (Nat.le_of_ble_eq_true rfl) (Nat.le_of_ble_eq_true rfl) dX7_init_38 (fun q H w => ?_)
  refine lv_dup hx hbc dX7_init_41 rfl ?_
  refine lv_aload_n hx hbc dX7_init_42 rfl (lv_at hl 0 rfl) ?_
  refine va_get hx hbc hg inG_X7 hown w.1 w.2.1 0 rfl rfl 2 (by decide) (hg _ wk_207) (fun _ h => h) (v := .ref mm) hm dX7_init_43 ?_
  refine cb_init (As := [.ref mm]) (rest := [.ref q, .ref a]) (na := 1) hx hbc hml hg hown w hE (k_nMsg l D cy q mm) wk_77 wk_4 wk_75 wk_76 rfl ⟨by decide, by decide, by decide⟩ ⟨(Nat.le_of_ble_eq_true rfl), (Nat.le_of_ble_eq_true rfl)⟩ rfl hl.1 rfl (Nat.le_of_ble_eq_true rfl) dX7_init_46 ⟨(Nat.le_of_ble_eq_true rfl), (Nat.le_of_ble_eq_true rfl)⟩ (fun w1 H locs hp w => ?_)
  obtain ⟨b_, c_, rfl⟩ := hp
  refine cb_putF (v := .ref q) hx hbc hg inG_X7 tyX7 tyX7_ok nmX7 hown w 0 rfl rfl 3 (by decide) wk_208 rfl hin rfl rfl rfl (by omega) dX7_init_49 (L' := (a, .inr (10, fs.set 3 (.ref q))) :: (L ++ [(q, .inr (4, [.ref mm, .ref b_, .ref c_, .int 0, .int 0, .int 0, .int 0])), (b_, eI cy 1 64), (c_, eI cy 1 32)])) rfl (fun H locs w => ?_)
  exact k q b_ c_ H locs w
set_option maxRecDepth 100000 in
theorem nd_52 (B : nB p s m args meth c A R) (fs : List Value) (hfs : 10 = fs.length) (L : va_W) (w : CB D cy A s ((a, .inr (10, fs)) :: L) H locs) (hl : lv_has ls 2 [(0, .ref a)])
    (k : ∀ (q : Nat) (H : Heap) (locs : List Loc), CB D cy A s ((a, .inr (10, fs.set 4 (.ref q))) :: (q, eQ cy 3 4 (fun _ => none)) :: L) H locs → W p l e R s m args below meth c H locs 11 588 Q (F0 m 60 ls [])) : W p l e R s m args below meth c H locs 10 584 Q (F0 m 52 ls []) := by
  obtain ⟨hx, hbc, hg, hown, hml, hE, hin, rfl⟩ := B
  refine lv_aload_n hx hbc dX7_init_52 rfl (lv_at hl 0 rfl) ?_
  refine lv_iconst (v := nI 4) hx hbc dX7_init_53 (by decide) ?_
  refine cb_newQ (C := "DigestTrees$Message") (k := 3) (n := 4) hx hbc hg hown wk_73 hE.2.2.2.1 w rfl (by decide) (Nat.le_of_ble_eq_true rfl) (Nat.le_of_ble_eq_true rfl) dX7_init_54 (fun q H w => ?_)
  refine cb_putF (v := .ref q) hx hbc hg inG_X7 tyX7 tyX7_ok nmX7 hown w 0 rfl rfl 4 (by decide) wk_209 rfl hin rfl rfl rfl (by omega) dX7_init_57 (L' := (a, .inr (10, fs.set 4 (.ref q))) :: ((L) ++ [(q, eQ cy 3 4 (fun _ => none))])) rfl (fun H locs w => ?_)
  have w := CB.swap (L := (a, .inr (10, fs.set 4 (.ref q))) :: []) (u := L) (v := [(q, eQ cy 3 4 (fun _ => none))]) w
  exact k q H locs w
set_option maxRecDepth 100000 in
theorem nd_60 (B : nB p s m args meth c A R) (fs : List Value) (hfs : 10 = fs.length) (L : va_W) (w : CB D cy A s ((a, .inr (10, fs)) :: L) H locs) (hl : lv_has ls 2 [(0, .ref a)])
    (k : ∀ (q : Nat) (q_ : Nat) (r_ : Nat → Nat) (q9_ : Nat) (r9_ : Nat → Nat) (b_ : Nat) (c_ : Nat) (d_ : Nat) (H : Heap) (locs : List Loc), CB D cy A s ((a, .inr (10, fs.set 5 (.ref q))) :: (L ++ ((((([(q, .inr (7, [.ref q_, .ref q9_, .ref b_, .ref c_, .ref d_, .int 0]))] ++ ([(q_, eQ cy 5 60 (rwQ 60 r_))] ++ rwL 60 r_ (eI cy 1 32))) ++ ([(q9_, eQ cy 6 60 (rwQ 60 r9_))] ++ rwL 60 r9_ (eI cy 0 16))) ++ [(b_, eI cy 0 60)]) ++ [(c_, eI cy 0 60)]) ++ [(d_, eI cy 0 64)]))) H locs → W p l e R s m args below meth c H locs 137 3778 Q (F0 m 71 ls [])) : W p l e R s m args below meth c H locs 11 588 Q (F0 m 60 ls []) := by
  obtain ⟨hx, hbc, hg, hown, hml, hE, hin, rfl⟩ := B
  refine lv_aload_n hx hbc dX7_init_60 rfl (lv_at hl 0 rfl) ?_
  refine cb_new (ci := 7) (fs := [.null, .null, .null, .null, .null, .int 0]) (C := RX4) (T := TX4) (N := 6) hx hbc hg inG_X4 tyX4 tyX4_ok hown wk_103 wk_104 wk_5 w rfl (fun j hj => by rcases (show j = 0 ∨ j = 1 ∨ j = 2 ∨ j = 3 ∨ j = 4 ∨ j = 5 by omega) with rfl | rfl | rfl | rfl | rfl | rfl <;> rfl) (Nat.le_of_ble_eq_true rfl) (Nat.le_of_ble_eq_true rfl) dX7_init_61 (fun q H w => ?_)
  refine lv_dup hx hbc dX7_init_64 rfl ?_
  refine cb_initN (As := []) (rest := [.ref q, .ref a]) (na := 0) hx hbc hml hg hown w hE (k_nShelf l D cy q) wk_107 wk_5 (hE.1.2 _ (List.mem_of_getElem? (i := 2) rfl)) wk_106 rfl ⟨by decide, by decide, by decide⟩ ⟨(Nat.le_of_ble_eq_true rfl), (Nat.le_of_ble_eq_true rfl)⟩ rfl hl.1 rfl (Nat.le_of_ble_eq_true rfl) dX7_init_65 ⟨(Nat.le_of_ble_eq_true rfl), (Nat.le_of_ble_eq_true rfl)⟩ (fun w1 H locs hp w => ?_)
  obtain ⟨q_, r_, q9_, r9_, b_, c_, d_, rfl⟩ := hp
  refine cb_putF (v := .ref q) hx hbc hg inG_X7 tyX7 tyX7_ok nmX7 hown w 0 rfl rfl 5 (by decide) wk_210 rfl hin rfl rfl rfl (by omega) dX7_init_68 (L' := (a, .inr (10, fs.set 5 (.ref q))) :: (L ++ ((((([(q, .inr (7, [.ref q_, .ref q9_, .ref b_, .ref c_, .ref d_, .int 0]))] ++ ([(q_, eQ cy 5 60 (rwQ 60 r_))] ++ rwL 60 r_ (eI cy 1 32))) ++ ([(q9_, eQ cy 6 60 (rwQ 60 r9_))] ++ rwL 60 r9_ (eI cy 0 16))) ++ [(b_, eI cy 0 60)]) ++ [(c_, eI cy 0 60)]) ++ [(d_, eI cy 0 64)]))) rfl (fun H locs w => ?_)
  exact k q q_ r_ q9_ r9_ b_ c_ d_ H locs w
set_option maxRecDepth 100000 in
theorem nd_71 (B : nB p s m args meth c A R) (fs : List Value) (hfs : 10 = fs.length) {x1 : Nat × va_E} (L : va_W) (w : CB D cy A s ((a, .inr (10, fs)) :: x1 :: L) H locs) (hl : lv_has ls 2 [(0, .ref a)])
    (k : ∀ (q : Nat) (H : Heap) (locs : List Loc), CB D cy A s ((a, .inr (10, fs.set 6 (.ref q))) :: x1 :: (q, eQ cy 4 4 (fun _ => none)) :: L) H locs → W p l e R s m args below meth c H locs 138 3782 Q (F0 m 79 ls [])) : W p l e R s m args below meth c H locs 137 3778 Q (F0 m 71 ls []) := by
  obtain ⟨hx, hbc, hg, hown, hml, hE, hin, rfl⟩ := B
  refine lv_aload_n hx hbc dX7_init_71 rfl (lv_at hl 0 rfl) ?_
  refine lv_iconst (v := nI 4) hx hbc dX7_init_72 (by decide) ?_
  refine cb_newQ (C := "DigestTrees$Tree") (k := 4) (n := 4) hx hbc hg hown wk_136 hE.2.2.2.2 w rfl (by decide) (Nat.le_of_ble_eq_true rfl) (Nat.le_of_ble_eq_true rfl) dX7_init_73 (fun q H w => ?_)
  refine cb_putF (v := .ref q) hx hbc hg inG_X7 tyX7 tyX7_ok nmX7 hown w 0 rfl rfl 6 (by decide) wk_211 rfl hin rfl rfl rfl (by omega) dX7_init_76 (L' := (a, .inr (10, fs.set 6 (.ref q))) :: ((x1 :: L) ++ [(q, eQ cy 4 4 (fun _ => none))])) rfl (fun H locs w => ?_)
  have w := CB.swap (L := (a, .inr (10, fs.set 6 (.ref q))) :: x1 :: []) (u := L) (v := [(q, eQ cy 4 4 (fun _ => none))]) w
  exact k q H locs w
set_option maxRecDepth 100000 in
theorem nd_79 (B : nB p s m args meth c A R) (fs : List Value) (hfs : 10 = fs.length) (L : va_W) (w : CB D cy A s ((a, .inr (10, fs)) :: L) H locs) (hl : lv_has ls 2 [(0, .ref a)])
    (k : ∀ (q : Nat) (q_ : Nat) (r_ : Nat → Nat) (H : Heap) (locs : List Loc), CB D cy A s ((a, .inr (10, fs.set 7 (.ref q))) :: (L ++ ([(q, .inr (6, [.ref q_, .int 0]))] ++ ([(q_, eQ cy 5 4 (rwQ 4 r_))] ++ rwL 4 r_ (eI cy 1 32))))) H locs → W p l e R s m args below meth c H locs 144 3916 Q (F0 m 90 ls [])) : W p l e R s m args below meth c H locs 138 3782 Q (F0 m 79 ls []) := by
  obtain ⟨hx, hbc, hg, hown, hml, hE, hin, rfl⟩ := B
  refine lv_aload_n hx hbc dX7_init_79 rfl (lv_at hl 0 rfl) ?_
  refine cb_new (ci := 6) (fs := [.null, .int 0]) (C := RX3) (T := TX3) (N := 2) hx hbc hg inG_X3 tyX3 tyX3_ok hown wk_138 wk_139 wk_6 w rfl (fun j hj => by rcases (show j = 0 ∨ j = 1 by omega) with rfl | rfl <;> rfl) (Nat.le_of_ble_eq_true rfl) (Nat.le_of_ble_eq_true rfl) dX7_init_80 (fun q H w => ?_)
  refine lv_dup hx hbc dX7_init_83 rfl ?_
  refine cb_initN (As := []) (rest := [.ref q, .ref a]) (na := 0) hx hbc hml hg hown w hE (k_nProof l D cy q) wk_142 wk_6 (hE.1.2 _ (List.mem_of_getElem? (i := 3) rfl)) wk_141 rfl ⟨by decide, by decide, by decide⟩ ⟨(Nat.le_of_ble_eq_true rfl), (Nat.le_of_ble_eq_true rfl)⟩ rfl hl.1 rfl (Nat.le_of_ble_eq_true rfl) dX7_init_84 ⟨(Nat.le_of_ble_eq_true rfl), (Nat.le_of_ble_eq_true rfl)⟩ (fun w1 H locs hp w => ?_)
  obtain ⟨q_, r_, rfl⟩ := hp
  refine cb_putF (v := .ref q) hx hbc hg inG_X7 tyX7 tyX7_ok nmX7 hown w 0 rfl rfl 7 (by decide) wk_212 rfl hin rfl rfl rfl (by omega) dX7_init_87 (L' := (a, .inr (10, fs.set 7 (.ref q))) :: (L ++ ([(q, .inr (6, [.ref q_, .int 0]))] ++ ([(q_, eQ cy 5 4 (rwQ 4 r_))] ++ rwL 4 r_ (eI cy 1 32))))) rfl (fun H locs w => ?_)
  exact k q q_ r_ H locs w
set_option maxRecDepth 100000 in
theorem nd_90 (B : nB p s m args meth c A R) (fs : List Value) (hfs : 10 = fs.length) (L : va_W) (w : CB D cy A s ((a, .inr (10, fs)) :: L) H locs) (hl : lv_has ls 2 [(0, .ref a)])
    (k : ∀ (q : Nat) (q_ : Nat) (r_ : Nat → Nat) (b_ : Nat) (c_ : Nat) (H : Heap) (locs : List Loc), CB D cy A s ((a, .inr (10, fs.set 8 (.ref q))) :: (L ++ ((([(q, .inr (8, [.ref q_, .ref b_, .ref c_, .int 0, .int 0, .int 0]))] ++ ([(q_, eQ cy 5 40 (rwQ 40 r_))] ++ rwL 40 r_ (eI cy 1 40))) ++ [(b_, eI cy 0 40)]) ++ [(c_, eI cy 0 40)]))) H locs → W p l e R s m args below meth c H locs 188 5642 Q (F0 m 101 ls [])) : W p l e R s m args below meth c H locs 144 3916 Q (F0 m 90 ls []) := by
  obtain ⟨hx, hbc, hg, hown, hml, hE, hin, rfl⟩ := B
  refine lv_aload_n hx hbc dX7_init_90 rfl (lv_at hl 0 rfl) ?_
  refine cb_new (ci := 8) (fs := [.null, .null, .null, .int 0, .int 0, .int 0]) (C := RX5) (T := TX5) (N := 6) hx hbc hg inG_X5 tyX5 tyX5_ok hown wk_154 wk_155 wk_7 w rfl (fun j hj => by rcases (show j = 0 ∨ j = 1 ∨ j = 2 ∨ j = 3 ∨ j = 4 ∨ j = 5 by omega) with rfl | rfl | rfl | rfl | rfl | rfl <;> rfl) (Nat.le_of_ble_eq_true rfl) (Nat.le_of_ble_eq_true rfl) dX7_init_91 (fun q H w => ?_)
  refine lv_dup hx hbc dX7_init_94 rfl ?_
  refine cb_initN (As := []) (rest := [.ref q, .ref a]) (na := 0) hx hbc hml hg hown w hE (k_nStore l D cy q) wk_158 wk_7 (hE.1.2 _ (List.mem_of_getElem? (i := 4) rfl)) wk_157 rfl ⟨by decide, by decide, by decide⟩ ⟨(Nat.le_of_ble_eq_true rfl), (Nat.le_of_ble_eq_true rfl)⟩ rfl hl.1 rfl (Nat.le_of_ble_eq_true rfl) dX7_init_95 ⟨(Nat.le_of_ble_eq_true rfl), (Nat.le_of_ble_eq_true rfl)⟩ (fun w1 H locs hp w => ?_)
  obtain ⟨q_, r_, b_, c_, rfl⟩ := hp
  refine cb_putF (v := .ref q) hx hbc hg inG_X7 tyX7 tyX7_ok nmX7 hown w 0 rfl rfl 8 (by decide) wk_213 rfl hin rfl rfl rfl (by omega) dX7_init_98 (L' := (a, .inr (10, fs.set 8 (.ref q))) :: (L ++ ((([(q, .inr (8, [.ref q_, .ref b_, .ref c_, .int 0, .int 0, .int 0]))] ++ ([(q_, eQ cy 5 40 (rwQ 40 r_))] ++ rwL 40 r_ (eI cy 1 40))) ++ [(b_, eI cy 0 40)]) ++ [(c_, eI cy 0 40)]))) rfl (fun H locs w => ?_)
  exact k q q_ r_ b_ c_ H locs w
set_option maxRecDepth 100000 in
theorem nd_101 (B : nB p s m args meth c A R) (fs : List Value) (hfs : 10 = fs.length) (L : va_W) (w : CB D cy A s ((a, .inr (10, fs)) :: L) H locs) (hl : lv_has ls 2 [(0, .ref a)])
    (k : ∀ (q : Nat) (H : Heap) (locs : List Loc) (ls : Array Slot), lv_has ls 2 [(1, .int (nI 0)), (0, .ref a)] → CB D cy A s ((a, .inr (10, fs.set 9 (.ref q))) :: (L ++ [(q, eI cy 1 32)])) H locs → W p l e R s m args below meth c H locs 189 5674 Q (F0 m 111 ls [])) : W p l e R s m args below meth c H locs 188 5642 Q (F0 m 101 ls []) := by
  obtain ⟨hx, hbc, hg, hown, hml, hE, hin, rfl⟩ := B
  refine lv_aload_n hx hbc dX7_init_101 rfl (lv_at hl 0 rfl) ?_
  refine lv_bipush (v := nI 32) hx hbc dX7_init_102 (by decide) ?_
  refine cb_newB (n := 32) hx hbc hg wk_46 w (by decide) (Nat.le_of_ble_eq_true rfl) (Nat.le_of_ble_eq_true rfl) dX7_init_104 (fun q H w => ?_)
  refine cb_putF (v := .ref q) hx hbc hg inG_X7 tyX7 tyX7_ok nmX7 hown w 0 rfl rfl 9 (by decide) wk_214 rfl hin rfl rfl rfl (by omega) dX7_init_106 (L' := (a, .inr (10, fs.set 9 (.ref q))) :: (L ++ [(q, eI cy 1 32)])) rfl (fun H locs w => ?_)
  refine lv_iconst (v := nI 0) hx hbc dX7_init_109 (by decide) ?_
  refine lv_istore_n (lv' := [(1, .int (nI 0)), (0, .ref a)]) hx hbc dX7_init_110 rfl hl (by decide) rfl (fun ls hl => ?_)
  exact k q H locs ls hl w
set_option maxRecDepth 100000 in
theorem nd_111 (B : nB p s m args meth c A R) (fs : List Value) (hfs : 10 = fs.length) {q11 : Nat} (h4 : fs[4]? = some (.ref q11)) (f : Nat → Option Nat) (L : va_W) (i : Nat) (hi : i < 4) (c0 s0 : Nat) (hc0 : c0 + 6 ≤ 321) (hs0 : s0 + 180 ≤ 9622) (w : CB D cy A s ((a, .inr (10, fs)) :: (q11, eQ cy 3 4 f) :: L) H locs) (hl : lv_has ls 2 [(1, .int (nI i)), (0, .ref a)])
    (k : ∀ (qm qk b_ c_ d_ e_ : Nat) (H : Heap) (locs : List Loc) (ls : Array Slot), lv_has ls 2 [(1, .int (nI (i + 1))), (0, .ref a)] → CB D cy A s ((a, .inr (10, fs)) :: (q11, eQ cy 3 4 (va_up f i (some qm))) :: ((L ++ [(qk, .inr (5, [.ref b_, .ref c_, .int 0, .int 0, .int 0])), (b_, eI cy 0 8), (c_, eI cy 0 64)]) ++ [(qm, .inr (4, [.ref qk, .ref d_, .ref e_, .int 0, .int 0, .int 0, .int 0])), (d_, eI cy 1 64), (e_, eI cy 1 32)])) H locs → W p l e R s m args below meth c H locs (c0 + 6) (s0 + 180) Q (F0 m 111 ls [])) : W p l e R s m args below meth c H locs c0 s0 Q (F0 m 111 ls []) := by
  obtain ⟨hx, hbc, hg, hown, hml, hE, hin, rfl⟩ := B
  refine lv_iload_n hx hbc dX7_init_111 rfl (lv_at hl 0 rfl) ?_
  refine lv_iconst (v := nI 4) hx hbc dX7_init_112 (by decide) ?_
  refine n_cmp_ge (tgt := 142) (by omega) (by decide) hx hbc dX7_init_113 (by decide) (fun c9 => absurd c9 (by omega)) (fun c9 => ?_)
  refine lv_aload_n hx hbc dX7_init_116 rfl (lv_at hl 1 rfl) ?_
  refine va_get hx hbc hg inG_X7 hown w.1 w.2.1 0 rfl rfl 4 (by decide) (hg _ wk_209) (fun _ h => h) (v := .ref q11) h4 dX7_init_117 ?_
  refine lv_iload_n hx hbc dX7_init_120 rfl (lv_at hl 0 rfl) ?_
  refine cb_new (ci := 4) (fs := [.null, .null, .null, .int 0, .int 0, .int 0, .int 0]) (C := RX1) (T := TX1) (N := 7) hx hbc hg inG_X1 tyX1 tyX1_ok hown wk_73 wk_74 wk_4 w rfl (fun j hj => by rcases (show j = 0 ∨ j = 1 ∨ j = 2 ∨ j = 3 ∨ j = 4 ∨ j = 5 ∨ j = 6 by omega) with rfl | rfl | rfl | rfl | rfl | rfl | rfl <;> rfl) (by dsimp only; omega) (by dsimp only; omega) dX7_init_121 (fun qm H w => ?_)
  refine lv_dup hx hbc dX7_init_124 rfl ?_
  refine cb_new (ci := 5) (fs := [.null, .null, .int 0, .int 0, .int 0]) (C := RX2) (T := TX2) (N := 5) hx hbc hg inG_X2 tyX2 tyX2_ok hown wk_47 wk_48 wk_3 w rfl (fun j hj => by rcases (show j = 0 ∨ j = 1 ∨ j = 2 ∨ j = 3 ∨ j = 4 by omega) with rfl | rfl | rfl | rfl | rfl <;> rfl) (by dsimp only; omega) (by dsimp only; omega) dX7_init_125 (fun qk H w => ?_)
  refine lv_dup hx hbc dX7_init_128 rfl ?_
  refine cb_initN (As := []) (rest := [.ref qk, .ref qm, .ref qm, .int (nI i), .ref q11]) (na := 0) hx hbc hml hg hown w hE (k_nMill l D cy qk) wk_51 wk_3 (hE.1.2 _ (List.mem_of_getElem? (i := 1) rfl)) wk_50 rfl ⟨by decide, by decide, by decide⟩ ⟨(Nat.le_of_ble_eq_true rfl), (Nat.le_of_ble_eq_true rfl)⟩ rfl hl.1 rfl (Nat.le_of_ble_eq_true rfl) dX7_init_129 ⟨(by dsimp only; omega), (by dsimp only; omega)⟩ (fun w1 H locs hp w => ?_)
  obtain ⟨b_, c_, rfl⟩ := hp
  have w := w.swap
  refine cb_init (As := [.ref qk]) (rest := [.ref qm, .int (nI i), .ref q11]) (na := 1) hx hbc hml hg hown w hE (k_nMsg l D cy qm qk) wk_77 wk_4 wk_75 wk_76 rfl ⟨by decide, by decide, by decide⟩ ⟨(Nat.le_of_ble_eq_true rfl), (Nat.le_of_ble_eq_true rfl)⟩ rfl hl.1 rfl (Nat.le_of_ble_eq_true rfl) dX7_init_132 ⟨(by dsimp only; omega), (by dsimp only; omega)⟩ (fun w1 H locs hp w => ?_)
  obtain ⟨d_, e_, rfl⟩ := hp
  refine cb_ast hx hbc w 1 (((a, .inr (10, fs)) :: (q11, eQ cy 3 4 f) :: L) ++ [(qk, .inr (5, [.ref b_, .ref c_, .int 0, .int 0, .int 0])), (b_, eI cy 0 8), (c_, eI cy 0 64)]).length 3 4 4 i rfl rfl (get_mid _ _ _) rfl hi (by decide) (L' := (a, .inr (10, fs)) :: (q11, eQ cy 3 4 (va_up f i (some qm))) :: ((L ++ [(qk, .inr (5, [.ref b_, .ref c_, .int 0, .int 0, .int 0])), (b_, eI cy 0 8), (c_, eI cy 0 64)]) ++ [(qm, .inr (4, [.ref qk, .ref d_, .ref e_, .int 0, .int 0, .int 0, .int 0])), (d_, eI cy 1 64), (e_, eI cy 1 32)])) rfl dX7_init_135 (fun H locs w => ?_)
  refine lv_iinc (v := nI (i + 1)) (lv' := [(1, .int (nI (i + 1))), (0, .ref a)]) hx hbc dX7_init_136 hl (k := 0) rfl (ni_inc _ _) (by decide) rfl (fun ls hl => ?_)
  refine lv_goto (tgt := 111) hx hbc dX7_init_139 (by decide) ?_
  exact k qm qk b_ c_ d_ e_ H locs ls hl w
theorem nd_111e (B : nB p s m args meth c A R) {c0 s0 : Nat} (hl : lv_has ls 2 [(1, .int (nI 4)), (0, .ref a)])
    (k : ∀ (ls : Array Slot), lv_has ls 2 [(1, .int (nI 0)), (0, .ref a)] → W p l e R s m args below meth c H locs c0 s0 Q (F0 m 144 ls [])) : W p l e R s m args below meth c H locs c0 s0 Q (F0 m 111 ls []) := by
  obtain ⟨hx, hbc, hg, hown, hml, hE, hin, rfl⟩ := B
  refine lv_iload_n hx hbc dX7_init_111 rfl (lv_at hl 0 rfl) ?_
  refine lv_iconst (v := nI 4) hx hbc dX7_init_112 (by decide) ?_
  refine n_cmp_ge (tgt := 142) (by decide) (by decide) hx hbc dX7_init_113 (by decide) (fun c9 => ?_) (fun c9 => absurd c9 (by decide))
  refine lv_iconst (v := nI 0) hx hbc dX7_init_142 (by decide) ?_
  refine lv_istore_n (lv' := [(1, .int (nI 0)), (0, .ref a)]) hx hbc dX7_init_143 rfl hl (by decide) rfl (fun ls hl => ?_)
  exact k ls hl
set_option maxRecDepth 100000 in
theorem nd_144 (B : nB p s m args meth c A R) (fs : List Value) (hfs : 10 = fs.length) {q20 : Nat} {x1 : Nat × va_E} (h6 : fs[6]? = some (.ref q20)) (f : Nat → Option Nat) (L : va_W) (i : Nat) (hi : i < 4) (c0 s0 : Nat) (hc0 : c0 + 27 ≤ 321) (hs0 : s0 + 807 ≤ 9622) (w : CB D cy A s ((a, .inr (10, fs)) :: x1 :: (q20, eQ cy 4 4 f) :: L) H locs) (hl : lv_has ls 2 [(1, .int (nI i)), (0, .ref a)])
    (k : ∀ (qt b_ q_ : Nat) (r_ : Nat → Nat) (H : Heap) (locs : List Loc) (ls : Array Slot), lv_has ls 2 [(1, .int (nI (i + 1))), (0, .ref a)] → CB D cy A s ((a, .inr (10, fs)) :: x1 :: (q20, eQ cy 4 4 (va_up f i (some qt))) :: (L ++ (([(qt, .inr (9, [.ref b_, .ref q_, .int 0]))] ++ [(b_, eI cy 0 12)]) ++ ([(q_, eQ cy 5 24 (rwQ 24 r_))] ++ rwL 24 r_ (eI cy 1 32))))) H locs → W p l e R s m args below meth c H locs (c0 + 27) (s0 + 807) Q (F0 m 144 ls [])) : W p l e R s m args below meth c H locs c0 s0 Q (F0 m 144 ls []) := by
  obtain ⟨hx, hbc, hg, hown, hml, hE, hin, rfl⟩ := B
  refine lv_iload_n hx hbc dX7_init_144 rfl (lv_at hl 0 rfl) ?_
  refine lv_iconst (v := nI 4) hx hbc dX7_init_145 (by decide) ?_
  refine n_cmp_ge (tgt := 168) (by omega) (by decide) hx hbc dX7_init_146 (by decide) (fun c9 => absurd c9 (by omega)) (fun c9 => ?_)
  refine lv_aload_n hx hbc dX7_init_149 rfl (lv_at hl 1 rfl) ?_
  refine va_get hx hbc hg inG_X7 hown w.1 w.2.1 0 rfl rfl 6 (by decide) (hg _ wk_211) (fun _ h => h) (v := .ref q20) h6 dX7_init_150 ?_
  refine lv_iload_n hx hbc dX7_init_153 rfl (lv_at hl 0 rfl) ?_
  refine cb_new (ci := 9) (fs := [.null, .null, .int 0]) (C := RX6) (T := TX6) (N := 3) hx hbc hg inG_X6 tyX6 tyX6_ok hown wk_136 wk_184 wk_8 w rfl (fun j hj => by rcases (show j = 0 ∨ j = 1 ∨ j = 2 by omega) with rfl | rfl | rfl <;> rfl) (by dsimp only; omega) (by dsimp only; omega) dX7_init_154 (fun qt H w => ?_)
  refine lv_dup hx hbc dX7_init_157 rfl ?_
  refine cb_initN (As := []) (rest := [.ref qt, .int (nI i), .ref q20]) (na := 0) hx hbc hml hg hown w hE (k_nTree l D cy qt) wk_187 wk_8 (hE.1.2 _ (List.mem_of_getElem? (i := 5) rfl)) wk_186 rfl ⟨by decide, by decide, by decide⟩ ⟨(Nat.le_of_ble_eq_true rfl), (Nat.le_of_ble_eq_true rfl)⟩ rfl hl.1 rfl (Nat.le_of_ble_eq_true rfl) dX7_init_158 ⟨(by dsimp only; omega), (by dsimp only; omega)⟩ (fun w1 H locs hp w => ?_)
  obtain ⟨b_, q_, r_, rfl⟩ := hp
  refine cb_ast hx hbc w 2 ((a, .inr (10, fs)) :: x1 :: (q20, eQ cy 4 4 f) :: L).length 4 4 9 i rfl rfl (get_mid ((a, .inr (10, fs)) :: x1 :: (q20, eQ cy 4 4 f) :: L) _ _) rfl hi (by decide) (L' := (a, .inr (10, fs)) :: x1 :: (q20, eQ cy 4 4 (va_up f i (some qt))) :: (L ++ (([(qt, .inr (9, [.ref b_, .ref q_, .int 0]))] ++ [(b_, eI cy 0 12)]) ++ ([(q_, eQ cy 5 24 (rwQ 24 r_))] ++ rwL 24 r_ (eI cy 1 32))))) rfl dX7_init_161 (fun H locs w => ?_)
  refine lv_iinc (v := nI (i + 1)) (lv' := [(1, .int (nI (i + 1))), (0, .ref a)]) hx hbc dX7_init_162 hl (k := 0) rfl (ni_inc _ _) (by decide) rfl (fun ls hl => ?_)
  refine lv_goto (tgt := 144) hx hbc dX7_init_165 (by decide) ?_
  exact k qt b_ q_ r_ H locs ls hl w
end ND
