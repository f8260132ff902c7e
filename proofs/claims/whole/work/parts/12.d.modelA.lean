def mB (p : Program) (s : State) (m : MethodId) (args : Array Value) (meth : Method) (c : Code) (R : Room) : Prop := p.tables.exec = Jvm.exec ∧ c.code = cX8_init ∧ (∀ w ∈ wsG, w.before args s = true) ∧ s.vm.findClass yX8_init.cls = some m.cls ∧ c.maxLocals = 5 ∧ meth.name = "<init>" ∧ R = { frames := 2, cells := 30, slots := 21049, locals := 49 }
section MD
variable {p : Program} {l : Launch} {e : Env} {R : Room} {s : State} {m : MethodId} {args : Array Value} {below : List Frame} {meth : Method} {c : Code} {H : Heap} {locs : List Loc} {Q : State → Prop} {ls : Array Slot} {D : va_G} {cy : Nat → ClassId} {A : Nat → Prop} {a : Nat}
theorem md_4 (B : mB p s m args meth c R) (fs : List Value) (hfs : 40 = fs.length) (L : va_W) (w : CB D cy A s ((a, .inr (11, fs)) :: L) H locs) (hl : lv_has ls 5 [(0, .ref a)])
    (k : ∀ (q : Nat) (H : Heap) (locs : List Loc), CB D cy A s ((a, .inr (11, fs.set 1 (.ref q))) :: (L ++ [(q, eI cy 0 64)])) H locs → W p l e R s m args below meth c H locs 1 64 Q (F0 m 12 ls [])) : W p l e R s m args below meth c H locs 0 0 Q (F0 m 4 ls []) := by
  obtain ⟨hx, hbc, hg, hown, hml, hin, rfl⟩ := B
  refine lv_aload_n hx hbc dX8_init_4 rfl (lv_at hl 0 rfl) ?_
  refine lv_bipush (v := nI 64) hx hbc dX8_init_5 (by decide) ?_
  refine cb_newI (n := 64) hx hbc hg wk_72 w (by decide) (Nat.le_of_ble_eq_true rfl) (Nat.le_of_ble_eq_true rfl) dX8_init_7 (fun q H w => ?_)
  refine cb_putF (v := .ref q) hx hbc hg inG_X8 tyX8 tyX8_ok nmX8 hown w 0 rfl rfl 1 (by decide) wk_668 rfl hin rfl rfl rfl (by omega) dX8_init_9 (L' := (a, .inr (11, fs.set 1 (.ref q))) :: (L ++ [(q, eI cy 0 64)])) rfl (fun H locs w => ?_)
  exact k q H locs w
theorem md_12 (B : mB p s m args meth c R) (fs : List Value) (hfs : 40 = fs.length) (L : va_W) (w : CB D cy A s ((a, .inr (11, fs)) :: L) H locs) (hl : lv_has ls 5 [(0, .ref a)])
    (k : ∀ (q : Nat) (H : Heap) (locs : List Loc), CB D cy A s ((a, .inr (11, fs.set 2 (.ref q))) :: (L ++ [(q, eI cy 0 8)])) H locs → W p l e R s m args below meth c H locs 2 72 Q (F0 m 20 ls [])) : W p l e R s m args below meth c H locs 1 64 Q (F0 m 12 ls []) := by
  obtain ⟨hx, hbc, hg, hown, hml, hin, rfl⟩ := B
  refine lv_aload_n hx hbc dX8_init_12 rfl (lv_at hl 0 rfl) ?_
  refine lv_bipush (v := nI 8) hx hbc dX8_init_13 (by decide) ?_
  refine cb_newI (n := 8) hx hbc hg wk_72 w (by decide) (Nat.le_of_ble_eq_true rfl) (Nat.le_of_ble_eq_true rfl) dX8_init_15 (fun q H w => ?_)
  refine cb_putF (v := .ref q) hx hbc hg inG_X8 tyX8 tyX8_ok nmX8 hown w 0 rfl rfl 2 (by decide) wk_669 rfl hin rfl rfl rfl (by omega) dX8_init_17 (L' := (a, .inr (11, fs.set 2 (.ref q))) :: (L ++ [(q, eI cy 0 8)])) rfl (fun H locs w => ?_)
  exact k q H locs w
theorem md_20 (B : mB p s m args meth c R) (fs : List Value) (hfs : 40 = fs.length) (L : va_W) (w : CB D cy A s ((a, .inr (11, fs)) :: L) H locs) (hl : lv_has ls 5 [(0, .ref a)])
    (k : ∀ (q : Nat) (H : Heap) (locs : List Loc), CB D cy A s ((a, .inr (11, fs.set 3 (.ref q))) :: (L ++ [(q, eI cy 0 8)])) H locs → W p l e R s m args below meth c H locs 3 80 Q (F0 m 28 ls [])) : W p l e R s m args below meth c H locs 2 72 Q (F0 m 20 ls []) := by
  obtain ⟨hx, hbc, hg, hown, hml, hin, rfl⟩ := B
  refine lv_aload_n hx hbc dX8_init_20 rfl (lv_at hl 0 rfl) ?_
  refine lv_bipush (v := nI 8) hx hbc dX8_init_21 (by decide) ?_
  refine cb_newI (n := 8) hx hbc hg wk_72 w (by decide) (Nat.le_of_ble_eq_true rfl) (Nat.le_of_ble_eq_true rfl) dX8_init_23 (fun q H w => ?_)
  refine cb_putF (v := .ref q) hx hbc hg inG_X8 tyX8 tyX8_ok nmX8 hown w 0 rfl rfl 3 (by decide) wk_670 rfl hin rfl rfl rfl (by omega) dX8_init_25 (L' := (a, .inr (11, fs.set 3 (.ref q))) :: (L ++ [(q, eI cy 0 8)])) rfl (fun H locs w => ?_)
  exact k q H locs w
theorem md_28 (B : mB p s m args meth c R) (fs : List Value) (hfs : 40 = fs.length) (L : va_W) (w : CB D cy A s ((a, .inr (11, fs)) :: L) H locs) (hl : lv_has ls 5 [(0, .ref a)])
    (k : ∀ (q : Nat) (H : Heap) (locs : List Loc), CB D cy A s ((a, .inr (11, fs.set 4 (.ref q))) :: (L ++ [(q, eJ cy 16)])) H locs → W p l e R s m args below meth c H locs 4 96 Q (F0 m 36 ls [])) : W p l e R s m args below meth c H locs 3 80 Q (F0 m 28 ls []) := by
  obtain ⟨hx, hbc, hg, hown, hml, hin, rfl⟩ := B
  refine lv_aload_n hx hbc dX8_init_28 rfl (lv_at hl 0 rfl) ?_
  refine lv_bipush (v := nI 16) hx hbc dX8_init_29 (by decide) ?_
  refine cb_newJ (n := 16) hx hbc hg wk_788 w (by decide) (Nat.le_of_ble_eq_true rfl) (Nat.le_of_ble_eq_true rfl) dX8_init_31 (fun q H w => ?_)
  refine cb_putF (v := .ref q) hx hbc hg inG_X8 tyX8 tyX8_ok nmX8 hown w 0 rfl rfl 4 (by decide) wk_671 rfl hin rfl rfl rfl (by omega) dX8_init_33 (L' := (a, .inr (11, fs.set 4 (.ref q))) :: (L ++ [(q, eJ cy 16)])) rfl (fun H locs w => ?_)
  exact k q H locs w
theorem md_36 (B : mB p s m args meth c R) (fs : List Value) (hfs : 40 = fs.length) (L : va_W) (w : CB D cy A s ((a, .inr (11, fs)) :: L) H locs) (hl : lv_has ls 5 [(0, .ref a)])
    (k : ∀ (q : Nat) (H : Heap) (locs : List Loc), CB D cy A s ((a, .inr (11, fs.set 5 (.ref q))) :: (L ++ [(q, eJ cy 16)])) H locs → W p l e R s m args below meth c H locs 5 112 Q (F0 m 44 ls [])) : W p l e R s m args below meth c H locs 4 96 Q (F0 m 36 ls []) := by
  obtain ⟨hx, hbc, hg, hown, hml, hin, rfl⟩ := B
  refine lv_aload_n hx hbc dX8_init_36 rfl (lv_at hl 0 rfl) ?_
  refine lv_bipush (v := nI 16) hx hbc dX8_init_37 (by decide) ?_
  refine cb_newJ (n := 16) hx hbc hg wk_788 w (by decide) (Nat.le_of_ble_eq_true rfl) (Nat.le_of_ble_eq_true rfl) dX8_init_39 (fun q H w => ?_)
  refine cb_putF (v := .ref q) hx hbc hg inG_X8 tyX8 tyX8_ok nmX8 hown w 0 rfl rfl 5 (by decide) wk_672 rfl hin rfl rfl rfl (by omega) dX8_init_41 (L' := (a, .inr (11, fs.set 5 (.ref q))) :: (L ++ [(q, eJ cy 16)])) rfl (fun H locs w => ?_)
  exact k q H locs w
theorem md_44 (B : mB p s m args meth c R) (fs : List Value) (hfs : 40 = fs.length) (L : va_W) (w : CB D cy A s ((a, .inr (11, fs)) :: L) H locs) (hl : lv_has ls 5 [(0, .ref a)])
    (k : ∀ (q : Nat) (H : Heap) (locs : List Loc), CB D cy A s ((a, .inr (11, fs.set 6 (.ref q))) :: (L ++ [(q, eJ cy 16)])) H locs → W p l e R s m args below meth c H locs 6 128 Q (F0 m 52 ls [])) : W p l e R s m args below meth c H locs 5 112 Q (F0 m 44 ls []) := by
  obtain ⟨hx, hbc, hg, hown, hml, hin, rfl⟩ := B
  refine lv_aload_n hx hbc dX8_init_44 rfl (lv_at hl 0 rfl) ?_
  refine lv_bipush (v := nI 16) hx hbc dX8_init_45 (by decide) ?_
  refine cb_newJ (n := 16) hx hbc hg wk_788 w (by decide) (Nat.le_of_ble_eq_true rfl) (Nat.le_of_ble_eq_true rfl) dX8_init_47 (fun q H w => ?_)
  refine cb_putF (v := .ref q) hx hbc hg inG_X8 tyX8 tyX8_ok nmX8 hown w 0 rfl rfl 6 (by decide) wk_673 rfl hin rfl rfl rfl (by omega) dX8_init_49 (L' := (a, .inr (11, fs.set 6 (.ref q))) :: (L ++ [(q, eJ cy 16)])) rfl (fun H locs w => ?_)
  exact k q H locs w
theorem md_52 (B : mB p s m args meth c R) (fs : List Value) (hfs : 40 = fs.length) (L : va_W) (w : CB D cy A s ((a, .inr (11, fs)) :: L) H locs) (hl : lv_has ls 5 [(0, .ref a)])
    (k : ∀ (q : Nat) (H : Heap) (locs : List Loc), CB D cy A s ((a, .inr (11, fs.set 7 (.ref q))) :: (L ++ [(q, eI cy 0 2400)])) H locs → W p l e R s m args below meth c H locs 7 2528 Q (F0 m 61 ls [])) : W p l e R s m args below meth c H locs 6 128 Q (F0 m 52 ls []) := by
  obtain ⟨hx, hbc, hg, hown, hml, hin, rfl⟩ := B
  refine lv_aload_n hx hbc dX8_init_52 rfl (lv_at hl 0 rfl) ?_
  refine lv_sipush (v := nI 2400) hx hbc dX8_init_53 (by decide) ?_
  refine cb_newI (n := 2400) hx hbc hg wk_72 w (by decide) (Nat.le_of_ble_eq_true rfl) (Nat.le_of_ble_eq_true rfl) dX8_init_56 (fun q H w => ?_)
  refine cb_putF (v := .ref q) hx hbc hg inG_X8 tyX8 tyX8_ok nmX8 hown w 0 rfl rfl 7 (by decide) wk_674 rfl hin rfl rfl rfl (by omega) dX8_init_58 (L' := (a, .inr (11, fs.set 7 (.ref q))) :: (L ++ [(q, eI cy 0 2400)])) rfl (fun H locs w => ?_)
  exact k q H locs w
theorem md_61 (B : mB p s m args meth c R) (fs : List Value) (hfs : 40 = fs.length) (L : va_W) (w : CB D cy A s ((a, .inr (11, fs)) :: L) H locs) (hl : lv_has ls 5 [(0, .ref a)])
    (k : ∀ (q : Nat) (H : Heap) (locs : List Loc), CB D cy A s ((a, .inr (11, fs.set 9 (.ref q))) :: (L ++ [(q, eI cy 0 8)])) H locs → W p l e R s m args below meth c H locs 8 2536 Q (F0 m 69 ls [])) : W p l e R s m args below meth c H locs 7 2528 Q (F0 m 61 ls []) := by
  obtain ⟨hx, hbc, hg, hown, hml, hin, rfl⟩ := B
  refine lv_aload_n hx hbc dX8_init_61 rfl (lv_at hl 0 rfl) ?_
  refine lv_bipush (v := nI 8) hx hbc dX8_init_62 (by decide) ?_
  refine cb_newI (n := 8) hx hbc hg wk_72 w (by decide) (Nat.le_of_ble_eq_true rfl) (Nat.le_of_ble_eq_true rfl) dX8_init_64 (fun q H w => ?_)
  refine cb_putF (v := .ref q) hx hbc hg inG_X8 tyX8 tyX8_ok nmX8 hown w 0 rfl rfl 9 (by decide) wk_676 rfl hin rfl rfl rfl (by omega) dX8_init_66 (L' := (a, .inr (11, fs.set 9 (.ref q))) :: (L ++ [(q, eI cy 0 8)])) rfl (fun H locs w => ?_)
  exact k q H locs w
theorem md_69 (B : mB p s m args meth c R) (fs : List Value) (hfs : 40 = fs.length) (L : va_W) (w : CB D cy A s ((a, .inr (11, fs)) :: L) H locs) (hl : lv_has ls 5 [(0, .ref a)])
    (k : ∀ (q : Nat) (H : Heap) (locs : List Loc), CB D cy A s ((a, .inr (11, fs.set 10 (.ref q))) :: (L ++ [(q, eI cy 0 64)])) H locs → W p l e R s m args below meth c H locs 9 2600 Q (F0 m 77 ls [])) : W p l e R s m args below meth c H locs 8 2536 Q (F0 m 69 ls []) := by
  obtain ⟨hx, hbc, hg, hown, hml, hin, rfl⟩ := B
  refine lv_aload_n hx hbc dX8_init_69 rfl (lv_at hl 0 rfl) ?_
  refine lv_bipush (v := nI 64) hx hbc dX8_init_70 (by decide) ?_
  refine cb_newI (n := 64) hx hbc hg wk_72 w (by decide) (Nat.le_of_ble_eq_true rfl) (Nat.le_of_ble_eq_true rfl) dX8_init_72 (fun q H w => ?_)
  refine cb_putF (v := .ref q) hx hbc hg inG_X8 tyX8 tyX8_ok nmX8 hown w 0 rfl rfl 10 (by decide) wk_677 rfl hin rfl rfl rfl (by omega) dX8_init_74 (L' := (a, .inr (11, fs.set 10 (.ref q))) :: (L ++ [(q, eI cy 0 64)])) rfl (fun H locs w => ?_)
  exact k q H locs w
theorem md_77 (B : mB p s m args meth c R) (fs : List Value) (hfs : 40 = fs.length) (L : va_W) (w : CB D cy A s ((a, .inr (11, fs)) :: L) H locs) (hl : lv_has ls 5 [(0, .ref a)])
    (k : ∀ (q : Nat) (H : Heap) (locs : List Loc), CB D cy A s ((a, .inr (11, fs.set 13 (.ref q))) :: (L ++ [(q, eI cy 0 200)])) H locs → W p l e R s m args below meth c H locs 10 2800 Q (F0 m 86 ls [])) : W p l e R s m args below meth c H locs 9 2600 Q (F0 m 77 ls []) := by
  obtain ⟨hx, hbc, hg, hown, hml, hin, rfl⟩ := B
  refine lv_aload_n hx hbc dX8_init_77 rfl (lv_at hl 0 rfl) ?_
  refine lv_sipush (v := nI 200) hx hbc dX8_init_78 (by decide) ?_
  refine cb_newI (n := 200) hx hbc hg wk_72 w (by decide) (Nat.le_of_ble_eq_true rfl) (Nat.le_of_ble_eq_true rfl) dX8_init_81 (fun q H w => ?_)
  refine cb_putF (v := .ref q) hx hbc hg inG_X8 tyX8 tyX8_ok nmX8 hown w 0 rfl rfl 13 (by decide) wk_680 rfl hin rfl rfl rfl (by omega) dX8_init_83 (L' := (a, .inr (11, fs.set 13 (.ref q))) :: (L ++ [(q, eI cy 0 200)])) rfl (fun H locs w => ?_)
  exact k q H locs w
theorem md_86 (B : mB p s m args meth c R) (fs : List Value) (hfs : 40 = fs.length) (L : va_W) (w : CB D cy A s ((a, .inr (11, fs)) :: L) H locs) (hl : lv_has ls 5 [(0, .ref a)])
    (k : ∀ (q : Nat) (H : Heap) (locs : List Loc), CB D cy A s ((a, .inr (11, fs.set 15 (.ref q))) :: (L ++ [(q, eI cy 0 200)])) H locs → W p l e R s m args below meth c H locs 11 3000 Q (F0 m 95 ls [])) : W p l e R s m args below meth c H locs 10 2800 Q (F0 m 86 ls []) := by
  obtain ⟨hx, hbc, hg, hown, hml, hin, rfl⟩ := B
  refine lv_aload_n hx hbc dX8_init_86 rfl (lv_at hl 0 rfl) ?_
  refine lv_sipush (v := nI 200) hx hbc dX8_init_87 (by decide) ?_
  refine cb_newI (n := 200) hx hbc hg wk_72 w (by decide) (Nat.le_of_ble_eq_true rfl) (Nat.le_of_ble_eq_true rfl) dX8_init_90 (fun q H w => ?_)
  refine cb_putF (v := .ref q) hx hbc hg inG_X8 tyX8 tyX8_ok nmX8 hown w 0 rfl rfl 15 (by decide) wk_682 rfl hin rfl rfl rfl (by omega) dX8_init_92 (L' := (a, .inr (11, fs.set 15 (.ref q))) :: (L ++ [(q, eI cy 0 200)])) rfl (fun H locs w => ?_)
  exact k q H locs w
theorem md_95 (B : mB p s m args meth c R) (fs : List Value) (hfs : 40 = fs.length) (L : va_W) (w : CB D cy A s ((a, .inr (11, fs)) :: L) H locs) (hl : lv_has ls 5 [(0, .ref a)])
    (k : ∀ (q : Nat) (H : Heap) (locs : List Loc), CB D cy A s ((a, .inr (11, fs.set 17 (.ref q))) :: (L ++ [(q, eI cy 0 60)])) H locs → W p l e R s m args below meth c H locs 12 3060 Q (F0 m 103 ls [])) : W p l e R s m args below meth c H locs 11 3000 Q (F0 m 95 ls []) := by
  obtain ⟨hx, hbc, hg, hown, hml, hin, rfl⟩ := B
  refine lv_aload_n hx hbc dX8_init_95 rfl (lv_at hl 0 rfl) ?_
  refine lv_bipush (v := nI 60) hx hbc dX8_init_96 (by decide) ?_
  refine cb_newI (n := 60) hx hbc hg wk_72 w (by decide) (Nat.le_of_ble_eq_true rfl) (Nat.le_of_ble_eq_true rfl) dX8_init_98 (fun q H w => ?_)
  refine cb_putF (v := .ref q) hx hbc hg inG_X8 tyX8 tyX8_ok nmX8 hown w 0 rfl rfl 17 (by decide) wk_684 rfl hin rfl rfl rfl (by omega) dX8_init_100 (L' := (a, .inr (11, fs.set 17 (.ref q))) :: (L ++ [(q, eI cy 0 60)])) rfl (fun H locs w => ?_)
  exact k q H locs w
theorem md_103 (B : mB p s m args meth c R) (fs : List Value) (hfs : 40 = fs.length) (L : va_W) (w : CB D cy A s ((a, .inr (11, fs)) :: L) H locs) (hl : lv_has ls 5 [(0, .ref a)])
    (k : ∀ (q : Nat) (H : Heap) (locs : List Loc), CB D cy A s ((a, .inr (11, fs.set 18 (.ref q))) :: (L ++ [(q, eI cy 0 60)])) H locs → W p l e R s m args below meth c H locs 13 3120 Q (F0 m 111 ls [])) : W p l e R s m args below meth c H locs 12 3060 Q (F0 m 103 ls []) := by
  obtain ⟨hx, hbc, hg, hown, hml, hin, rfl⟩ := B
  refine lv_aload_n hx hbc dX8_init_103 rfl (lv_at hl 0 rfl) ?_
  refine lv_bipush (v := nI 60) hx hbc dX8_init_104 (by decide) ?_
  refine cb_newI (n := 60) hx hbc hg wk_72 w (by decide) (Nat.le_of_ble_eq_true rfl) (Nat.le_of_ble_eq_true rfl) dX8_init_106 (fun q H w => ?_)
  refine cb_putF (v := .ref q) hx hbc hg inG_X8 tyX8 tyX8_ok nmX8 hown w 0 rfl rfl 18 (by decide) wk_685 rfl hin rfl rfl rfl (by omega) dX8_init_108 (L' := (a, .inr (11, fs.set 18 (.ref q))) :: (L ++ [(q, eI cy 0 60)])) rfl (fun H locs w => ?_)
  exact k q H locs w
theorem md_111 (B : mB p s m args meth c R) (fs : List Value) (hfs : 40 = fs.length) (L : va_W) (w : CB D cy A s ((a, .inr (11, fs)) :: L) H locs) (hl : lv_has ls 5 [(0, .ref a)])
    (k : ∀ (q : Nat) (H : Heap) (locs : List Loc), CB D cy A s ((a, .inr (11, fs.set 19 (.ref q))) :: (L ++ [(q, eI cy 0 1920)])) H locs → W p l e R s m args below meth c H locs 14 5040 Q (F0 m 120 ls [])) : W p l e R s m args below meth c H locs 13 3120 Q (F0 m 111 ls []) := by
  obtain ⟨hx, hbc, hg, hown, hml, hin, rfl⟩ := B
  refine lv_aload_n hx hbc dX8_init_111 rfl (lv_at hl 0 rfl) ?_
  refine lv_sipush (v := nI 1920) hx hbc dX8_init_112 (by decide) ?_
  refine cb_newI (n := 1920) hx hbc hg wk_72 w (by decide) (Nat.le_of_ble_eq_true rfl) (Nat.le_of_ble_eq_true rfl) dX8_init_115 (fun q H w => ?_)
  refine cb_putF (v := .ref q) hx hbc hg inG_X8 tyX8 tyX8_ok nmX8 hown w 0 rfl rfl 19 (by decide) wk_686 rfl hin rfl rfl rfl (by omega) dX8_init_117 (L' := (a, .inr (11, fs.set 19 (.ref q))) :: (L ++ [(q, eI cy 0 1920)])) rfl (fun H locs w => ?_)
  exact k q H locs w
theorem md_120 (B : mB p s m args meth c R) (fs : List Value) (hfs : 40 = fs.length) (L : va_W) (w : CB D cy A s ((a, .inr (11, fs)) :: L) H locs) (hl : lv_has ls 5 [(0, .ref a)])
    (k : ∀ (q : Nat) (H : Heap) (locs : List Loc), CB D cy A s ((a, .inr (11, fs.set 20 (.ref q))) :: (L ++ [(q, eI cy 0 3840)])) H locs → W p l e R s m args below meth c H locs 15 8880 Q (F0 m 129 ls [])) : W p l e R s m args below meth c H locs 14 5040 Q (F0 m 120 ls []) := by
  obtain ⟨hx, hbc, hg, hown, hml, hin, rfl⟩ := B
  refine lv_aload_n hx hbc dX8_init_120 rfl (lv_at hl 0 rfl) ?_
  refine lv_sipush (v := nI 3840) hx hbc dX8_init_121 (by decide) ?_
  refine cb_newI (n := 3840) hx hbc hg wk_72 w (by decide) (Nat.le_of_ble_eq_true rfl) (Nat.le_of_ble_eq_true rfl) dX8_init_124 (fun q H w => ?_)
  refine cb_putF (v := .ref q) hx hbc hg inG_X8 tyX8 tyX8_ok nmX8 hown w 0 rfl rfl 20 (by decide) wk_687 rfl hin rfl rfl rfl (by omega) dX8_init_126 (L' := (a, .inr (11, fs.set 20 (.ref q))) :: (L ++ [(q, eI cy 0 3840)])) rfl (fun H locs w => ?_)
  exact k q H locs w
theorem md_129 (B : mB p s m args meth c R) (fs : List Value) (hfs : 40 = fs.length) (L : va_W) (w : CB D cy A s ((a, .inr (11, fs)) :: L) H locs) (hl : lv_has ls 5 [(0, .ref a)])
    (k : ∀ (q : Nat) (H : Heap) (locs : List Loc), CB D cy A s ((a, .inr (11, fs.set 21 (.ref q))) :: (L ++ [(q, eI cy 0 320)])) H locs → W p l e R s m args below meth c H locs 16 9200 Q (F0 m 138 ls [])) : W p l e R s m args below meth c H locs 15 8880 Q (F0 m 129 ls []) := by
  obtain ⟨hx, hbc, hg, hown, hml, hin, rfl⟩ := B
  refine lv_aload_n hx hbc dX8_init_129 rfl (lv_at hl 0 rfl) ?_
  refine lv_sipush (v := nI 320) hx hbc dX8_init_130 (by decide) ?_
  refine cb_newI (n := 320) hx hbc hg wk_72 w (by decide) (Nat.le_of_ble_eq_true rfl) (Nat.le_of_ble_eq_true rfl) dX8_init_133 (fun q H w => ?_)
  refine cb_putF (v := .ref q) hx hbc hg inG_X8 tyX8 tyX8_ok nmX8 hown w 0 rfl rfl 21 (by decide) wk_688 rfl hin rfl rfl rfl (by omega) dX8_init_135 (L' := (a, .inr (11, fs.set 21 (.ref q))) :: (L ++ [(q, eI cy 0 320)])) rfl (fun H locs w => ?_)
  exact k q H locs w
theorem md_138 (B : mB p s m args meth c R) (fs : List Value) (hfs : 40 = fs.length) (L : va_W) (w : CB D cy A s ((a, .inr (11, fs)) :: L) H locs) (hl : lv_has ls 5 [(0, .ref a)])
    (k : ∀ (q : Nat) (H : Heap) (locs : List Loc), CB D cy A s ((a, .inr (11, fs.set 22 (.ref q))) :: (L ++ [(q, eI cy 0 5)])) H locs → W p l e R s m args below meth c H locs 17 9205 Q (F0 m 145 ls [])) : W p l e R s m args below meth c H locs 16 9200 Q (F0 m 138 ls []) := by
  obtain ⟨hx, hbc, hg, hown, hml, hin, rfl⟩ := B
  refine lv_aload_n hx hbc dX8_init_138 rfl (lv_at hl 0 rfl) ?_
  refine lv_iconst (v := nI 5) hx hbc dX8_init_139 (by decide) ?_
  refine cb_newI (n := 5) hx hbc hg wk_72 w (by decide) (Nat.le_of_ble_eq_true rfl) (Nat.le_of_ble_eq_true rfl) dX8_init_140 (fun q H w => ?_)
  refine cb_putF (v := .ref q) hx hbc hg inG_X8 tyX8 tyX8_ok nmX8 hown w 0 rfl rfl 22 (by decide) wk_689 rfl hin rfl rfl rfl (by omega) dX8_init_142 (L' := (a, .inr (11, fs.set 22 (.ref q))) :: (L ++ [(q, eI cy 0 5)])) rfl (fun H locs w => ?_)
  exact k q H locs w
theorem md_145 (B : mB p s m args meth c R) (fs : List Value) (hfs : 40 = fs.length) (L : va_W) (w : CB D cy A s ((a, .inr (11, fs)) :: L) H locs) (hl : lv_has ls 5 [(0, .ref a)])
    (k : ∀ (q : Nat) (H : Heap) (locs : List Loc), CB D cy A s ((a, .inr (11, fs.set 23 (.ref q))) :: (L ++ [(q, eI cy 0 8000)])) H locs → W p l e R s m args below meth c H locs 18 17205 Q (F0 m 154 ls [])) : W p l e R s m args below meth c H locs 17 9205 Q (F0 m 145 ls []) := by
  obtain ⟨hx, hbc, hg, hown, hml, hin, rfl⟩ := B
  refine lv_aload_n hx hbc dX8_init_145 rfl (lv_at hl 0 rfl) ?_
  refine lv_sipush (v := nI 8000) hx hbc dX8_init_146 (by decide) ?_
  refine cb_newI (n := 8000) hx hbc hg wk_72 w (by decide) (Nat.le_of_ble_eq_true rfl) (Nat.le_of_ble_eq_true rfl) dX8_init_149 (fun q H w => ?_)
  refine cb_putF (v := .ref q) hx hbc hg inG_X8 tyX8 tyX8_ok nmX8 hown w 0 rfl rfl 23 (by decide) wk_690 rfl hin rfl rfl rfl (by omega) dX8_init_151 (L' := (a, .inr (11, fs.set 23 (.ref q))) :: (L ++ [(q, eI cy 0 8000)])) rfl (fun H locs w => ?_)
  exact k q H locs w
theorem md_154 (B : mB p s m args meth c R) (fs : List Value) (hfs : 40 = fs.length) (L : va_W) (w : CB D cy A s ((a, .inr (11, fs)) :: L) H locs) (hl : lv_has ls 5 [(0, .ref a)])
    (k : ∀ (q : Nat) (H : Heap) (locs : List Loc), CB D cy A s ((a, .inr (11, fs.set 24 (.ref q))) :: (L ++ [(q, eI cy 0 4)])) H locs → W p l e R s m args below meth c H locs 19 17209 Q (F0 m 161 ls [])) : W p l e R s m args below meth c H locs 18 17205 Q (F0 m 154 ls []) := by
  obtain ⟨hx, hbc, hg, hown, hml, hin, rfl⟩ := B
  refine lv_aload_n hx hbc dX8_init_154 rfl (lv_at hl 0 rfl) ?_
  refine lv_iconst (v := nI 4) hx hbc dX8_init_155 (by decide) ?_
  refine cb_newI (n := 4) hx hbc hg wk_72 w (by decide) (Nat.le_of_ble_eq_true rfl) (Nat.le_of_ble_eq_true rfl) dX8_init_156 (fun q H w => ?_)
  refine cb_putF (v := .ref q) hx hbc hg inG_X8 tyX8 tyX8_ok nmX8 hown w 0 rfl rfl 24 (by decide) wk_691 rfl hin rfl rfl rfl (by omega) dX8_init_158 (L' := (a, .inr (11, fs.set 24 (.ref q))) :: (L ++ [(q, eI cy 0 4)])) rfl (fun H locs w => ?_)
  exact k q H locs w
theorem md_161 (B : mB p s m args meth c R) (fs : List Value) (hfs : 40 = fs.length) (L : va_W) (w : CB D cy A s ((a, .inr (11, fs)) :: L) H locs) (hl : lv_has ls 5 [(0, .ref a)])
    (k : ∀ (q : Nat) (H : Heap) (locs : List Loc), CB D cy A s ((a, .inr (11, fs.set 25 (.ref q))) :: (L ++ [(q, eI cy 0 4)])) H locs → W p l e R s m args below meth c H locs 20 17213 Q (F0 m 168 ls [])) : W p l e R s m args below meth c H locs 19 17209 Q (F0 m 161 ls []) := by
  obtain ⟨hx, hbc, hg, hown, hml, hin, rfl⟩ := B
  refine lv_aload_n hx hbc dX8_init_161 rfl (lv_at hl 0 rfl) ?_
  refine lv_iconst (v := nI 4) hx hbc dX8_init_162 (by decide) ?_
  refine cb_newI (n := 4) hx hbc hg wk_72 w (by decide) (Nat.le_of_ble_eq_true rfl) (Nat.le_of_ble_eq_true rfl) dX8_init_163 (fun q H w => ?_)
  refine cb_putF (v := .ref q) hx hbc hg inG_X8 tyX8 tyX8_ok nmX8 hown w 0 rfl rfl 25 (by decide) wk_692 rfl hin rfl rfl rfl (by omega) dX8_init_165 (L' := (a, .inr (11, fs.set 25 (.ref q))) :: (L ++ [(q, eI cy 0 4)])) rfl (fun H locs w => ?_)
  exact k q H locs w
theorem md_168 (B : mB p s m args meth c R) (fs : List Value) (hfs : 40 = fs.length) (L : va_W) (w : CB D cy A s ((a, .inr (11, fs)) :: L) H locs) (hl : lv_has ls 5 [(0, .ref a)])
    (k : ∀ (q : Nat) (H : Heap) (locs : List Loc), CB D cy A s ((a, .inr (11, fs.set 26 (.ref q))) :: (L ++ [(q, eI cy 0 8)])) H locs → W p l e R s m args below meth c H locs 21 17221 Q (F0 m 176 ls [])) : W p l e R s m args below meth c H locs 20 17213 Q (F0 m 168 ls []) := by
  obtain ⟨hx, hbc, hg, hown, hml, hin, rfl⟩ := B
  refine lv_aload_n hx hbc dX8_init_168 rfl (lv_at hl 0 rfl) ?_
  refine lv_bipush (v := nI 8) hx hbc dX8_init_169 (by decide) ?_
  refine cb_newI (n := 8) hx hbc hg wk_72 w (by decide) (Nat.le_of_ble_eq_true rfl) (Nat.le_of_ble_eq_true rfl) dX8_init_171 (fun q H w => ?_)
  refine cb_putF (v := .ref q) hx hbc hg inG_X8 tyX8 tyX8_ok nmX8 hown w 0 rfl rfl 26 (by decide) wk_693 rfl hin rfl rfl rfl (by omega) dX8_init_173 (L' := (a, .inr (11, fs.set 26 (.ref q))) :: (L ++ [(q, eI cy 0 8)])) rfl (fun H locs w => ?_)
  exact k q H locs w
theorem md_176 (B : mB p s m args meth c R) (fs : List Value) (hfs : 40 = fs.length) (L : va_W) (w : CB D cy A s ((a, .inr (11, fs)) :: L) H locs) (hl : lv_has ls 5 [(0, .ref a)])
    (k : ∀ (q : Nat) (H : Heap) (locs : List Loc), CB D cy A s ((a, .inr (11, fs.set 27 (.ref q))) :: (L ++ [(q, eI cy 0 4)])) H locs → W p l e R s m args below meth c H locs 22 17225 Q (F0 m 183 ls [])) : W p l e R s m args below meth c H locs 21 17221 Q (F0 m 176 ls []) := by
  obtain ⟨hx, hbc, hg, hown, hml, hin, rfl⟩ := B
  refine lv_aload_n hx hbc dX8_init_176 rfl (lv_at hl 0 rfl) ?_
  refine lv_iconst (v := nI 4) hx hbc dX8_init_177 (by decide) ?_
  refine cb_newI (n := 4) hx hbc hg wk_72 w (by decide) (Nat.le_of_ble_eq_true rfl) (Nat.le_of_ble_eq_true rfl) dX8_init_178 (fun q H w => ?_)
  refine cb_putF (v := .ref q) hx hbc hg inG_X8 tyX8 tyX8_ok nmX8 hown w 0 rfl rfl 27 (by decide) wk_694 rfl hin rfl rfl rfl (by omega) dX8_init_180 (L' := (a, .inr (11, fs.set 27 (.ref q))) :: (L ++ [(q, eI cy 0 4)])) rfl (fun H locs w => ?_)
  exact k q H locs w
theorem md_183 (B : mB p s m args meth c R) (fs : List Value) (hfs : 40 = fs.length) (L : va_W) (w : CB D cy A s ((a, .inr (11, fs)) :: L) H locs) (hl : lv_has ls 5 [(0, .ref a)])
    (k : ∀ (q : Nat) (H : Heap) (locs : List Loc), CB D cy A s ((a, .inr (11, fs.set 28 (.ref q))) :: (L ++ [(q, eI cy 0 48)])) H locs → W p l e R s m args below meth c H locs 23 17273 Q (F0 m 191 ls [])) : W p l e R s m args below meth c H locs 22 17225 Q (F0 m 183 ls []) := by
  obtain ⟨hx, hbc, hg, hown, hml, hin, rfl⟩ := B
  refine lv_aload_n hx hbc dX8_init_183 rfl (lv_at hl 0 rfl) ?_
  refine lv_bipush (v := nI 48) hx hbc dX8_init_184 (by decide) ?_
  refine cb_newI (n := 48) hx hbc hg wk_72 w (by decide) (Nat.le_of_ble_eq_true rfl) (Nat.le_of_ble_eq_true rfl) dX8_init_186 (fun q H w => ?_)
  refine cb_putF (v := .ref q) hx hbc hg inG_X8 tyX8 tyX8_ok nmX8 hown w 0 rfl rfl 28 (by decide) wk_695 rfl hin rfl rfl rfl (by omega) dX8_init_188 (L' := (a, .inr (11, fs.set 28 (.ref q))) :: (L ++ [(q, eI cy 0 48)])) rfl (fun H locs w => ?_)
  exact k q H locs w
theorem md_191 (B : mB p s m args meth c R) (fs : List Value) (hfs : 40 = fs.length) (L : va_W) (w : CB D cy A s ((a, .inr (11, fs)) :: L) H locs) (hl : lv_has ls 5 [(0, .ref a)])
    (k : ∀ (q : Nat) (H : Heap) (locs : List Loc), CB D cy A s ((a, .inr (11, fs.set 29 (.ref q))) :: (L ++ [(q, eI cy 0 48)])) H locs → W p l e R s m args below meth c H locs 24 17321 Q (F0 m 199 ls [])) : W p l e R s m args below meth c H locs 23 17273 Q (F0 m 191 ls []) := by
  obtain ⟨hx, hbc, hg, hown, hml, hin, rfl⟩ := B
  refine lv_aload_n hx hbc dX8_init_191 rfl (lv_at hl 0 rfl) ?_
  refine lv_bipush (v := nI 48) hx hbc dX8_init_192 (by decide) ?_
  refine cb_newI (n := 48) hx hbc hg wk_72 w (by decide) (Nat.le_of_ble_eq_true rfl) (Nat.le_of_ble_eq_true rfl) dX8_init_194 (fun q H w => ?_)
  refine cb_putF (v := .ref q) hx hbc hg inG_X8 tyX8 tyX8_ok nmX8 hown w 0 rfl rfl 29 (by decide) wk_696 rfl hin rfl rfl rfl (by omega) dX8_init_196 (L' := (a, .inr (11, fs.set 29 (.ref q))) :: (L ++ [(q, eI cy 0 48)])) rfl (fun H locs w => ?_)
  exact k q H locs w
theorem md_199 (B : mB p s m args meth c R) (fs : List Value) (hfs : 40 = fs.length) (L : va_W) (w : CB D cy A s ((a, .inr (11, fs)) :: L) H locs) (hl : lv_has ls 5 [(0, .ref a)])
    (k : ∀ (q : Nat) (H : Heap) (locs : List Loc), CB D cy A s ((a, .inr (11, fs.set 30 (.ref q))) :: (L ++ [(q, eI cy 0 1920)])) H locs → W p l e R s m args below meth c H locs 25 19241 Q (F0 m 208 ls [])) : W p l e R s m args below meth c H locs 24 17321 Q (F0 m 199 ls []) := by
  obtain ⟨hx, hbc, hg, hown, hml, hin, rfl⟩ := B
  refine lv_aload_n hx hbc dX8_init_199 rfl (lv_at hl 0 rfl) ?_
  refine lv_sipush (v := nI 1920) hx hbc dX8_init_200 (by decide) ?_
  refine cb_newI (n := 1920) hx hbc hg wk_72 w (by decide) (Nat.le_of_ble_eq_true rfl) (Nat.le_of_ble_eq_true rfl) dX8_init_203 (fun q H w => ?_)
  refine cb_putF (v := .ref q) hx hbc hg inG_X8 tyX8 tyX8_ok nmX8 hown w 0 rfl rfl 30 (by decide) wk_697 rfl hin rfl rfl rfl (by omega) dX8_init_205 (L' := (a, .inr (11, fs.set 30 (.ref q))) :: (L ++ [(q, eI cy 0 1920)])) rfl (fun H locs w => ?_)
  exact k q H locs w
theorem md_208 (B : mB p s m args meth c R) (fs : List Value) (hfs : 40 = fs.length) (L : va_W) (w : CB D cy A s ((a, .inr (11, fs)) :: L) H locs) (hl : lv_has ls 5 [(0, .ref a)])
    (k : ∀ (q : Nat) (H : Heap) (locs : List Loc), CB D cy A s ((a, .inr (11, fs.set 31 (.ref q))) :: (L ++ [(q, eI cy 0 96)])) H locs → W p l e R s m args below meth c H locs 26 19337 Q (F0 m 216 ls [])) : W p l e R s m args below meth c H locs 25 19241 Q (F0 m 208 ls []) := by
  obtain ⟨hx, hbc, hg, hown, hml, hin, rfl⟩ := B
  refine lv_aload_n hx hbc dX8_init_208 rfl (lv_at hl 0 rfl) ?_
  refine lv_bipush (v := nI 96) hx hbc dX8_init_209 (by decide) ?_
  refine cb_newI (n := 96) hx hbc hg wk_72 w (by decide) (Nat.le_of_ble_eq_true rfl) (Nat.le_of_ble_eq_true rfl) dX8_init_211 (fun q H w => ?_)
  refine cb_putF (v := .ref q) hx hbc hg inG_X8 tyX8 tyX8_ok nmX8 hown w 0 rfl rfl 31 (by decide) wk_698 rfl hin rfl rfl rfl (by omega) dX8_init_213 (L' := (a, .inr (11, fs.set 31 (.ref q))) :: (L ++ [(q, eI cy 0 96)])) rfl (fun H locs w => ?_)
  exact k q H locs w
theorem md_216 (B : mB p s m args meth c R) (fs : List Value) (hfs : 40 = fs.length) (L : va_W) (w : CB D cy A s ((a, .inr (11, fs)) :: L) H locs) (hl : lv_has ls 5 [(0, .ref a)])
    (k : ∀ (q : Nat) (H : Heap) (locs : List Loc), CB D cy A s ((a, .inr (11, fs.set 33 (.ref q))) :: (L ++ [(q, eI cy 0 32)])) H locs → W p l e R s m args below meth c H locs 27 19369 Q (F0 m 224 ls [])) : W p l e R s m args below meth c H locs 26 19337 Q (F0 m 216 ls []) := by
  obtain ⟨hx, hbc, hg, hown, hml, hin, rfl⟩ := B
  refine lv_aload_n hx hbc dX8_init_216 rfl (lv_at hl 0 rfl) ?_
  refine lv_bipush (v := nI 32) hx hbc dX8_init_217 (by decide) ?_
  refine cb_newI (n := 32) hx hbc hg wk_72 w (by decide) (Nat.le_of_ble_eq_true rfl) (Nat.le_of_ble_eq_true rfl) dX8_init_219 (fun q H w => ?_)
  refine cb_putF (v := .ref q) hx hbc hg inG_X8 tyX8 tyX8_ok nmX8 hown w 0 rfl rfl 33 (by decide) wk_700 rfl hin rfl rfl rfl (by omega) dX8_init_221 (L' := (a, .inr (11, fs.set 33 (.ref q))) :: (L ++ [(q, eI cy 0 32)])) rfl (fun H locs w => ?_)
  exact k q H locs w
theorem md_224 (B : mB p s m args meth c R) (fs : List Value) (hfs : 40 = fs.length) (L : va_W) (w : CB D cy A s ((a, .inr (11, fs)) :: L) H locs) (hl : lv_has ls 5 [(0, .ref a)])
    (k : ∀ (q : Nat) (H : Heap) (locs : List Loc), CB D cy A s ((a, .inr (11, fs.set 35 (.ref q))) :: (L ++ [(q, eI cy 0 40)])) H locs → W p l e R s m args below meth c H locs 28 19409 Q (F0 m 232 ls [])) : W p l e R s m args below meth c H locs 27 19369 Q (F0 m 224 ls []) := by
  obtain ⟨hx, hbc, hg, hown, hml, hin, rfl⟩ := B
  refine lv_aload_n hx hbc dX8_init_224 rfl (lv_at hl 0 rfl) ?_
  refine lv_bipush (v := nI 40) hx hbc dX8_init_225 (by decide) ?_
  refine cb_newI (n := 40) hx hbc hg wk_72 w (by decide) (Nat.le_of_ble_eq_true rfl) (Nat.le_of_ble_eq_true rfl) dX8_init_227 (fun q H w => ?_)
  refine cb_putF (v := .ref q) hx hbc hg inG_X8 tyX8 tyX8_ok nmX8 hown w 0 rfl rfl 35 (by decide) wk_702 rfl hin rfl rfl rfl (by omega) dX8_init_229 (L' := (a, .inr (11, fs.set 35 (.ref q))) :: (L ++ [(q, eI cy 0 40)])) rfl (fun H locs w => ?_)
  exact k q H locs w
theorem md_232 (B : mB p s m args meth c R) (fs : List Value) (hfs : 40 = fs.length) (L : va_W) (w : CB D cy A s ((a, .inr (11, fs)) :: L) H locs) (hl : lv_has ls 5 [(0, .ref a)])
    (k : ∀ (q : Nat) (H : Heap) (locs : List Loc), CB D cy A s ((a, .inr (11, fs.set 36 (.ref q))) :: (L ++ [(q, eI cy 0 1600)])) H locs → W p l e R s m args below meth c H locs 29 21009 Q (F0 m 241 ls [])) : W p l e R s m args below meth c H locs 28 19409 Q (F0 m 232 ls []) := by
  obtain ⟨hx, hbc, hg, hown, hml, hin, rfl⟩ := B
  refine lv_aload_n hx hbc dX8_init_232 rfl (lv_at hl 0 rfl) ?_
  refine lv_sipush (v := nI 1600) hx hbc dX8_init_233 (by decide) ?_
  refine cb_newI (n := 1600) hx hbc hg wk_72 w (by decide) (Nat.le_of_ble_eq_true rfl) (Nat.le_of_ble_eq_true rfl) dX8_init_236 (fun q H w => ?_)
  refine cb_putF (v := .ref q) hx hbc hg inG_X8 tyX8 tyX8_ok nmX8 hown w 0 rfl rfl 36 (by decide) wk_703 rfl hin rfl rfl rfl (by omega) dX8_init_238 (L' := (a, .inr (11, fs.set 36 (.ref q))) :: (L ++ [(q, eI cy 0 1600)])) rfl (fun H locs w => ?_)
  exact k q H locs w
theorem md_241 (B : mB p s m args meth c R) (fs : List Value) (hfs : 40 = fs.length) (L : va_W) (w : CB D cy A s ((a, .inr (11, fs)) :: L) H locs) (hl : lv_has ls 5 [(0, .ref a)])
    (k : ∀ (q : Nat) (H : Heap) (locs : List Loc), CB D cy A s ((a, .inr (11, fs.set 37 (.ref q))) :: (L ++ [(q, eI cy 0 40)])) H locs → W p l e R s m args below meth c H locs 30 21049 Q (F0 m 249 ls [])) : W p l e R s m args below meth c H locs 29 21009 Q (F0 m 241 ls []) := by
  obtain ⟨hx, hbc, hg, hown, hml, hin, rfl⟩ := B
  refine lv_aload_n hx hbc dX8_init_241 rfl (lv_at hl 0 rfl) ?_
  refine lv_bipush (v := nI 40) hx hbc dX8_init_242 (by decide) ?_
  refine cb_newI (n := 40) hx hbc hg wk_72 w (by decide) (Nat.le_of_ble_eq_true rfl) (Nat.le_of_ble_eq_true rfl) dX8_init_244 (fun q H w => ?_)
  refine cb_putF (v := .ref q) hx hbc hg inG_X8 tyX8 tyX8_ok nmX8 hown w 0 rfl rfl 37 (by decide) wk_704 rfl hin rfl rfl rfl (by omega) dX8_init_246 (L' := (a, .inr (11, fs.set 37 (.ref q))) :: (L ++ [(q, eI cy 0 40)])) rfl (fun H locs w => ?_)
  exact k q H locs w
end MD
def adM (a q1 q2 q3 q4 q5 q6 q7 q8 q9 q10 q11 q12 q13 q14 q15 q16 q17 q18 q19 q20 q21 q22 q23 q24 q25 q26 q27 q28 q29 q30 : Nat) : Nat → Nat := fun i => match i with
  | 0 => a
  | 1 => q1
  | 2 => q2
  | 3 => q3
  | 4 => q4
  | 5 => q5
  | 6 => q6
  | 7 => q7
  | 8 => q8
  | 9 => q9
  | 10 => q10
  | 11 => q11
  | 12 => q12
  | 13 => q13
  | 14 => q14
  | 15 => q15
  | 16 => q16
  | 17 => q17
  | 18 => q18
  | 19 => q19
  | 20 => q20
  | 21 => q21
  | 22 => q22
  | 23 => q23
  | 24 => q24
  | 25 => q25
  | 26 => q26
  | 27 => q27
  | 28 => q28
  | 29 => q29
  | 30 => q30
  | _ => 0
theorem adM_1 (a q1 q2 q3 q4 q5 q6 q7 q8 q9 q10 q11 q12 q13 q14 q15 q16 q17 q18 q19 q20 q21 q22 q23 q24 q25 q26 q27 q28 q29 q30 : Nat) : adM a q1 q2 q3 q4 q5 q6 q7 q8 q9 q10 q11 q12 q13 q14 q15 q16 q17 q18 q19 q20 q21 q22 q23 q24 q25 q26 q27 q28 q29 q30 1 = q1 := rfl
theorem adM_2 (a q1 q2 q3 q4 q5 q6 q7 q8 q9 q10 q11 q12 q13 q14 q15 q16 q17 q18 q19 q20 q21 q22 q23 q24 q25 q26 q27 q28 q29 q30 : Nat) : adM a q1 q2 q3 q4 q5 q6 q7 q8 q9 q10 q11 q12 q13 q14 q15 q16 q17 q18 q19 q20 q21 q22 q23 q24 q25 q26 q27 q28 q29 q30 2 = q2 := rfl
theorem adM_3 (a q1 q2 q3 q4 q5 q6 q7 q8 q9 q10 q11 q12 q13 q14 q15 q16 q17 q18 q19 q20 q21 q22 q23 q24 q25 q26 q27 q28 q29 q30 : Nat) : adM a q1 q2 q3 q4 q5 q6 q7 q8 q9 q10 q11 q12 q13 q14 q15 q16 q17 q18 q19 q20 q21 q22 q23 q24 q25 q26 q27 q28 q29 q30 3 = q3 := rfl
theorem adM_4 (a q1 q2 q3 q4 q5 q6 q7 q8 q9 q10 q11 q12 q13 q14 q15 q16 q17 q18 q19 q20 q21 q22 q23 q24 q25 q26 q27 q28 q29 q30 : Nat) : adM a q1 q2 q3 q4 q5 q6 q7 q8 q9 q10 q11 q12 q13 q14 q15 q16 q17 q18 q19 q20 q21 q22 q23 q24 q25 q26 q27 q28 q29 q30 4 = q4 := rfl
theorem adM_5 (a q1 q2 q3 q4 q5 q6 q7 q8 q9 q10 q11 q12 q13 q14 q15 q16 q17 q18 q19 q20 q21 q22 q23 q24 q25 q26 q27 q28 q29 q30 : Nat) : adM a q1 q2 q3 q4 q5 q6 q7 q8 q9 q10 q11 q12 q13 q14 q15 q16 q17 q18 q19 q20 q21 q22 q23 q24 q25 q26 q27 q28 q29 q30 5 = q5 := rfl
theorem adM_6 (a q1 q2 q3 q4 q5 q6 q7 q8 q9 q10 q11 q12 q13 q14 q15 q16 q17 q18 q19 q20 q21 q22 q23 q24 q25 q26 q27 q28 q29 q30 : Nat) : adM a q1 q2 q3 q4 q5 q6 q7 q8 q9 q10 q11 q12 q13 q14 q15 q16 q17 q18 q19 q20 q21 q22 q23 q24 q25 q26 q27 q28 q29 q30 6 = q6 := rfl
theorem adM_7 (a q1 q2 q3 q4 q5 q6 q7 q8 q9 q10 q11 q12 q13 q14 q15 q16 q17 q18 q19 q20 q21 q22 q23 q24 q25 q26 q27 q28 q29 q30 : Nat) : adM a q1 q2 q3 q4 q5 q6 q7 q8 q9 q10 q11 q12 q13 q14 q15 q16 q17 q18 q19 q20 q21 q22 q23 q24 q25 q26 q27 q28 q29 q30 7 = q7 := rfl
theorem adM_8 (a q1 q2 q3 q4 q5 q6 q7 q8 q9 q10 q11 q12 q13 q14 q15 q16 q17 q18 q19 q20 q21 q22 q23 q24 q25 q26 q27 q28 q29 q30 : Nat) : adM a q1 q2 q3 q4 q5 q6 q7 q8 q9 q10 q11 q12 q13 q14 q15 q16 q17 q18 q19 q20 q21 q22 q23 q24 q25 q26 q27 q28 q29 q30 8 = q8 := rfl
theorem adM_9 (a q1 q2 q3 q4 q5 q6 q7 q8 q9 q10 q11 q12 q13 q14 q15 q16 q17 q18 q19 q20 q21 q22 q23 q24 q25 q26 q27 q28 q29 q30 : Nat) : adM a q1 q2 q3 q4 q5 q6 q7 q8 q9 q10 q11 q12 q13 q14 q15 q16 q17 q18 q19 q20 q21 q22 q23 q24 q25 q26 q27 q28 q29 q30 9 = q9 := rfl
theorem adM_10 (a q1 q2 q3 q4 q5 q6 q7 q8 q9 q10 q11 q12 q13 q14 q15 q16 q17 q18 q19 q20 q21 q22 q23 q24 q25 q26 q27 q28 q29 q30 : Nat) : adM a q1 q2 q3 q4 q5 q6 q7 q8 q9 q10 q11 q12 q13 q14 q15 q16 q17 q18 q19 q20 q21 q22 q23 q24 q25 q26 q27 q28 q29 q30 10 = q10 := rfl
theorem adM_11 (a q1 q2 q3 q4 q5 q6 q7 q8 q9 q10 q11 q12 q13 q14 q15 q16 q17 q18 q19 q20 q21 q22 q23 q24 q25 q26 q27 q28 q29 q30 : Nat) : adM a q1 q2 q3 q4 q5 q6 q7 q8 q9 q10 q11 q12 q13 q14 q15 q16 q17 q18 q19 q20 q21 q22 q23 q24 q25 q26 q27 q28 q29 q30 11 = q11 := rfl
theorem adM_12 (a q1 q2 q3 q4 q5 q6 q7 q8 q9 q10 q11 q12 q13 q14 q15 q16 q17 q18 q19 q20 q21 q22 q23 q24 q25 q26 q27 q28 q29 q30 : Nat) : adM a q1 q2 q3 q4 q5 q6 q7 q8 q9 q10 q11 q12 q13 q14 q15 q16 q17 q18 q19 q20 q21 q22 q23 q24 q25 q26 q27 q28 q29 q30 12 = q12 := rfl
theorem adM_13 (a q1 q2 q3 q4 q5 q6 q7 q8 q9 q10 q11 q12 q13 q14 q15 q16 q17 q18 q19 q20 q21 q22 q23 q24 q25 q26 q27 q28 q29 q30 : Nat) : adM a q1 q2 q3 q4 q5 q6 q7 q8 q9 q10 q11 q12 q13 q14 q15 q16 q17 q18 q19 q20 q21 q22 q23 q24 q25 q26 q27 q28 q29 q30 13 = q13 := rfl
theorem adM_14 (a q1 q2 q3 q4 q5 q6 q7 q8 q9 q10 q11 q12 q13 q14 q15 q16 q17 q18 q19 q20 q21 q22 q23 q24 q25 q26 q27 q28 q29 q30 : Nat) : adM a q1 q2 q3 q4 q5 q6 q7 q8 q9 q10 q11 q12 q13 q14 q15 q16 q17 q18 q19 q20 q21 q22 q23 q24 q25 q26 q27 q28 q29 q30 14 = q14 := rfl
theorem adM_15 (a q1 q2 q3 q4 q5 q6 q7 q8 q9 q10 q11 q12 q13 q14 q15 q16 q17 q18 q19 q20 q21 q22 q23 q24 q25 q26 q27 q28 q29 q30 : Nat) : adM a q1 q2 q3 q4 q5 q6 q7 q8 q9 q10 q11 q12 q13 q14 q15 q16 q17 q18 q19 q20 q21 q22 q23 q24 q25 q26 q27 q28 q29 q30 15 = q15 := rfl
theorem adM_16 (a q1 q2 q3 q4 q5 q6 q7 q8 q9 q10 q11 q12 q13 q14 q15 q16 q17 q18 q19 q20 q21 q22 q23 q24 q25 q26 q27 q28 q29 q30 : Nat) : adM a q1 q2 q3 q4 q5 q6 q7 q8 q9 q10 q11 q12 q13 q14 q15 q16 q17 q18 q19 q20 q21 q22 q23 q24 q25 q26 q27 q28 q29 q30 16 = q16 := rfl
theorem adM_17 (a q1 q2 q3 q4 q5 q6 q7 q8 q9 q10 q11 q12 q13 q14 q15 q16 q17 q18 q19 q20 q21 q22 q23 q24 q25 q26 q27 q28 q29 q30 : Nat) : adM a q1 q2 q3 q4 q5 q6 q7 q8 q9 q10 q11 q12 q13 q14 q15 q16 q17 q18 q19 q20 q21 q22 q23 q24 q25 q26 q27 q28 q29 q30 17 = q17 := rfl
theorem adM_18 (a q1 q2 q3 q4 q5 q6 q7 q8 q9 q10 q11 q12 q13 q14 q15 q16 q17 q18 q19 q20 q21 q22 q23 q24 q25 q26 q27 q28 q29 q30 : Nat) : adM a q1 q2 q3 q4 q5 q6 q7 q8 q9 q10 q11 q12 q13 q14 q15 q16 q17 q18 q19 q20 q21 q22 q23 q24 q25 q26 q27 q28 q29 q30 18 = q18 := rfl
theorem adM_19 (a q1 q2 q3 q4 q5 q6 q7 q8 q9 q10 q11 q12 q13 q14 q15 q16 q17 q18 q19 q20 q21 q22 q23 q24 q25 q26 q27 q28 q29 q30 : Nat) : adM a q1 q2 q3 q4 q5 q6 q7 q8 q9 q10 q11 q12 q13 q14 q15 q16 q17 q18 q19 q20 q21 q22 q23 q24 q25 q26 q27 q28 q29 q30 19 = q19 := rfl
theorem adM_20 (a q1 q2 q3 q4 q5 q6 q7 q8 q9 q10 q11 q12 q13 q14 q15 q16 q17 q18 q19 q20 q21 q22 q23 q24 q25 q26 q27 q28 q29 q30 : Nat) : adM a q1 q2 q3 q4 q5 q6 q7 q8 q9 q10 q11 q12 q13 q14 q15 q16 q17 q18 q19 q20 q21 q22 q23 q24 q25 q26 q27 q28 q29 q30 20 = q20 := rfl
theorem adM_21 (a q1 q2 q3 q4 q5 q6 q7 q8 q9 q10 q11 q12 q13 q14 q15 q16 q17 q18 q19 q20 q21 q22 q23 q24 q25 q26 q27 q28 q29 q30 : Nat) : adM a q1 q2 q3 q4 q5 q6 q7 q8 q9 q10 q11 q12 q13 q14 q15 q16 q17 q18 q19 q20 q21 q22 q23 q24 q25 q26 q27 q28 q29 q30 21 = q21 := rfl
theorem adM_22 (a q1 q2 q3 q4 q5 q6 q7 q8 q9 q10 q11 q12 q13 q14 q15 q16 q17 q18 q19 q20 q21 q22 q23 q24 q25 q26 q27 q28 q29 q30 : Nat) : adM a q1 q2 q3 q4 q5 q6 q7 q8 q9 q10 q11 q12 q13 q14 q15 q16 q17 q18 q19 q20 q21 q22 q23 q24 q25 q26 q27 q28 q29 q30 22 = q22 := rfl
theorem adM_23 (a q1 q2 q3 q4 q5 q6 q7 q8 q9 q10 q11 q12 q13 q14 q15 q16 q17 q18 q19 q20 q21 q22 q23 q24 q25 q26 q27 q28 q29 q30 : Nat) : adM a q1 q2 q3 q4 q5 q6 q7 q8 q9 q10 q11 q12 q13 q14 q15 q16 q17 q18 q19 q20 q21 q22 q23 q24 q25 q26 q27 q28 q29 q30 23 = q23 := rfl
theorem adM_24 (a q1 q2 q3 q4 q5 q6 q7 q8 q9 q10 q11 q12 q13 q14 q15 q16 q17 q18 q19 q20 q21 q22 q23 q24 q25 q26 q27 q28 q29 q30 : Nat) : adM a q1 q2 q3 q4 q5 q6 q7 q8 q9 q10 q11 q12 q13 q14 q15 q16 q17 q18 q19 q20 q21 q22 q23 q24 q25 q26 q27 q28 q29 q30 24 = q24 := rfl
theorem adM_25 (a q1 q2 q3 q4 q5 q6 q7 q8 q9 q10 q11 q12 q13 q14 q15 q16 q17 q18 q19 q20 q21 q22 q23 q24 q25 q26 q27 q28 q29 q30 : Nat) : adM a q1 q2 q3 q4 q5 q6 q7 q8 q9 q10 q11 q12 q13 q14 q15 q16 q17 q18 q19 q20 q21 q22 q23 q24 q25 q26 q27 q28 q29 q30 25 = q25 := rfl
theorem adM_26 (a q1 q2 q3 q4 q5 q6 q7 q8 q9 q10 q11 q12 q13 q14 q15 q16 q17 q18 q19 q20 q21 q22 q23 q24 q25 q26 q27 q28 q29 q30 : Nat) : adM a q1 q2 q3 q4 q5 q6 q7 q8 q9 q10 q11 q12 q13 q14 q15 q16 q17 q18 q19 q20 q21 q22 q23 q24 q25 q26 q27 q28 q29 q30 26 = q26 := rfl
theorem adM_27 (a q1 q2 q3 q4 q5 q6 q7 q8 q9 q10 q11 q12 q13 q14 q15 q16 q17 q18 q19 q20 q21 q22 q23 q24 q25 q26 q27 q28 q29 q30 : Nat) : adM a q1 q2 q3 q4 q5 q6 q7 q8 q9 q10 q11 q12 q13 q14 q15 q16 q17 q18 q19 q20 q21 q22 q23 q24 q25 q26 q27 q28 q29 q30 27 = q27 := rfl
theorem adM_28 (a q1 q2 q3 q4 q5 q6 q7 q8 q9 q10 q11 q12 q13 q14 q15 q16 q17 q18 q19 q20 q21 q22 q23 q24 q25 q26 q27 q28 q29 q30 : Nat) : adM a q1 q2 q3 q4 q5 q6 q7 q8 q9 q10 q11 q12 q13 q14 q15 q16 q17 q18 q19 q20 q21 q22 q23 q24 q25 q26 q27 q28 q29 q30 28 = q28 := rfl
theorem adM_29 (a q1 q2 q3 q4 q5 q6 q7 q8 q9 q10 q11 q12 q13 q14 q15 q16 q17 q18 q19 q20 q21 q22 q23 q24 q25 q26 q27 q28 q29 q30 : Nat) : adM a q1 q2 q3 q4 q5 q6 q7 q8 q9 q10 q11 q12 q13 q14 q15 q16 q17 q18 q19 q20 q21 q22 q23 q24 q25 q26 q27 q28 q29 q30 29 = q29 := rfl
theorem adM_30 (a q1 q2 q3 q4 q5 q6 q7 q8 q9 q10 q11 q12 q13 q14 q15 q16 q17 q18 q19 q20 q21 q22 q23 q24 q25 q26 q27 q28 q29 q30 : Nat) : adM a q1 q2 q3 q4 q5 q6 q7 q8 q9 q10 q11 q12 q13 q14 q15 q16 q17 q18 q19 q20 q21 q22 q23 q24 q25 q26 q27 q28 q29 q30 30 = q30 := rfl
theorem fs_go {ad : Nat → Nat} {v : Nat → Int32} (fs : List (Option Nat)) (k : Nat) : fs.mapIdx (fun i => wFv ad v (i + k)) = (fs.zipIdx k).map (fun q => wFv ad v q.2 q.1) := by
  apply List.ext_getElem?
  intro j
  rw [List.getElem?_mapIdx, List.getElem?_map, List.getElem?_zipIdx, Option.map_map]
  cases fs[j]? with
  | none => rfl
  | some o => simp [Nat.add_comm]
set_option maxHeartbeats 2000000 in
set_option maxRecDepth 100000 in
theorem MD_0 (cy : Nat → ClassId) (a q1 q2 q3 q4 q5 q6 q7 q8 q9 q10 q11 q12 q13 q14 q15 q16 q17 q18 q19 q20 q21 q22 q23 q24 q25 q26 q27 q28 q29 q30 : Nat) : wC cy (adM a q1 q2 q3 q4 q5 q6 q7 q8 q9 q10 q11 q12 q13 q14 q15 q16 q17 q18 q19 q20 q21 q22 q23 q24 q25 q26 q27 q28 q29 q30) skM Z0 0 = .inr (11, [.int 0, .ref q1, .ref q2, .ref q3, .ref q4, .ref q5, .ref q6, .ref q7, .int 0, .ref q8, .ref q9, .int 0, .int 0, .ref q10, .int 0, .ref q11, .int 0, .ref q12, .ref q13, .ref q14, .ref q15, .ref q16, .ref q17, .ref q18, .ref q19, .ref q20, .ref q21, .ref q22, .ref q23, .ref q24, .ref q25, .ref q26, .int 0, .ref q27, .int 0, .ref q28, .ref q29, .ref q30, .int 0, .int 0]) := by
  rw [wC_o (ci := 11) (fs := [none, some 1, some 2, some 3, some 4, some 5, some 6, some 7, none, some 8, some 9, none, none, some 10, none, some 11, none, some 12, some 13, some 14, some 15, some 16, some 17, some 18, some 19, some 20, some 21, some 22, some 23, some 24, some 25, some 26, none, some 27, none, some 28, some 29, some 30, none, none]) rfl]
  have e : ∀ fs : List (Option Nat), wFs (adM a q1 q2 q3 q4 q5 q6 q7 q8 q9 q10 q11 q12 q13 q14 q15 q16 q17 q18 q19 q20 q21 q22 q23 q24 q25 q26 q27 q28 q29 q30) (Z0.1 0) fs = (fs.zipIdx 0).map (fun q => wFv (adM a q1 q2 q3 q4 q5 q6 q7 q8 q9 q10 q11 q12 q13 q14 q15 q16 q17 q18 q19 q20 q21 q22 q23 q24 q25 q26 q27 q28 q29 q30) (Z0.1 0) q.2 q.1) := fun fs => fs_go fs 0
  rw [e]
  rfl
theorem MD_1 (cy : Nat → ClassId) (a q1 q2 q3 q4 q5 q6 q7 q8 q9 q10 q11 q12 q13 q14 q15 q16 q17 q18 q19 q20 q21 q22 q23 q24 q25 q26 q27 q28 q29 q30 : Nat) : wC cy (adM a q1 q2 q3 q4 q5 q6 q7 q8 q9 q10 q11 q12 q13 q14 q15 q16 q17 q18 q19 q20 q21 q22 q23 q24 q25 q26 q27 q28 q29 q30) skM Z0 1 = eI cy 0 64 := wC_i rfl (by decide)
theorem MD_2 (cy : Nat → ClassId) (a q1 q2 q3 q4 q5 q6 q7 q8 q9 q10 q11 q12 q13 q14 q15 q16 q17 q18 q19 q20 q21 q22 q23 q24 q25 q26 q27 q28 q29 q30 : Nat) : wC cy (adM a q1 q2 q3 q4 q5 q6 q7 q8 q9 q10 q11 q12 q13 q14 q15 q16 q17 q18 q19 q20 q21 q22 q23 q24 q25 q26 q27 q28 q29 q30) skM Z0 2 = eI cy 0 8 := wC_i rfl (by decide)
theorem MD_3 (cy : Nat → ClassId) (a q1 q2 q3 q4 q5 q6 q7 q8 q9 q10 q11 q12 q13 q14 q15 q16 q17 q18 q19 q20 q21 q22 q23 q24 q25 q26 q27 q28 q29 q30 : Nat) : wC cy (adM a q1 q2 q3 q4 q5 q6 q7 q8 q9 q10 q11 q12 q13 q14 q15 q16 q17 q18 q19 q20 q21 q22 q23 q24 q25 q26 q27 q28 q29 q30) skM Z0 3 = eI cy 0 8 := wC_i rfl (by decide)
theorem MD_4 (cy : Nat → ClassId) (a q1 q2 q3 q4 q5 q6 q7 q8 q9 q10 q11 q12 q13 q14 q15 q16 q17 q18 q19 q20 q21 q22 q23 q24 q25 q26 q27 q28 q29 q30 : Nat) : wC cy (adM a q1 q2 q3 q4 q5 q6 q7 q8 q9 q10 q11 q12 q13 q14 q15 q16 q17 q18 q19 q20 q21 q22 q23 q24 q25 q26 q27 q28 q29 q30) skM Z0 4 = eJ cy 16 := wC_l rfl
theorem MD_5 (cy : Nat → ClassId) (a q1 q2 q3 q4 q5 q6 q7 q8 q9 q10 q11 q12 q13 q14 q15 q16 q17 q18 q19 q20 q21 q22 q23 q24 q25 q26 q27 q28 q29 q30 : Nat) : wC cy (adM a q1 q2 q3 q4 q5 q6 q7 q8 q9 q10 q11 q12 q13 q14 q15 q16 q17 q18 q19 q20 q21 q22 q23 q24 q25 q26 q27 q28 q29 q30) skM Z0 5 = eJ cy 16 := wC_l rfl
theorem MD_6 (cy : Nat → ClassId) (a q1 q2 q3 q4 q5 q6 q7 q8 q9 q10 q11 q12 q13 q14 q15 q16 q17 q18 q19 q20 q21 q22 q23 q24 q25 q26 q27 q28 q29 q30 : Nat) : wC cy (adM a q1 q2 q3 q4 q5 q6 q7 q8 q9 q10 q11 q12 q13 q14 q15 q16 q17 q18 q19 q20 q21 q22 q23 q24 q25 q26 q27 q28 q29 q30) skM Z0 6 = eJ cy 16 := wC_l rfl
theorem MD_7 (cy : Nat → ClassId) (a q1 q2 q3 q4 q5 q6 q7 q8 q9 q10 q11 q12 q13 q14 q15 q16 q17 q18 q19 q20 q21 q22 q23 q24 q25 q26 q27 q28 q29 q30 : Nat) : wC cy (adM a q1 q2 q3 q4 q5 q6 q7 q8 q9 q10 q11 q12 q13 q14 q15 q16 q17 q18 q19 q20 q21 q22 q23 q24 q25 q26 q27 q28 q29 q30) skM Z0 7 = eI cy 0 2400 := wC_i rfl (by decide)
theorem MD_8 (cy : Nat → ClassId) (a q1 q2 q3 q4 q5 q6 q7 q8 q9 q10 q11 q12 q13 q14 q15 q16 q17 q18 q19 q20 q21 q22 q23 q24 q25 q26 q27 q28 q29 q30 : Nat) : wC cy (adM a q1 q2 q3 q4 q5 q6 q7 q8 q9 q10 q11 q12 q13 q14 q15 q16 q17 q18 q19 q20 q21 q22 q23 q24 q25 q26 q27 q28 q29 q30) skM Z0 8 = eI cy 0 8 := wC_i rfl (by decide)
theorem MD_9 (cy : Nat → ClassId) (a q1 q2 q3 q4 q5 q6 q7 q8 q9 q10 q11 q12 q13 q14 q15 q16 q17 q18 q19 q20 q21 q22 q23 q24 q25 q26 q27 q28 q29 q30 : Nat) : wC cy (adM a q1 q2 q3 q4 q5 q6 q7 q8 q9 q10 q11 q12 q13 q14 q15 q16 q17 q18 q19 q20 q21 q22 q23 q24 q25 q26 q27 q28 q29 q30) skM Z0 9 = eI cy 0 64 := wC_i rfl (by decide)
theorem MD_10 (cy : Nat → ClassId) (a q1 q2 q3 q4 q5 q6 q7 q8 q9 q10 q11 q12 q13 q14 q15 q16 q17 q18 q19 q20 q21 q22 q23 q24 q25 q26 q27 q28 q29 q30 : Nat) : wC cy (adM a q1 q2 q3 q4 q5 q6 q7 q8 q9 q10 q11 q12 q13 q14 q15 q16 q17 q18 q19 q20 q21 q22 q23 q24 q25 q26 q27 q28 q29 q30) skM Z0 10 = eI cy 0 200 := wC_i rfl (by decide)
theorem MD_11 (cy : Nat → ClassId) (a q1 q2 q3 q4 q5 q6 q7 q8 q9 q10 q11 q12 q13 q14 q15 q16 q17 q18 q19 q20 q21 q22 q23 q24 q25 q26 q27 q28 q29 q30 : Nat) : wC cy (adM a q1 q2 q3 q4 q5 q6 q7 q8 q9 q10 q11 q12 q13 q14 q15 q16 q17 q18 q19 q20 q21 q22 q23 q24 q25 q26 q27 q28 q29 q30) skM Z0 11 = eI cy 0 200 := wC_i rfl (by decide)
theorem MD_12 (cy : Nat → ClassId) (a q1 q2 q3 q4 q5 q6 q7 q8 q9 q10 q11 q12 q13 q14 q15 q16 q17 q18 q19 q20 q21 q22 q23 q24 q25 q26 q27 q28 q29 q30 : Nat) : wC cy (adM a q1 q2 q3 q4 q5 q6 q7 q8 q9 q10 q11 q12 q13 q14 q15 q16 q17 q18 q19 q20 q21 q22 q23 q24 q25 q26 q27 q28 q29 q30) skM Z0 12 = eI cy 0 60 := wC_i rfl (by decide)
theorem MD_13 (cy : Nat → ClassId) (a q1 q2 q3 q4 q5 q6 q7 q8 q9 q10 q11 q12 q13 q14 q15 q16 q17 q18 q19 q20 q21 q22 q23 q24 q25 q26 q27 q28 q29 q30 : Nat) : wC cy (adM a q1 q2 q3 q4 q5 q6 q7 q8 q9 q10 q11 q12 q13 q14 q15 q16 q17 q18 q19 q20 q21 q22 q23 q24 q25 q26 q27 q28 q29 q30) skM Z0 13 = eI cy 0 60 := wC_i rfl (by decide)
theorem MD_14 (cy : Nat → ClassId) (a q1 q2 q3 q4 q5 q6 q7 q8 q9 q10 q11 q12 q13 q14 q15 q16 q17 q18 q19 q20 q21 q22 q23 q24 q25 q26 q27 q28 q29 q30 : Nat) : wC cy (adM a q1 q2 q3 q4 q5 q6 q7 q8 q9 q10 q11 q12 q13 q14 q15 q16 q17 q18 q19 q20 q21 q22 q23 q24 q25 q26 q27 q28 q29 q30) skM Z0 14 = eI cy 0 1920 := wC_i rfl (by decide)
theorem MD_15 (cy : Nat → ClassId) (a q1 q2 q3 q4 q5 q6 q7 q8 q9 q10 q11 q12 q13 q14 q15 q16 q17 q18 q19 q20 q21 q22 q23 q24 q25 q26 q27 q28 q29 q30 : Nat) : wC cy (adM a q1 q2 q3 q4 q5 q6 q7 q8 q9 q10 q11 q12 q13 q14 q15 q16 q17 q18 q19 q20 q21 q22 q23 q24 q25 q26 q27 q28 q29 q30) skM Z0 15 = eI cy 0 3840 := wC_i rfl (by decide)
theorem MD_16 (cy : Nat → ClassId) (a q1 q2 q3 q4 q5 q6 q7 q8 q9 q10 q11 q12 q13 q14 q15 q16 q17 q18 q19 q20 q21 q22 q23 q24 q25 q26 q27 q28 q29 q30 : Nat) : wC cy (adM a q1 q2 q3 q4 q5 q6 q7 q8 q9 q10 q11 q12 q13 q14 q15 q16 q17 q18 q19 q20 q21 q22 q23 q24 q25 q26 q27 q28 q29 q30) skM Z0 16 = eI cy 0 320 := wC_i rfl (by decide)
theorem MD_17 (cy : Nat → ClassId) (a q1 q2 q3 q4 q5 q6 q7 q8 q9 q10 q11 q12 q13 q14 q15 q16 q17 q18 q19 q20 q21 q22 q23 q24 q25 q26 q27 q28 q29 q30 : Nat) : wC cy (adM a q1 q2 q3 q4 q5 q6 q7 q8 q9 q10 q11 q12 q13 q14 q15 q16 q17 q18 q19 q20 q21 q22 q23 q24 q25 q26 q27 q28 q29 q30) skM Z0 17 = eI cy 0 5 := wC_i rfl (by decide)
theorem MD_18 (cy : Nat → ClassId) (a q1 q2 q3 q4 q5 q6 q7 q8 q9 q10 q11 q12 q13 q14 q15 q16 q17 q18 q19 q20 q21 q22 q23 q24 q25 q26 q27 q28 q29 q30 : Nat) : wC cy (adM a q1 q2 q3 q4 q5 q6 q7 q8 q9 q10 q11 q12 q13 q14 q15 q16 q17 q18 q19 q20 q21 q22 q23 q24 q25 q26 q27 q28 q29 q30) skM Z0 18 = eI cy 0 8000 := wC_i rfl (by decide)
theorem MD_19 (cy : Nat → ClassId) (a q1 q2 q3 q4 q5 q6 q7 q8 q9 q10 q11 q12 q13 q14 q15 q16 q17 q18 q19 q20 q21 q22 q23 q24 q25 q26 q27 q28 q29 q30 : Nat) : wC cy (adM a q1 q2 q3 q4 q5 q6 q7 q8 q9 q10 q11 q12 q13 q14 q15 q16 q17 q18 q19 q20 q21 q22 q23 q24 q25 q26 q27 q28 q29 q30) skM Z0 19 = eI cy 0 4 := wC_i rfl (by decide)
theorem MD_20 (cy : Nat → ClassId) (a q1 q2 q3 q4 q5 q6 q7 q8 q9 q10 q11 q12 q13 q14 q15 q16 q17 q18 q19 q20 q21 q22 q23 q24 q25 q26 q27 q28 q29 q30 : Nat) : wC cy (adM a q1 q2 q3 q4 q5 q6 q7 q8 q9 q10 q11 q12 q13 q14 q15 q16 q17 q18 q19 q20 q21 q22 q23 q24 q25 q26 q27 q28 q29 q30) skM Z0 20 = eI cy 0 4 := wC_i rfl (by decide)
theorem MD_21 (cy : Nat → ClassId) (a q1 q2 q3 q4 q5 q6 q7 q8 q9 q10 q11 q12 q13 q14 q15 q16 q17 q18 q19 q20 q21 q22 q23 q24 q25 q26 q27 q28 q29 q30 : Nat) : wC cy (adM a q1 q2 q3 q4 q5 q6 q7 q8 q9 q10 q11 q12 q13 q14 q15 q16 q17 q18 q19 q20 q21 q22 q23 q24 q25 q26 q27 q28 q29 q30) skM Z0 21 = eI cy 0 8 := wC_i rfl (by decide)
theorem MD_22 (cy : Nat → ClassId) (a q1 q2 q3 q4 q5 q6 q7 q8 q9 q10 q11 q12 q13 q14 q15 q16 q17 q18 q19 q20 q21 q22 q23 q24 q25 q26 q27 q28 q29 q30 : Nat) : wC cy (adM a q1 q2 q3 q4 q5 q6 q7 q8 q9 q10 q11 q12 q13 q14 q15 q16 q17 q18 q19 q20 q21 q22 q23 q24 q25 q26 q27 q28 q29 q30) skM Z0 22 = eI cy 0 4 := wC_i rfl (by decide)
theorem MD_23 (cy : Nat → ClassId) (a q1 q2 q3 q4 q5 q6 q7 q8 q9 q10 q11 q12 q13 q14 q15 q16 q17 q18 q19 q20 q21 q22 q23 q24 q25 q26 q27 q28 q29 q30 : Nat) : wC cy (adM a q1 q2 q3 q4 q5 q6 q7 q8 q9 q10 q11 q12 q13 q14 q15 q16 q17 q18 q19 q20 q21 q22 q23 q24 q25 q26 q27 q28 q29 q30) skM Z0 23 = eI cy 0 48 := wC_i rfl (by decide)
theorem MD_24 (cy : Nat → ClassId) (a q1 q2 q3 q4 q5 q6 q7 q8 q9 q10 q11 q12 q13 q14 q15 q16 q17 q18 q19 q20 q21 q22 q23 q24 q25 q26 q27 q28 q29 q30 : Nat) : wC cy (adM a q1 q2 q3 q4 q5 q6 q7 q8 q9 q10 q11 q12 q13 q14 q15 q16 q17 q18 q19 q20 q21 q22 q23 q24 q25 q26 q27 q28 q29 q30) skM Z0 24 = eI cy 0 48 := wC_i rfl (by decide)
theorem MD_25 (cy : Nat → ClassId) (a q1 q2 q3 q4 q5 q6 q7 q8 q9 q10 q11 q12 q13 q14 q15 q16 q17 q18 q19 q20 q21 q22 q23 q24 q25 q26 q27 q28 q29 q30 : Nat) : wC cy (adM a q1 q2 q3 q4 q5 q6 q7 q8 q9 q10 q11 q12 q13 q14 q15 q16 q17 q18 q19 q20 q21 q22 q23 q24 q25 q26 q27 q28 q29 q30) skM Z0 25 = eI cy 0 1920 := wC_i rfl (by decide)
theorem MD_26 (cy : Nat → ClassId) (a q1 q2 q3 q4 q5 q6 q7 q8 q9 q10 q11 q12 q13 q14 q15 q16 q17 q18 q19 q20 q21 q22 q23 q24 q25 q26 q27 q28 q29 q30 : Nat) : wC cy (adM a q1 q2 q3 q4 q5 q6 q7 q8 q9 q10 q11 q12 q13 q14 q15 q16 q17 q18 q19 q20 q21 q22 q23 q24 q25 q26 q27 q28 q29 q30) skM Z0 26 = eI cy 0 96 := wC_i rfl (by decide)
theorem MD_27 (cy : Nat → ClassId) (a q1 q2 q3 q4 q5 q6 q7 q8 q9 q10 q11 q12 q13 q14 q15 q16 q17 q18 q19 q20 q21 q22 q23 q24 q25 q26 q27 q28 q29 q30 : Nat) : wC cy (adM a q1 q2 q3 q4 q5 q6 q7 q8 q9 q10 q11 q12 q13 q14 q15 q16 q17 q18 q19 q20 q21 q22 q23 q24 q25 q26 q27 q28 q29 q30) skM Z0 27 = eI cy 0 32 := wC_i rfl (by decide)
theorem MD_28 (cy : Nat → ClassId) (a q1 q2 q3 q4 q5 q6 q7 q8 q9 q10 q11 q12 q13 q14 q15 q16 q17 q18 q19 q20 q21 q22 q23 q24 q25 q26 q27 q28 q29 q30 : Nat) : wC cy (adM a q1 q2 q3 q4 q5 q6 q7 q8 q9 q10 q11 q12 q13 q14 q15 q16 q17 q18 q19 q20 q21 q22 q23 q24 q25 q26 q27 q28 q29 q30) skM Z0 28 = eI cy 0 40 := wC_i rfl (by decide)
theorem MD_29 (cy : Nat → ClassId) (a q1 q2 q3 q4 q5 q6 q7 q8 q9 q10 q11 q12 q13 q14 q15 q16 q17 q18 q19 q20 q21 q22 q23 q24 q25 q26 q27 q28 q29 q30 : Nat) : wC cy (adM a q1 q2 q3 q4 q5 q6 q7 q8 q9 q10 q11 q12 q13 q14 q15 q16 q17 q18 q19 q20 q21 q22 q23 q24 q25 q26 q27 q28 q29 q30) skM Z0 29 = eI cy 0 1600 := wC_i rfl (by decide)
theorem MD_30 (cy : Nat → ClassId) (a q1 q2 q3 q4 q5 q6 q7 q8 q9 q10 q11 q12 q13 q14 q15 q16 q17 q18 q19 q20 q21 q22 q23 q24 q25 q26 q27 q28 q29 q30 : Nat) : wC cy (adM a q1 q2 q3 q4 q5 q6 q7 q8 q9 q10 q11 q12 q13 q14 q15 q16 q17 q18 q19 q20 q21 q22 q23 q24 q25 q26 q27 q28 q29 q30) skM Z0 30 = eI cy 0 40 := wC_i rfl (by decide)
set_option maxRecDepth 100000 in
theorem MD_eq (cy : Nat → ClassId) (a q1 q2 q3 q4 q5 q6 q7 q8 q9 q10 q11 q12 q13 q14 q15 q16 q17 q18 q19 q20 q21 q22 q23 q24 q25 q26 q27 q28 q29 q30 : Nat) : ((a, .inr (11, [.int 0, .ref q1, .ref q2, .ref q3, .ref q4, .ref q5, .ref q6, .ref q7, .int 0, .ref q8, .ref q9, .int 0, .int 0, .ref q10, .int 0, .ref q11, .int 0, .ref q12, .ref q13, .ref q14, .ref q15, .ref q16, .ref q17, .ref q18, .ref q19, .ref q20, .ref q21, .ref q22, .ref q23, .ref q24, .ref q25, .ref q26, .int 0, .ref q27, .int 0, .ref q28, .ref q29, .ref q30, .int 0, .int 0])) :: [(q1, eI cy 0 64), (q2, eI cy 0 8), (q3, eI cy 0 8), (q4, eJ cy 16), (q5, eJ cy 16), (q6, eJ cy 16), (q7, eI cy 0 2400), (q8, eI cy 0 8), (q9, eI cy 0 64), (q10, eI cy 0 200), (q11, eI cy 0 200), (q12, eI cy 0 60), (q13, eI cy 0 60), (q14, eI cy 0 1920), (q15, eI cy 0 3840), (q16, eI cy 0 320), (q17, eI cy 0 5), (q18, eI cy 0 8000), (q19, eI cy 0 4), (q20, eI cy 0 4), (q21, eI cy 0 8), (q22, eI cy 0 4), (q23, eI cy 0 48), (q24, eI cy 0 48), (q25, eI cy 0 1920), (q26, eI cy 0 96), (q27, eI cy 0 32), (q28, eI cy 0 40), (q29, eI cy 0 1600), (q30, eI cy 0 40)] : va_W) = wW 31 cy (adM a q1 q2 q3 q4 q5 q6 q7 q8 q9 q10 q11 q12 q13 q14 q15 q16 q17 q18 q19 q20 q21 q22 q23 q24 q25 q26 q27 q28 q29 q30) skM Z0 := by
  unfold wW
  rw [show List.range 31 = [0, 1, 2, 3, 4, 5, 6, 7, 8, 9, 10, 11, 12, 13, 14, 15, 16, 17, 18, 19, 20, 21, 22, 23, 24, 25, 26, 27, 28, 29, 30] from rfl]
  simp only [List.map_cons, List.map_nil, MD_0, MD_1, MD_2, MD_3, MD_4, MD_5, MD_6, MD_7, MD_8, MD_9, MD_10, MD_11, MD_12, MD_13, MD_14, MD_15, MD_16, MD_17, MD_18, MD_19, MD_20, MD_21, MD_22, MD_23, MD_24, MD_25, MD_26, MD_27, MD_28, MD_29, MD_30]
  rfl
