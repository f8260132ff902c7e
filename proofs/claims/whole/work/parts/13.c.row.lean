/-! row: two exceptions -/
def atN : List Cond := (npxW "DigestTrees" 242).filter vx_no
theorem atN_in : (atN.filter goodWord).all (fun w => decide (w ∈ lw_tbl)) = true := by decide +kernel
theorem atN_bad : (atN.filter (fun w => !goodWord w)).all (fun w => decide (w ∈ dcA.map Cond.declares ++ [Cond.castable Bundle.rN Bundle.tN])) = true := by decide +kernel
theorem atN_ot : (Cond.classLink "DigestTrees" 238 Bundle.nN :: Cond.initialized Bundle.nN :: atN).all vx_ot = true := by decide +kernel
def EY (al sx : Nat → Nat) : (Nat → Prop) → State → Prop := fun A U => EX al sx A U ∧ va_Nw (.castable Bundle.rN Bundle.tN) U ∧ va_Nw (.castable Bundle.nN Bundle.nN) U ∧ va_Nc rnA Bundle.nN U
theorem EY_ok (al sx : Nat → Nat) : EOk (EY al sx) := ⟨fun A A' s U H locs h hU hS hW hA => ⟨(EX_ok al sx).1 A A' s U H locs h.1 hU hS hW hA, va_Nw.warmC hW h.2.1, va_Nw.warmC hW h.2.2.1, va_Nc.moved hW.alike h.2.2.2⟩,
  fun A U g mk v h => ⟨(EX_ok al sx).2 A U g mk v h.1, va_Nw.same rfl (u := U) (U := U.calling g mk v) rfl h.2.1, va_Nw.same rfl (u := U) (U := U.calling g mk v) rfl h.2.2.1, va_Nc.moved (u := U) (U := U.calling g mk v) (Vm.Alike.refl U.vm) h.2.2.2⟩⟩
theorem EY.all {al sx : Nat → Nat} {A : Nat → Prop} {args : Array Value} {s : State} (h : EY al sx A s) (hg : ∀ w ∈ wsG, w.before args s = true) : ∀ w ∈ atN, w.before args s = true := by
  refine vx_hat (B := dcA.map Cond.declares ++ [Cond.castable Bundle.rN Bundle.tN]) (fun w hw => ?_) (fun w hw => ?_) (fun w hw => ?_)
  · have h1 := List.all_eq_true.mp atN_in w hw
    exact hg w (wsG_in (of_decide_eq_true h1) (List.mem_filter.mp hw).2)
  · exact of_decide_eq_true (List.all_eq_true.mp atN_bad w hw)
  · rcases List.mem_append.mp hw with h1 | h1
    · obtain ⟨x, hx, rfl⟩ := List.mem_map.mp h1
      exact va_Nw.use rfl (h.1.2.2.2.1.1 x hx)
    · obtain rfl := List.mem_singleton.mp h1
      exact va_Nw.use rfl h.2.1
section CYR
variable {p : Program} {l : Launch} {e : Env} {R : Room} {s : State} {m : MethodId} {args : Array Value} {below : List Frame} {meth : Method} {c : Code} {H : Heap} {locs : List Loc}
variable {cc : ByteArray} {pc : Nat} {ls : Array Slot} {Qc : Array Value → State → Outcome → State → Prop}
variable {D : va_G} {tys : List (ClassId × FieldType)} {n : Nat} {cy : Nat → ClassId} {ad : Nat → Nat} {sk : Nat → wK} {A : Nat → Prop} {S S0 : wS}
theorem wb_thrN {px : String → wS → Prop} {al sx : Nat → Nat} {ns is : Nat} {tx : String} (hx : p.tables.exec = Jvm.exec) (hb : c.code = cc) (hl : l.stackTraces = false) (hg : ∀ w ∈ wsG, w.before args s = true) (hown : s.vm.findClass "DigestTrees" = some m.cls) (htab : ∀ x ∈ c.exceptionTable.toList, False) (hlk : meth.locks = false) (hE : EY al sx A s) (hA : A = va_A (wW n cy ad sk S0) s.heap.size) (w : WB D tys n cy ad sk A s S H locs) (hk : Cond.classLink "DigestTrees" 238 Bundle.nN ∈ wsG) (hini : Cond.initialized Bundle.nN ∈ wsG) (hp : px Bundle.nN S) (hs9 : (is, tx) ∈ sxL) (hls : ls.size = c.maxLocals)
    (d0 : decode cc pc = .ok (.new 238, 3)) (d3 : decode cc (pc + 3) = .ok (.dup, 1)) (d4 : decode cc (pc + 4) = .ok (.ldc is, 2)) (d6 : decode cc (pc + 6) = .ok (.invokespecial 242, 3)) (d9 : decode cc (pc + 9) = .ok (.athrow, 1)) (hRf : 6 < R.frames) (hRl : 96 ≤ R.locals) (hRc : 1 ≤ R.cells) (hRs : 8 ≤ R.slots) (hns : 8 ≤ ns) :
    W p l e R s m args below meth c H locs 0 0 (vx_MQ below Qc (wXC px D tys n cy ad sk S0 s.heap.size) args s 1 ns A) (F0 m pc ls []) := by
  refine vx_throwN (is := is) (ik := 238) (ic := 242) (text := tx) (A := A) hx hb hl hown (hg _ hk) (hg _ hini) (hE.1.2.2.2.2 _ hs9) (hE.all hg) (List.all_eq_true.mp atN_ot) hE.1.2.1 hE.1.2.2.1 w.2.2.2.1 hls d0 d3 d4 d6 d9 (fun x hx => (htab x hx).elim) hRf (by show 0 + 96 ≤ R.locals; omega) (by omega) (by omega) hlk (fun t ha h1 h2 => wXC_of hA w hp ha h1 h2) w.2.2.2.1.2.2 (by omega) (by omega)
end CYR
section SY
variable {l : Launch} {y : MethodName} {cc : ByteArray} {maxL fr lo ns : Nat} {av : List Value} {D : va_G} {tys : List (ClassId × FieldType)} {n : Nat} {cy : Nat → ClassId} {ad : Nat → Nat} {sk : Nat → wK} {al sx : Nat → Nat} {S : wS} {px : String → wS → Prop}
abbrev ThrN (p : Program) (l : Launch) (e : Env) (R : Room) (s : State) (m : MethodId) (args : Array Value) (below : List Frame) (meth : Method) (c : Code) (Q : State → Prop) (cc : ByteArray) (D : va_G) (tys : List (ClassId × FieldType)) (n : Nat) (cy : Nat → ClassId) (ad : Nat → Nat) (sk : Nat → wK) (A : Nat → Prop) (maxL : Nat) (px : String → wS → Prop) : Prop :=
  ∀ (S' : wS) (H : Heap) (locs : List Loc) (pc : Nat) (ls : Array Slot) (is : Nat) (tx : String), (is, tx) ∈ sxL → px Bundle.nN S' → WB D tys n cy ad sk A s S' H locs → ls.size = maxL → decode cc pc = .ok (.new 238, 3) → decode cc (pc + 3) = .ok (.dup, 1) → decode cc (pc + 4) = .ok (.ldc is, 2) → decode cc (pc + 6) = .ok (.invokespecial 242, 3) → decode cc (pc + 9) = .ok (.athrow, 1) → W p l e R s m args below meth c H locs 0 0 Q (F0 m pc ls [])
theorem CtYi_of {post : Int32 → wS → Prop} {rt : FieldType} (hl : l.stackTraces = false) (hyd : y.cls = "DigestTrees") (hy : plainName y.cls = true) (hlen : (lg_sl av).length ≤ maxL) (hfr : 7 ≤ fr) (hlo : 96 ≤ lo) (hns : 8 ≤ ns) (hk : Cond.classLink "DigestTrees" 135 rnA ∈ wsG) (hini : Cond.initialized rnA ∈ wsG) (hkN : Cond.classLink "DigestTrees" 238 Bundle.nN ∈ wsG) (hiniN : Cond.initialized Bundle.nN ∈ wsG)
    (body : ∀ (p : Program) (e : Env) (s : State) (m : MethodId) (args : Array Value) (below : List Frame) (meth : Method) (c : Code) (A : Nat → Prop) (ls : Array Slot) (R : Room) (Q : State → Prop), Bd p s m args meth c y.cls cc maxL (some rt) av D tys n cy ad sk (EY al sx) S A ls → R.frames = fr → R.locals = lo →
      (∀ (v : Int32) (S' : wS) (H : Heap) (locs : List Loc) (pc : Nat) (ls : Array Slot), post v S' → narrow rt (.int v) = .int v → WB D tys n cy ad sk A s S' H locs → decode cc pc = .ok (.ireturn, 1) → W p l e R s m args below meth c H locs 0 0 Q (F0 m pc ls [.int v])) →
      Thr p l e R s m args below meth c Q cc D tys n cy ad sk A maxL px → ThrN p l e R s m args below meth c Q cc D tys n cy ad sk A maxL px →
      W p l e R s m args below meth c s.heap [] 0 0 Q (F0 m 0 ls [])) :
    CtXi l y (Cond.code y cc maxL (some rt) :: wsG) fr lo ns av D tys n cy ad sk (EY al sx) S post px :=
  Ct_bodyX (Qc := fun sz => va_Qi post (wPost D tys n cy ad sk S sz) (va_A (wW n cy ad sk S) sz)) (XC := fun sz => wXC px D tys n cy ad sk S sz) hy hlen (fun p e s m args below meth c A ls hA htab B => body p e s m args below meth c A ls _ _ B rfl rfl
    (fun v S' H locs pc ls hp hn w hdg => W.widen (Nat.zero_le _) (Nat.zero_le _) (vx_ret (wb_iret B.1 B.2.1 B.2.2.1 hn B.2.2.2.2.2.2.1 hA w hp hdg)))
    (fun S' H locs pc ls is tx h1 h2 w h3 d0 d3 d4 d6 d9 => wb_thr B.1 B.2.1 hl B.2.2.2.1 (by rw [← hyd]; exact B.2.2.2.2.1) htab B.2.2.2.2.2.2.1 B.2.2.2.2.2.2.2.2.1.1 hA w hk hini h2 h1 (h3.trans B.2.2.2.2.2.1.symm) d0 d3 d4 d6 d9 (by show 6 < fr; omega) (by show 95 ≤ lo; omega) (Nat.le_refl _) (by show 6 ≤ ns; omega) (by omega))
    (fun S' H locs pc ls is tx h1 h2 w h3 d0 d3 d4 d6 d9 => wb_thrN B.1 B.2.1 hl B.2.2.2.1 (by rw [← hyd]; exact B.2.2.2.2.1) htab B.2.2.2.2.2.2.1 B.2.2.2.2.2.2.2.2.1 hA w hkN hiniN h2 h1 (h3.trans B.2.2.2.2.2.1.symm) d0 d3 d4 d6 d9 (by show 6 < fr; omega) (by show 96 ≤ lo; omega) (Nat.le_refl _) (by show 8 ≤ ns; omega) (by omega)))
end SY
theorem sb_nar {x : Int32} (h : x = x.toInt8.toInt32) : narrow .byte (.int x) = .int x := by
  show Value.int (x.toInt8.toInt32) = _
  rw [← h]
set_option maxHeartbeats 1000000 in
set_option maxRecDepth 100000 in
theorem k_D_row (l : Launch) (D : va_G) (cy : Nat → ClassId) (ad al : Nat → Nat) (S : wS) (sx : Nat → Nat) (hlt : l.stackTraces = false) (a b : Int32) (R9 : Nat) (hR9 : S.1 52 3 = nI R9) (hR2 : R9 ≤ 40) (rz : Nat → Nat) (hrz : ∀ i, i < R9 → S.2.1 54 i = nI (rz i) ∧ rz i ≤ 40) (hby : ∀ i, i < R9 → ∀ k, k < rz i → S.2.1 (282 + i) k = (S.2.1 (282 + i) k).toInt8.toInt32) : CtXi l yX7_row (Cond.code yX7_row cX7_row 3 (some .byte) :: wsG) 7 96 8 [.ref (ad (57)), .int (a), .int (b)] D (tyC cy) 322 cy ad skD (EY al sx) (S) (fun r S' => ∃ i k, i < R9 ∧ a = nI i ∧ k < rz i ∧ b = nI k ∧ r = S.2.1 (282 + i) k ∧ S' = S) (fun E9 S' => ((E9 = rnA ∧ (oor a 40 ∨ ∃ i, i < R9 ∧ a = nI i ∧ oor b (rz i))) ∨ (E9 = Bundle.nN ∧ ∃ i, i < 40 ∧ R9 ≤ i ∧ a = nI i)) ∧ S' = S) := by
  refine CtYi_of hlt rfl (by decide) (Nat.le_of_ble_eq_true rfl) (by decide) (by decide) (by decide) wk_572 wk_17 wk_634 wk_19 ?_
  intro p e s m args below meth c A ls R Q hB hRf hRl hend hthr hthrN
  obtain ⟨hx, hbc, hr, hg, hown, hml, hlk, w, hX, hl⟩ := hB
  have hl : lv_has ls 3 [(0, .ref (ad (57))), (1, .int (a)), (2, .int (b))] := hl
  have hT1 : oor a 40 → W p l e R s m args below meth c s.heap [] 0 0 Q (F0 m 10 ls []) := fun h => hthr (S) _ _ _ _ 236 "rows have numbers 0 to 39" (List.mem_of_getElem? (i := 3) rfl) ⟨Or.inl ⟨rfl, Or.inl h⟩, rfl⟩ w hl.1 dX7_row_10 dX7_row_13 dX7_row_14 dX7_row_16 dX7_row_19
  refine lv_iload_n hx hbc dX7_row_0 rfl (lv_at hl 1 rfl) ?_
  refine lv_if_lt (tgt := 10) hx hbc dX7_row_1 (by decide) (fun c_1 => ?_) (fun c_1 => ?_)
  · exact hT1 (oor_n c_1 (by decide))
  refine lv_iload_n hx hbc dX7_row_4 rfl (lv_at hl 1 rfl) ?_
  refine lv_bipush (v := nI (40)) hx hbc dX7_row_5 (by decide) ?_
  refine lv_icmp_lt (tgt := 20) hx hbc dX7_row_7 (by decide) (fun c_7 => ?_) (fun c_7 => ?_)
  · obtain ⟨i, hi, rfl⟩ := rg_in c_1 c_7 (by decide)
    refine lv_iload_n hx hbc dX7_row_20 rfl (lv_at hl 1 rfl) ?_
    refine lv_aload_n hx hbc dX7_row_21 rfl (lv_at hl 0 rfl) ?_
    refine wb_gr (t := 52) hx hbc hg hown w inG_X7 57 (by decide) rfl rfl 8 (by decide) rfl wk_213 dX7_row_22 ?_
    refine wb_gi (v := nI R9) hx hbc hg hown w inG_X5 52 (by decide) rfl rfl 3 (by decide) rfl wk_167 hR9 dX7_row_25 ?_
    refine n_cmp_lt (tgt := 41) (by omega) (by omega) hx hbc dX7_row_28 (by decide) (fun c_28 => ?_) (fun c_28 => ?_)
    · obtain ⟨hz1, hz2⟩ := hrz i c_28
      have hT2 : oor b (rz i) → W p l e R s m args below meth c s.heap [] 0 0 Q (F0 m 58 ls []) := fun h => hthr (S) _ _ _ _ 246 "the row has no such byte" (List.mem_of_getElem? (i := 5) rfl) ⟨Or.inl ⟨rfl, Or.inr ⟨i, c_28, rfl, h⟩⟩, rfl⟩ w hl.1 dX7_row_58 dX7_row_61 dX7_row_62 dX7_row_64 dX7_row_67
      refine lv_iload_n hx hbc dX7_row_41 rfl (lv_at hl 2 rfl) ?_
      refine lv_if_lt (tgt := 58) hx hbc dX7_row_42 (by decide) (fun c_42 => ?_) (fun c_42 => ?_)
      · exact hT2 (oor_n c_42 (by omega))
      refine lv_iload_n hx hbc dX7_row_45 rfl (lv_at hl 2 rfl) ?_
      refine lv_aload_n hx hbc dX7_row_46 rfl (lv_at hl 0 rfl) ?_
      refine wb_gr (t := 52) hx hbc hg hown w inG_X7 57 (by decide) rfl rfl 8 (by decide) rfl wk_213 dX7_row_47 ?_
      refine wb_gr (t := 54) hx hbc hg hown w inG_X5 52 (by decide) rfl rfl 1 (by decide) rfl wk_164 dX7_row_50 ?_
      refine lv_iload_n hx hbc dX7_row_53 rfl (lv_at hl 1 rfl) ?_
      refine wb_iald (k := i) (v := nI (rz i)) hx hbc w 54 (by decide) rfl 0 rfl rfl (by omega) (by decide) hz1 dX7_row_54 ?_
      refine lv_icmp_lt (tgt := 68) hx hbc dX7_row_55 (by decide) (fun c_55 => ?_) (fun c_55 => ?_)
      · obtain ⟨k, hk, rfl⟩ := rg_in c_42 c_55 (by omega)
        refine lv_aload_n hx hbc dX7_row_68 rfl (lv_at hl 0 rfl) ?_
        refine wb_gr (t := 52) hx hbc hg hown w inG_X7 57 (by decide) rfl rfl 8 (by decide) rfl wk_213 dX7_row_69 ?_
        refine wb_gr (t := 53) hx hbc hg hown w inG_X5 52 (by decide) rfl rfl 0 (by decide) rfl wk_162 dX7_row_72 ?_
        refine lv_iload_n hx hbc dX7_row_75 rfl (lv_at hl 1 rfl) ?_
        refine wb_aaldA (k := i) (t := 282 + i) hx hbc w 53 (by decide) rfl (by decide) 5 rfl rfl (by omega) (by decide) rfl dX7_row_76 ?_
        refine lv_iload_n hx hbc dX7_row_77 rfl (lv_at hl 2 rfl) ?_
        refine wb_bald (k := k) (v := S.2.1 (282 + i) k) hx hbc w (282 + i) (by omega) (skD_s _ (by omega)) 1 rfl rfl (by omega) (by decide) rfl dX7_row_78 ?_
        exact hend _ _ _ _ _ _ ⟨i, k, c_28, rfl, hk, rfl, rfl, rfl⟩ (sb_nar (hby i c_28 k hk)) w dX7_row_79
      · exact hT2 (oor_g c_55 (by omega))
    · exact hthrN (S) _ _ _ _ 240 "no such row is kept" (List.mem_of_getElem? (i := 4) rfl) ⟨Or.inr ⟨rfl, i, hi, c_28, rfl⟩, rfl⟩ w hl.1 dX7_row_31 dX7_row_34 dX7_row_35 dX7_row_37 dX7_row_40
  · exact hT1 (oor_g c_7 (by decide))
set_option maxRecDepth 100000 in
theorem k_L_row (l : Launch) (D : va_G) (cy : Nat → ClassId) (ad al : Nat → Nat) (S : wS) (sx : Nat → Nat) (hlt : l.stackTraces = false) (a b : Int32) (R9 : Nat) (hR9 : S.1 52 3 = nI R9) (hR2 : R9 ≤ 40) (rz : Nat → Nat) (hrz : ∀ i, i < R9 → S.2.1 54 i = nI (rz i) ∧ rz i ≤ 40) (hby : ∀ i, i < R9 → ∀ k, k < rz i → S.2.1 (282 + i) k = (S.2.1 (282 + i) k).toInt8.toInt32) : CtH l yL_row cL_row 5 [(0, 10, 13, 27), (0, 10, 17, 13)] 8 118 8 [.ref (ad 57), .int a, .int b, .ref (ad 353)] D (tyC cy) 354 cy ad skL (EY al sx) S (fun r S' => (r = nI 0 ∧ ∃ (v : Int32) (T : wS), (fun r S' => ∃ i k, i < R9 ∧ a = nI i ∧ k < rz i ∧ b = nI k ∧ r = (pul S id).2.1 (282 + i) k ∧ S' = (pul S id)) v T ∧ S' = sJ (psh S fiC T) 353 (vp_updL (S.2.2 353) 0 (v.toInt64))) ∨ (∃ (E9 : String) (T : wS), (fun E9 S' => ((E9 = rnA ∧ (oor a 40 ∨ ∃ i, i < R9 ∧ a = nI i ∧ oor b (rz i))) ∨ (E9 = Bundle.nN ∧ ∃ i, i < 40 ∧ R9 ≤ i ∧ a = nI i)) ∧ S' = (pul S id)) E9 T ∧ ((E9 = Bundle.nN ∧ r = nI 1) ∨ (E9 = rnA ∧ r = nI 2)) ∧ S' = psh S fiC T)) := by
  refine CtH_of (by decide) (Nat.le_of_ble_eq_true rfl) ?_
  intro p e s m args below meth c A ls R Q hB htab hRf hRl hRc hRs hend
  obtain ⟨hx, hbc, hr, hg, hown, hml, hlk, w, hX, hl⟩ := hB
  have hl : lv_has ls 5 [(0, .ref (ad 57)), (1, .int a), (2, .int b), (3, .ref (ad 353))] := hl
  refine lv_aload_n hx hbc dL_row_0 rfl (lv_at hl 3 rfl) ?_
  refine lv_iconst (v := nI (0)) hx hbc dL_row_1 (by decide) ?_
  refine lv_aload_n hx hbc dL_row_2 rfl (lv_at hl 0 rfl) ?_
  refine lv_iload_n hx hbc dL_row_3 rfl (lv_at hl 1 rfl) ?_
  refine lv_iload_n hx hbc dL_row_4 rfl (lv_at hl 2 rfl) ?_
  refine wc_Xi (na := 2) (f := id) (As := [.int a, .int b]) (rest := [.int (nI 0), .ref (ad 353)]) hx hbc hml hg hown w (EY_ok al sx) hX w.1 lieC.A 57 (by decide) ((skL_lo (by decide)).trans rfl) rfl (k_D_row l D cy (fun z9 => ad (id z9)) al (pul S id) sx hlt a b R9 hR9 hR2 rz hrz hby) wk_632 wk_1 wk_629 wk_630 wk_631 ⟨by decide, by decide, by decide⟩ ⟨by rw [hRf]; decide, by rw [hRl]; decide⟩ rfl hl.1 rfl (Nat.le_of_ble_eq_true rfl) dL_row_5 ⟨by rw [hRc]; decide, by rw [hRs]; decide⟩ (fun E9 ce q9 T H locs hp w hce hcv hcl => ?_) (fun v T hp H locs w => ?_)
  · have w := w _ (lieC.T T)
    rcases hp.1 with h9 | h9
    · have hE9 : E9 = rnA := h9.1
      subst hE9
      refine vx_catch hown [⟨0, 10, 13, 27⟩] ⟨0, 10, 17, 13⟩ [] htab (fun z hz => ?_) (by decide) (by decide) (hg _ wk_480) (va_Nw.use rfl hX.1.2.2.2.1.2) hce hcv hcl ?_
      · obtain rfl := List.mem_singleton.mp hz
        exact Or.inr ⟨by decide, Bundle.nN, hg _ wk_603, hX.2.2.2⟩
      refine lv_astore (lv' := [(4, .ref q9), (0, .ref (ad 57)), (1, .int a), (2, .int b), (3, .ref (ad 353))]) hx hbc dL_row_17 hl (by decide) rfl (fun ls hl => ?_)
      refine lv_iconst (v := nI (2)) hx hbc dL_row_19 (by decide) ?_
      exact hend _ _ _ _ _ _ (Or.inr ⟨rnA, T, hp, Or.inr ⟨rfl, rfl⟩, rfl⟩) w dL_row_20
    · have hE9 : E9 = Bundle.nN := h9.1
      subst hE9
      refine vx_catch hown [] ⟨0, 10, 13, 27⟩ [⟨0, 10, 17, 13⟩] htab (fun z hz => absurd hz List.not_mem_nil) (by decide) (by decide) (hg _ wk_603) (va_Nw.use rfl hX.2.2.1) hce hcv hcl ?_
      refine lv_astore (lv' := [(4, .ref q9), (0, .ref (ad 57)), (1, .int a), (2, .int b), (3, .ref (ad 353))]) hx hbc dL_row_13 hl (by decide) rfl (fun ls hl => ?_)
      refine lv_iconst (v := nI (1)) hx hbc dL_row_15 (by decide) ?_
      exact hend _ _ _ _ _ _ (Or.inr ⟨Bundle.nN, T, hp, Or.inl ⟨rfl, rfl⟩, rfl⟩) w dL_row_16
  · have w := w _ (lieC.T T)
    refine lv_i2l hx hbc dL_row_8 rfl ?_
    refine wb_last (k := 0) (f := S.2.2 353) hx hbc w 353 (by decide) skL_out 2 rfl rfl (by decide) (by decide) rfl rfl dL_row_9 (fun H locs w => ?_)
    refine lv_goto (tgt := 21) hx hbc dL_row_10 (by decide) ?_
    refine lv_iconst (v := nI (0)) hx hbc dL_row_21 (by decide) ?_
    exact hend _ _ _ _ _ _ (Or.inl ⟨rfl, v, T, hp, rfl⟩) w dL_row_22
theorem ub_8 {x : Int32} (h : x = x.toInt8.toInt32) : x = (x &&& nI 255).toInt8.toInt32 := by
  refine sb_inj h (i8i8 _).symm ?_
  rw [b255, Int32.and_assoc, Int32.and_self]
def xRow (M : wS) (a b : Int32) (R9 : Nat) (rz : Nat → Nat) : Int32 → wS → Prop := (fun r S' => (inF a (nI 0) (nI 39) = 0 ∧ r = nI 0 ∧ S' = sI M 0 0 (nI 2)) ∨ (∃ i, i ≤ 39 ∧ a = nI i ∧ R9 ≤ i ∧ r = nI 0 ∧ S' = sI M 0 0 (nI 1)) ∨ (∃ i, i < R9 ∧ a = nI i ∧ inF b (nI 0) (nI (rz i) - nI 1) = 0 ∧ r = nI 0 ∧ S' = sI M 0 0 (nI 2)) ∨ (∃ i k, i < R9 ∧ a = nI i ∧ k < rz i ∧ b = nI k ∧ r = (M.2.1 29 (40 * i + k)).toInt8.toInt32 ∧ S' = sI M 0 0 (nI 0)))
theorem simR_row {S M S9 M9 : wS} {r r9 : Int32} (h : Rel S M) (a b : Int32) (R9 : Nat) (rz : Nat → Nat) (hR : RR S M R9 rz) (hc : (fun r S' => ∃ i k, i < R9 ∧ a = nI i ∧ k < rz i ∧ b = nI k ∧ r = S.2.1 (282 + i) k ∧ S' = S) r S9) (hm : xRow M a b R9 rz r9 M9) : M9.1 0 0 = nI 0 ∧ r = r9 ∧ Rel S9 M9 := by
  obtain ⟨i, k, hi, e1, hk, f1, hr, hS9⟩ := hc
  have hR2 := hR.2.2.1
  obtain ⟨z1, z2, z3, z4, z5⟩ := hR.2.2.2.2 i hi
  rcases hm with ⟨b1, hr9, hM9⟩ | ⟨q, hq, e9, b2, hr9, hM9⟩ | ⟨q, hq, e9, b3, hr9, hM9⟩ | ⟨q, k9, hq, e9, hk9, f9, hr9, hM9⟩
  · exact absurd e1 (inF_oor b1 (by decide) _ (by omega))
  · have e8 := nIe (e1.symm.trans e9) (by omega) (by omega)
    omega
  · have e8 := nIe (e1.symm.trans e9) (by omega) (by omega)
    subst e8
    exact absurd f1 (inF_oord b3 (by omega) _ hk)
  · have e8 := nIe (e1.symm.trans e9) (by omega) (by omega)
    subst e8
    have f8 := nIe (f1.symm.trans f9) (by omega) (by omega)
    subst f8
    subst hM9; obtain rfl := hS9
    refine ⟨rfl, ?_, h.th _⟩
    rw [hr, hr9, (z5 k hk).1]
    exact ub_8 (z5 k hk).2
theorem simE_row {S M S9 M9 : wS} {r9 : Int32} {E9 : String} (h : Rel S M) (a b : Int32) (R9 : Nat) (rz : Nat → Nat) (hR : RR S M R9 rz) (hc : (fun E9 S' => ((E9 = rnA ∧ (oor a 40 ∨ ∃ i, i < R9 ∧ a = nI i ∧ oor b (rz i))) ∨ (E9 = Bundle.nN ∧ ∃ i, i < 40 ∧ R9 ≤ i ∧ a = nI i)) ∧ S' = S) E9 S9) (hm : xRow M a b R9 rz r9 M9) : ((E9 = rnA ∧ M9.1 0 0 = nI 2) ∨ (E9 = Bundle.nN ∧ M9.1 0 0 = nI 1)) ∧ Rel S9 M9 := by
  obtain ⟨hc, hS9⟩ := hc
  have hR2 := hR.2.2.1
  rcases hm with ⟨b1, hr9, hM9⟩ | ⟨q, hq, e9, b2, hr9, hM9⟩ | ⟨q, hq, e9, b3, hr9, hM9⟩ | ⟨q, k9, hq, e9, hk9, f9, hr9, hM9⟩
  · subst hM9; obtain rfl := hS9
    refine ⟨?_, h.th _⟩
    rcases hc with ⟨e0, -⟩ | ⟨e0, i, hi, h2, e1⟩
    · exact Or.inl ⟨e0, rfl⟩
    · exact absurd e1 (inF_oor b1 (by decide) _ (by omega))
  · subst hM9; obtain rfl := hS9
    refine ⟨?_, h.th _⟩
    rcases hc with ⟨e0, h1 | ⟨i, hi, e1, h1⟩⟩ | ⟨e0, i, hi, h2, e1⟩
    · exact absurd e9 (h1 _ (by omega))
    · have e8 := nIe (e1.symm.trans e9) (by omega) (by omega)
      omega
    · exact Or.inr ⟨e0, rfl⟩
  · subst hM9; obtain rfl := hS9
    refine ⟨?_, h.th _⟩
    rcases hc with ⟨e0, -⟩ | ⟨e0, i, hi, h2, e1⟩
    · exact Or.inl ⟨e0, rfl⟩
    · have e8 := nIe (e1.symm.trans e9) (by omega) (by omega)
      omega
  · exfalso
    rcases hc with ⟨e0, h1 | ⟨i, hi, e1, h1⟩⟩ | ⟨e0, i, hi, h2, e1⟩
    · exact h1 _ (by omega) e9
    · have e8 := nIe (e1.symm.trans e9) (by omega) (by omega)
      subst e8
      exact h1 _ hk9 f9
    · have e8 := nIe (e1.symm.trans e9) (by omega) (by omega)
      omega
