/-! What the Statement gives at the law's entry, in the words of the parts before -/
abbrev lwG : Cond := Jvm.Cond.and given_1 narrow_1
theorem st_of {args : Array Value} {s : State} {nm : String} {N : Nat} {f : Nat → Int32} {A : Nat → Prop} (hN : N < 2 ^ 31) (hl : (Cond.laysStatic "DigestTrees" nm "[I").before args s = true) (hini : (Cond.initialized "DigestTrees").before args s = true) (harr : (Cond.arrayOf (.static "DigestTrees" nm "[I") .int).before args s = true) (hlen : (Cond.eq (.length (.static "DigestTrees" nm "[I")) (.int (Int32.ofNat N))).before args s = true) (hel : ∀ j : Nat, j < N → (Cond.eq (.elem (.static "DigestTrees" nm "[I") (.int (Int32.ofNat j))) (.int (f j))).before args s = true) (hA : ∀ a : Nat, a < s.heap.size → ¬ A a) : ∃ t : Nat, stZ nm t N f A s := by
  have hv := va_eqt hlen
  obtain ⟨t, ht, cell, h1, h2, h3, h4, h5, h6, h7⟩ := va_Tof (f := fun j => .int (f j)) (A := A) hN harr hv (fun j hj => va_eqt (hel j hj)) hA
  obtain ⟨t2, cell2, ht2, hat, hv2⟩ := Term.length_spec hv
  cases ht.symm.trans ht2
  obtain ⟨hc2, -, -, -⟩ := State.arrayAt?_spec hat
  cases h1.symm.trans hc2
  have hsz : cell.slots.size < 2 ^ 31 := by
    have hv := hv
    simp only [Term.eval, Option.bind_eq_bind] at hv ht
    simp only [ht, hat, Option.bind_some] at hv
    by_cases hlt : cell.slots.size < 2147483648
    · exact hlt
    · simp [hlt] at hv
  have hs : cell.slots.size = N := (nI_eq hsz hN).mp h5
  exact ⟨t, va_Zof hl hini ht hA, ⟨cell, h1, h2, h3, hs, h6⟩, (Array.getElem?_eq_some_iff.mp h1).1, h7⟩
theorem fl_K : ((List.range 64).all (fun j => decide (Cond.eq (.elem (.static "DigestTrees" "K" "[I") (.int (Int32.ofNat j))) (.int (kC j)) ∈ flatC lwG)) && decide (Cond.arrayOf (.static "DigestTrees" "K" "[I") .int ∈ flatC lwG) && decide (Cond.eq (.length (.static "DigestTrees" "K" "[I")) (.int (Int32.ofNat 64)) ∈ flatC lwG)) = true := by decide +kernel
theorem fl_W : ((List.range 8).all (fun j => decide (Cond.eq (.elem (.static "DigestTrees" "WIDE_START" "[I") (.int (Int32.ofNat j))) (.int (wC0 j)) ∈ flatC lwG)) && decide (Cond.arrayOf (.static "DigestTrees" "WIDE_START" "[I") .int ∈ flatC lwG) && decide (Cond.eq (.length (.static "DigestTrees" "WIDE_START" "[I")) (.int (Int32.ofNat 8)) ∈ flatC lwG)) = true := by decide +kernel
theorem fl_N : ((List.range 8).all (fun j => decide (Cond.eq (.elem (.static "DigestTrees" "NARROW_START" "[I") (.int (Int32.ofNat j))) (.int (nC0 j)) ∈ flatC lwG)) && decide (Cond.arrayOf (.static "DigestTrees" "NARROW_START" "[I") .int ∈ flatC lwG) && decide (Cond.eq (.length (.static "DigestTrees" "NARROW_START" "[I")) (.int (Int32.ofNat 8)) ∈ flatC lwG)) = true := by decide +kernel
theorem fl_B : ((List.range 5).all (fun j => decide (Cond.eq (.elem (.static "DigestTrees" "WIDTH_BYTES" "[I") (.int (Int32.ofNat j))) (.int (wdC j)) ∈ flatC lwG)) && decide (Cond.arrayOf (.static "DigestTrees" "WIDTH_BYTES" "[I") .int ∈ flatC lwG) && decide (Cond.eq (.length (.static "DigestTrees" "WIDTH_BYTES" "[I")) (.int (Int32.ofNat 5)) ∈ flatC lwG)) = true := by decide +kernel
theorem st_fl {args : Array Value} {s : State} {nm : String} {N : Nat} {f : Nat → Int32} {A : Nat → Prop} (hgv : lwG.before args s = true) (hN : N < 2 ^ 31) (hl : (Cond.laysStatic "DigestTrees" nm "[I").before args s = true) (hini : (Cond.initialized "DigestTrees").before args s = true) (hf : ((List.range N).all (fun j => decide (Cond.eq (.elem (.static "DigestTrees" nm "[I") (.int (Int32.ofNat j))) (.int (f j)) ∈ flatC lwG)) && decide (Cond.arrayOf (.static "DigestTrees" nm "[I") .int ∈ flatC lwG) && decide (Cond.eq (.length (.static "DigestTrees" nm "[I")) (.int (Int32.ofNat N)) ∈ flatC lwG)) = true) (hA : ∀ a : Nat, a < s.heap.size → ¬ A a) : ∃ t : Nat, stZ nm t N f A s := by
  have hs := flat_of_before _ hgv
  obtain ⟨h1, h3⟩ := Bool.and_eq_true_iff.mp hf
  obtain ⟨h1, h2⟩ := Bool.and_eq_true_iff.mp h1
  exact st_of hN hl hini (hs _ (of_decide_eq_true h2)) (hs _ (of_decide_eq_true h3)) (fun j hj => hs _ (of_decide_eq_true (List.all_eq_true.mp h1 j (List.mem_range.mpr hj)))) hA
theorem tb_st : ((["K", "WIDE_START", "NARROW_START", "WIDTH_BYTES"].all (fun n => decide (Cond.laysStatic "DigestTrees" n "[I" ∈ lw_tbl))) && decide (Cond.laysStatic Bundle.tN "UNASSIGNED_STACK" Bundle.steD ∈ lw_tbl) && decide (Cond.laysStatic Bundle.tN "SUPPRESSED_SENTINEL" Bundle.listD ∈ lw_tbl) && decide (Cond.initialized Bundle.tN ∈ lw_tbl) && decide (Cond.isRef (.static Bundle.tN "UNASSIGNED_STACK" Bundle.steD) ∈ flatC lwG) && decide (Cond.isRef (.static Bundle.tN "SUPPRESSED_SENTINEL" Bundle.listD) ∈ flatC lwG) && decide (Cond.not (.castable rnA Bundle.nN) ∈ flatC lwG)) = true := by decide +kernel
theorem tb_x : ((dcA.map Cond.declares ++ [Cond.castable rnA rnA, Cond.castable Bundle.rN Bundle.tN, Cond.castable Bundle.nN Bundle.nN, Cond.arrayOver (.array .byte), Cond.arrayOver (.array .int), Cond.arrayOver (.object "DigestTrees$Message"), Cond.arrayOver (.object "DigestTrees$Tree")]).all (fun w => decide (w ∈ lw_tbl))) = true := by decide +kernel
theorem tb_n : (nsF.all (fun q => decide (Cond.fieldLinkNest q.1 q.2.1 q.2.2.1 q.2.2.2 "[I" "DigestTrees" ∈ lw_tbl)) && nsM.all (fun q => decide (Cond.methodLinkNest q.1 q.2.1 q.2.2 "DigestTrees" ∈ lw_tbl))) = true := by decide +kernel
theorem tb_s : (sxL.all (fun q => decide (Cond.stringRef "DigestTrees" q.1 q.2 ∈ lw_tbl) && decide (Cond.exactly (.string "DigestTrees" q.1) "java/lang/String" ∈ flatC lwG))) = true := by decide +kernel
theorem tb_j : ((u_ws RJ0 TJ0 2 ++ u_ws RJx00060 TJx00060 6 ++ u_ws RJx5d777 TJx5d777 8 ++ [Cond.instantiable RJ0 4, Cond.instantiable RJx00060 6, Cond.instantiable RJx5d777 8]).all (fun w => decide (w ∈ lw_tbl))) = true := by decide +kernel
section ST9
variable {args : Array Value} {s : State}
theorem law_env (hts : ∀ w ∈ lw_tbl, w.before args s = true) (hgv : lwG.before args s = true) (A : Nat → Prop) (hA : ∀ a : Nat, a < s.heap.size → ¬ A a) : ∃ al sx : Nat → Nat, EY al sx A s ∧ EN A s := by
  have hs := flat_of_before _ hgv
  have hT : ∀ w, decide (w ∈ lw_tbl) = true → w.before args s = true := fun w h => hts w (of_decide_eq_true h)
  have hF : ∀ w, decide (w ∈ flatC lwG) = true → w.before args s = true := fun w h => hs w (of_decide_eq_true h)
  obtain ⟨h0, k6⟩ := Bool.and_eq_true_iff.mp tb_st
  obtain ⟨h0, k5⟩ := Bool.and_eq_true_iff.mp h0
  obtain ⟨h0, k4⟩ := Bool.and_eq_true_iff.mp h0
  obtain ⟨h0, k3⟩ := Bool.and_eq_true_iff.mp h0
  obtain ⟨h0, k2⟩ := Bool.and_eq_true_iff.mp h0
  obtain ⟨h0, k1⟩ := Bool.and_eq_true_iff.mp h0
  have hls : ∀ n ∈ ["K", "WIDE_START", "NARROW_START", "WIDTH_BYTES"], (Cond.laysStatic "DigestTrees" n "[I").before args s = true := fun n hn => hT _ (List.all_eq_true.mp h0 n hn)
  have hini : (Cond.initialized "DigestTrees").before args s = true := hts _ (wsG_of wk_1)
  obtain ⟨a0, z0⟩ := st_fl (A := A) (f := kC) hgv (by decide) (hls "K" (by simp)) hini fl_K hA
  obtain ⟨a1, z1⟩ := st_fl (A := A) (f := wC0) hgv (by decide) (hls "WIDE_START" (by simp)) hini fl_W hA
  obtain ⟨a2, z2⟩ := st_fl (A := A) (f := nC0) hgv (by decide) (hls "NARROW_START" (by simp)) hini fl_N hA
  obtain ⟨a3, z3⟩ := st_fl (A := A) (f := wdC) hgv (by decide) (hls "WIDTH_BYTES" (by simp)) hini fl_B hA
  have hx : ∀ w ∈ (dcA.map Cond.declares ++ [Cond.castable rnA rnA, Cond.castable Bundle.rN Bundle.tN, Cond.castable Bundle.nN Bundle.nN, Cond.arrayOver (.array .byte), Cond.arrayOver (.array .int), Cond.arrayOver (.object "DigestTrees$Message"), Cond.arrayOver (.object "DigestTrees$Tree")]), w.before args s = true := fun w hw => hT w (List.all_eq_true.mp tb_x w hw)
  obtain ⟨n1, n2⟩ := Bool.and_eq_true_iff.mp tb_n
  have hn : nst s := ⟨fun q hq => va_Nw.of rfl (hT _ (List.all_eq_true.mp n1 q hq)), fun q hq => va_Nw.of rfl (hT _ (List.all_eq_true.mp n2 q hq))⟩
  have hstr : ∀ k : Nat, ∃ a : Nat, ∀ tx, (k, tx) ∈ sxL → vk_R "DigestTrees" k tx a s := by
    intro k
    by_cases hk : ∃ tx, (k, tx) ∈ sxL
    · obtain ⟨tx, hk⟩ := hk
      obtain ⟨g1, g2⟩ := Bool.and_eq_true_iff.mp (List.all_eq_true.mp tb_s _ hk)
      obtain ⟨a, c, cA, kA, q1, -⟩ := Cond.exactly_spec (args := args) (first := s) (o := none) (s := s) (idx := []) (hF _ g2)
      refine ⟨a, fun tx2 h2 => ?_⟩
      obtain ⟨g1, g2⟩ := Bool.and_eq_true_iff.mp (List.all_eq_true.mp tb_s _ h2)
      exact vk_R.of (hT _ g1) q1
    · exact ⟨0, fun tx h => absurd ⟨tx, h⟩ hk⟩
  obtain ⟨sx, hsx⟩ := Classical.axiomOfChoice hstr
  refine ⟨fun k => if k = 0 then a0 else if k = 1 then a1 else if k = 2 then a2 else a3, sx, ⟨⟨⟨z0, z1, z2, z3, hn⟩, vx_Zqof (hT _ k1) (hT _ k3) (hF _ k4) hA, vx_Zqof (hT _ k2) (hT _ k3) (hF _ k5) hA, ⟨fun x hx9 => va_Nw.of rfl (hx _ (List.mem_append_left _ (List.mem_map.mpr ⟨x, hx9, rfl⟩))), va_Nw.of rfl (hx _ (List.mem_append_right _ (by simp)))⟩, fun q hq => hsx q.1 q.2 hq⟩, va_Nw.of rfl (hx _ (List.mem_append_right _ (by simp))), va_Nw.of rfl (hx _ (List.mem_append_right _ (by simp))), va_Nc.of (hF _ k6)⟩, hn, hx (Cond.arrayOver (.array .byte)) (List.mem_append_right _ (by simp)), hx (Cond.arrayOver (.array .int)) (List.mem_append_right _ (by simp)), hx (Cond.arrayOver (.object "DigestTrees$Message")) (List.mem_append_right _ (by simp)), hx (Cond.arrayOver (.object "DigestTrees$Tree")) (List.mem_append_right _ (by simp))⟩
theorem arr_p {t : FieldType} (h : (Cond.arrayClass t).before args s = true) : ∃ c, ArrOfT s c t ∧ s.vm.findClass ("[" ++ t.toString) = some c := by
  obtain ⟨c, k, comp, h1, h2, h3⟩ := Cond.arrayClass_spec h
  exact ⟨c, fun n z => ⟨(fun k h => by cases h), k, h2, comp, h3⟩, h1⟩
theorem arr_o {C : String} (h : (Cond.arrayOver (.object C)).before args s = true) : ∃ c, ArrOfT s c (.object C) ∧ va_RA s c (.object C) := by
  obtain ⟨comp, c, k, h1, -, h2, h3, h4⟩ := Cond.arrayOver_spec h
  exact ⟨c, fun n z => ⟨(fun k h => by cases h), k, h2, comp, h3⟩, k, comp, h2, h3, h1, h4⟩
theorem arr_a {t : FieldType} (h : (Cond.arrayOver (.array t)).before args s = true) : ∃ c, ArrOfT s c (.array t) ∧ va_RA s c (.array t) := by
  obtain ⟨comp, c, k, h1, h2, h3, h4⟩ := Cond.arrayOver_specA h
  exact ⟨c, fun n z => ⟨(fun k h => by cases h), k, h2, comp, h3⟩, h4⟩
theorem law_K (hts : ∀ w ∈ lw_tbl, w.before args s = true) : ∃ (D : va_G) (cy : Nat → ClassId), va_K D vwCl (tyC cy) s := by
  have hx : ∀ w ∈ (dcA.map Cond.declares ++ [Cond.castable rnA rnA, Cond.castable Bundle.rN Bundle.tN, Cond.castable Bundle.nN Bundle.nN, Cond.arrayOver (.array .byte), Cond.arrayOver (.array .int), Cond.arrayOver (.object "DigestTrees$Message"), Cond.arrayOver (.object "DigestTrees$Tree")]), w.before args s = true := fun w hw => hts w (of_decide_eq_true (List.all_eq_true.mp tb_x w hw))
  have hj : ∀ w ∈ (u_ws RJ0 TJ0 2 ++ u_ws RJx00060 TJx00060 6 ++ u_ws RJx5d777 TJx5d777 8 ++ [Cond.instantiable RJ0 4, Cond.instantiable RJx00060 6, Cond.instantiable RJx5d777 8]), w ∈ lw_tbl := fun w hw => of_decide_eq_true (List.all_eq_true.mp tb_j w hw)
  obtain ⟨c0, p0, q0⟩ := arr_p (t := .int) (hts _ (wsG_of wk_72))
  obtain ⟨c1, p1, q1⟩ := arr_p (t := .byte) (hts _ (wsG_of wk_46))
  obtain ⟨c2, p2, q2⟩ := arr_p (t := .long) (hts _ (wsG_of wk_788))
  obtain ⟨c3, p3, q3⟩ := arr_o (hx (Cond.arrayOver (.object "DigestTrees$Message")) (List.mem_append_right _ (by simp)))
  obtain ⟨c4, p4, q4⟩ := arr_o (hx (Cond.arrayOver (.object "DigestTrees$Tree")) (List.mem_append_right _ (by simp)))
  obtain ⟨c5, p5, q5⟩ := arr_a (hx (Cond.arrayOver (.array .byte)) (List.mem_append_right _ (by simp)))
  obtain ⟨c6, p6, q6⟩ := arr_a (hx (Cond.arrayOver (.array .int)) (List.mem_append_right _ (by simp)))
  have key : ∀ k : Nat, ∃ g : ClassId × (Nat → Nat), ∀ q : vw_C, vwCl[k]? = some q → u_Kn s q.1 q.2.1 q.2.2 g.1 g.2 := by
    have mk : ∀ {C : String} {T : u_T} {N n : Nat}, (∀ w ∈ u_ws C T N, w ∈ lw_tbl) → (Cond.instantiable C n).before args s = true → ∀ (k : Nat), vwCl[k]? = some (C, T, N) → ∃ g : ClassId × (Nat → Nat), ∀ q : vw_C, vwCl[k]? = some q → u_Kn s q.1 q.2.1 q.2.2 g.1 g.2 := by
      intro C T N n h1 h2 k hk
      obtain ⟨cC, iS, h⟩ := u_known (C := C) (T := T) (N := N) (n := n) hts h1 h2
      exact ⟨(cC, iS), fun q hq => by cases hk.symm.trans hq; exact h⟩
    intro k
    match k with
    | 0 => exact mk (fun w h => hj w (List.mem_append_left _ (List.mem_append_left _ (List.mem_append_left _ h)))) (hts _ (hj (Cond.instantiable RJ0 4) (List.mem_append_right _ (by simp)))) 0 rfl
    | 1 => exact mk (fun w h => hj w (List.mem_append_left _ (List.mem_append_left _ (List.mem_append_right _ h)))) (hts _ (hj (Cond.instantiable RJx00060 6) (List.mem_append_right _ (by simp)))) 1 rfl
    | 2 => exact mk (fun w h => hj w (List.mem_append_left _ (List.mem_append_right _ h))) (hts _ (hj (Cond.instantiable RJx5d777 8) (List.mem_append_right _ (by simp)))) 2 rfl
    | 3 => exact mk (fun w h => wsG_of (inG_X0 w h)) (hts _ (wsG_of wk_29)) 3 rfl
    | 4 => exact mk (fun w h => wsG_of (inG_X1 w h)) (hts _ (wsG_of wk_74)) 4 rfl
    | 5 => exact mk (fun w h => wsG_of (inG_X2 w h)) (hts _ (wsG_of wk_48)) 5 rfl
    | 6 => exact mk (fun w h => wsG_of (inG_X3 w h)) (hts _ (wsG_of wk_139)) 6 rfl
    | 7 => exact mk (fun w h => wsG_of (inG_X4 w h)) (hts _ (wsG_of wk_104)) 7 rfl
    | 8 => exact mk (fun w h => wsG_of (inG_X5 w h)) (hts _ (wsG_of wk_155)) 8 rfl
    | 9 => exact mk (fun w h => wsG_of (inG_X6 w h)) (hts _ (wsG_of wk_184)) 9 rfl
    | 10 => exact mk (fun w h => wsG_of (inG_X7 w h)) (hts _ (wsG_of wk_21)) 10 rfl
    | 11 => exact mk (fun w h => wsG_of (inG_X8 w h)) (hts _ (wsG_of wk_642)) 11 rfl
    | k + 12 => exact ⟨(c0, fun _ => 0), fun q hq => by simp [vwCl] at hq⟩
  obtain ⟨g, hg⟩ := Classical.axiomOfChoice key
  refine ⟨(fun k => (g k).1, fun k => (g k).2), fun k => match k with | 0 => c0 | 1 => c1 | 2 => c2 | 3 => c3 | 4 => c4 | 5 => c5 | _ => c6, fun k q hq => hg k q hq, fun k q hk => ?_⟩
  match k, hk with
  | 0, hk => cases hk; exact ⟨p0, q0⟩
  | 1, hk => cases hk; exact ⟨p1, q1⟩
  | 2, hk => cases hk; exact ⟨p2, q2⟩
  | 3, hk => cases hk; exact ⟨p3, q3⟩
  | 4, hk => cases hk; exact ⟨p4, q4⟩
  | 5, hk => cases hk; exact ⟨p5, q5⟩
  | 6, hk => cases hk; exact ⟨p6, q6⟩
  | k + 7, hk => simp [tyC] at hk
end ST9
/-! The two states in the law's world -/
def LR (S : wS) : Prop := Rel (pul S id) (pul S fRf)
theorem Rel.cg {S S9 M M9 : wS} (h : Rel S M) (hs : ∀ i, i < 322 → S9.1 i = S.1 i ∧ S9.2.1 i = S.2.1 i) (hm : ∀ i, i < 31 → M9.1 i = M.1 i ∧ M9.2.1 i = M.2.1 i) : Rel S9 M9 := by
  obtain ⟨⟨k1, k2, k3, k4⟩, ⟨t9, h2⟩, ⟨ks, h3⟩, ⟨d, h4⟩, h5, ⟨lv, lz, h6⟩, ⟨pv, h7⟩, ⟨R9, rz, h8⟩⟩ := h
  have e0 := (hm 0 (by decide)).1
  have eb : ∀ j, j < 31 → M9.2.1 j = M.2.1 j := fun j hj => (hm j hj).2
  exact ⟨⟨(eb 1 (by decide)).trans k1, (eb 2 (by decide)).trans k2, (eb 3 (by decide)).trans k3, by rw [e0]; exact k4⟩,
    ⟨t9, h2.cg (fun i hi => hs i (by unfold cTa at hi; omega)) (by rw [e0]) (eb 10 (by decide))⟩, ⟨ks, h3.cg (fun i hi => hs i (by unfold cK at hi; omega)) (by rw [e0]) (eb 11 (by decide))⟩,
    ⟨d, h4.cg (fun i hi => hs i (by unfold cD at hi; omega)) (by rw [e0]) (eb 12 (by decide)) (eb 13 (by decide)) (eb 14 (by decide)) (eb 15 (by decide))⟩,
    h5.cg (fun i hi => hs i (by unfold cG at hi; omega)) (eb 16 (by decide)) (eb 17 (by decide)) (eb 18 (by decide)) (eb 19 (by decide)) (eb 20 (by decide)),
    ⟨lv, lz, h6.cg (fun i hi => hs i (by unfold cB at hi; omega)) (eb 1 (by decide)) (eb 2 (by decide)) (eb 22 (by decide)) (eb 23 (by decide)) (eb 24 (by decide)) (eb 25 (by decide))⟩,
    ⟨pv, h7.cg (fun i hi => hs i (by unfold cP at hi; omega)) (by rw [e0]) (eb 27 (by decide))⟩,
    ⟨R9, rz, h8.cg (fun i hi => hs i (by unfold cR at hi; omega)) (by rw [e0]) (by rw [e0]) (eb 28 (by decide)) (eb 29 (by decide)) (eb 30 (by decide))⟩⟩
theorem fiC_lo {i : Nat} (h : i < 322) : fiC i = some i := if_pos h
theorem fiC_hi {i : Nat} (h : 322 ≤ i) : fiC i = none := if_neg (by omega)
theorem fiR_lo {i : Nat} (h : i < 322) : fiRf i = none := if_neg (by omega)
theorem fiR_in {k : Nat} (h : k < 31) : fiRf (k + 322) = some k := by
  unfold fiRf
  rw [if_pos (by omega), Nat.add_sub_cancel]
theorem fiR_out {i : Nat} (h : 353 ≤ i) : fiRf i = none := if_neg (by omega)
theorem pulM (S T : wS) : pul (psh S fiC T) fRf = pul S fRf := by
  simp only [pul, psh, Prod.mk.injEq]
  refine ⟨?_, ?_, ?_⟩ <;> (funext k; rw [fiC_hi (show 322 ≤ fRf k by unfold fRf; omega)]; rfl)
theorem pulMJ (S T : wS) (f : Nat → Int64) : pul (sJ (psh S fiC T) 353 f) fRf = (((pul S fRf).1), ((pul S fRf).2.1), fun k => if k = 31 then f else (pul S fRf).2.2 k) := by
  simp only [pul, psh, sJ, Prod.mk.injEq]
  refine ⟨?_, ?_, ?_⟩
  · funext k; rw [fiC_hi (show 322 ≤ fRf k by unfold fRf; omega)]; rfl
  · funext k; rw [fiC_hi (show 322 ≤ fRf k by unfold fRf; omega)]; rfl
  · funext k
    by_cases h : k = 31
    · rw [if_pos h, h]; rfl
    · rw [if_neg h]
      unfold va_up fRf
      rw [if_neg (by omega)]
      show (fiC (k + 322)).elim (S.2.2 (k + 322)) T.2.2 = _
      rw [fiC_hi (show 322 ≤ k + 322 by omega)]; rfl
/-- behind both calls -/
theorem LR.both {S T M9 : wS} (h : Rel T M9) : LR (psh (psh S fiC T) fiRf M9) := by
  refine h.cg (fun i hi => ?_) (fun k hk => ?_)
  · simp only [pul, psh, id, fiR_lo hi, fiC_lo hi, Option.elim]
    exact ⟨trivial, trivial⟩
  · simp only [pul, psh, fRf, fiR_in hk, Option.elim]
    exact ⟨trivial, trivial⟩
theorem LR.cg {S S' : wS} (h : LR S) (hs : ∀ i, i < 353 → S'.1 i = S.1 i ∧ S'.2.1 i = S.2.1 i) : LR S' := by
  refine Rel.cg h (fun i hi => hs i (by omega)) (fun k hk => ?_)
  exact hs (k + 322) (by omega)
