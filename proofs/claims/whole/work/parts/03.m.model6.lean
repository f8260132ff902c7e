set_option maxHeartbeats 4000000 in
set_option maxRecDepth 100000 in
theorem k_X8_toLevel (l : Launch) (D : va_G) (cy : Nat → ClassId) (ad : Nat → Nat) (S : wS) (k : Nat) (hk : k < 12) : CtV l yX8_toLevel (Cond.code yX8_toLevel cX8_toLevel 3 none :: wsG) 0 0 [.ref (ad (0)), .int (nI (k))] D (tyM cy) 31 cy ad skM E0 (S) (fun S' => S' = tlS S k) := by
  refine CtV_of (by decide) (Nat.le_of_ble_eq_true rfl) ?_
  intro p e s m args below meth c A ls R Q hB hRf hRl hend
  obtain ⟨hx, hbc, hr, hg, hown, hml, hlk, w, hE, hl⟩ := hB
  have hl : lv_has ls 3 [(0, .ref (ad (0))), (1, .int (nI (k)))] := hl
  refine lv_iconst (v := nI (0)) hx hbc dX8_toLevel_0 (by decide) ?_
  refine lv_istore_n (lv' := [(2, .int (nI (0))), (0, .ref (ad (0))), (1, .int (nI (k)))]) hx hbc dX8_toLevel_1 rfl hl (by decide) rfl (fun ls hl => ?_)
  have lp_2 : ∀ (fu : Nat) (i : Nat) (H : Heap) (locs : List Loc) (ls : Array Slot), (8 < i + fu) → (i ≤ 8) → WB D (tyM cy) 31 cy ad skM A s (sB S 26 (pts (S.2.1 26) (8 * k) (S.2.1 8) i)) H locs → lv_has ls 3 [(0, .ref (ad (0))), (1, .int (nI (k))), (2, .int (nI (i)))] → W p l e R s m args below meth c H locs 0 0 Q (F0 m 2 ls []) := by
    intro fu
    induction fu with
    | zero =>
      intro i H locs ls h1 h2 w hl
      exact absurd h1 (by omega)
    | succ fu ih_2 =>
      intro i H locs ls h1 h2 w hl
      refine lv_iload_n hx hbc dX8_toLevel_2 rfl (lv_at hl 2 rfl) ?_
      refine lv_bipush (v := nI (8)) hx hbc dX8_toLevel_3 (by decide) ?_
      refine n_cmp_ge (tgt := 31) (by omega) (by omega) hx hbc dX8_toLevel_5 (by decide) (fun c_5 => ?_) (fun c_5 => ?_)
      · exact hend _ _ _ _ _ (by obtain rfl : i = 8 := (by omega); rfl) w dX8_toLevel_31
      · refine lv_aload_n hx hbc dX8_toLevel_8 rfl (lv_at hl 0 rfl) ?_
        refine wb_gr (t := 26) hx hbc hg hown w inG_X8 0 (by decide) rfl rfl 31 (by decide) rfl wk_698 dX8_toLevel_9 ?_
        refine lv_bipush (v := nI (8)) hx hbc dX8_toLevel_12 (by decide) ?_
        refine lv_iload_n hx hbc dX8_toLevel_14 rfl (lv_at hl 1 rfl) ?_
        refine n_imul hx hbc dX8_toLevel_15 ?_
        refine lv_iload_n hx hbc dX8_toLevel_16 rfl (lv_at hl 2 rfl) ?_
        refine n_iadd hx hbc dX8_toLevel_17 ?_
        refine lv_aload_n hx hbc dX8_toLevel_18 rfl (lv_at hl 0 rfl) ?_
        refine wb_gr (t := 8) hx hbc hg hown w inG_X8 0 (by decide) rfl rfl 9 (by decide) rfl wk_676 dX8_toLevel_19 ?_
        refine lv_iload_n hx hbc dX8_toLevel_22 rfl (lv_at hl 2 rfl) ?_
        refine wb_iald (k := i) (v := (S.2.1 8) i) hx hbc w 8 (by decide) rfl 0 rfl rfl (by omega) (by decide) rfl dX8_toLevel_23 ?_
        refine wb_iast (k := (8 * k) + i) (f := pts (S.2.1 26) (8 * k) (S.2.1 8) i) hx hbc w 26 (by decide) rfl 0 rfl rfl (by omega) (by decide) rfl (sB_sB _ _ _ _) dX8_toLevel_24 (fun H locs w => ?_)
        refine lv_iinc (v := nI (i + 1)) (lv' := [(2, .int (nI (i + 1))), (0, .ref (ad (0))), (1, .int (nI (k)))]) hx hbc dX8_toLevel_25 hl (k := 2) rfl (ni_inc _ _) (by decide) rfl (fun ls hl => ?_)
        refine lv_goto (tgt := 2) hx hbc dX8_toLevel_28 (by decide) ?_
        exact ih_2 (i + 1) _ _ _ (by omega) (by omega) w (lv_sub hl [1, 2, 0] rfl)
  exact lp_2 9 0 _ _ _ (by omega) (by omega) (WB_cast w (sB_beg _ _ _ rfl)) (lv_sub hl [1, 2, 0] rfl)
set_option maxHeartbeats 4000000 in
set_option maxRecDepth 100000 in
theorem k_X8_layLevel (l : Launch) (D : va_G) (cy : Nat → ClassId) (ad : Nat → Nat) (S : wS) (tr : Nat) (htr : tr < 4) (n : Nat) (hn : S.2.1 22 tr = nI n) (hn2 : n ≤ 12) (lz : Nat → Nat) (hlz : ∀ i, i < n → S.2.1 24 (12 * tr + i) = nI (lz i) ∧ lz i ≤ 40) (hq : ∃ q, S.1 0 11 = nI q) : CtV l yX8_layLevel (Cond.code yX8_layLevel cX8_layLevel 5 none :: wsG) 3 77 [.ref (ad (0)), .int (nI (tr))] D (tyM cy) 31 cy ad skM E0 (S) (fun S' => agM S S' ∧ ∀ a, a < n → ∀ j, j < 8 → S'.2.1 26 (8 * a + j) = shaC (S.2.1 1) (S.2.1 2) (lfB (S.2.1 23 (12 * tr + a)) (nI (lz a)) (fun j => S.2.1 25 (40 * (12 * tr + a) + j))) (3 + lz a) j) := by
  refine CtV_of (by decide) (Nat.le_of_ble_eq_true rfl) ?_
  intro p e s m args below meth c A ls R Q hB hRf hRl hend
  obtain ⟨hx, hbc, hr, hg, hown, hml, hlk, w, hE, hl⟩ := hB
  have hl : lv_has ls 5 [(0, .ref (ad (0))), (1, .int (nI (tr)))] := hl
  refine lv_iconst (v := nI (0)) hx hbc dX8_layLevel_0 (by decide) ?_
  refine lv_istore_n (lv' := [(2, .int (nI (0))), (0, .ref (ad (0))), (1, .int (nI (tr)))]) hx hbc dX8_layLevel_1 rfl hl (by decide) rfl (fun ls hl => ?_)
  have lp_2 : ∀ (fu : Nat) (i : Nat) (S1 : wS) (H : Heap) (locs : List Loc) (ls : Array Slot), (n < i + fu) → (i ≤ n) → (agM S S1) → (∀ a, a < i → ∀ j, j < 8 → S1.2.1 26 (8 * a + j) = shaC (S.2.1 1) (S.2.1 2) (lfB (S.2.1 23 (12 * tr + a)) (nI (lz a)) (fun j => S.2.1 25 (40 * (12 * tr + a) + j))) (3 + lz a) j) → WB D (tyM cy) 31 cy ad skM A s (S1) H locs → lv_has ls 5 [(0, .ref (ad (0))), (1, .int (nI (tr))), (2, .int (nI (i)))] → W p l e R s m args below meth c H locs 0 0 Q (F0 m 2 ls []) := by
    intro fu
    induction fu with
    | zero =>
      intro i S1 H locs ls h1 h2 hag h3 w hl
      exact absurd h1 (by omega)
    | succ fu ih_2 =>
      intro i S1 H locs ls h1 h2 hag h3 w hl
      obtain ⟨q, hq1⟩ := hag.2.2
      refine lv_iload_n hx hbc dX8_layLevel_2 rfl (lv_at hl 2 rfl) ?_
      refine lv_aload_n hx hbc dX8_layLevel_3 rfl (lv_at hl 0 rfl) ?_
      refine wb_gr (t := 22) hx hbc hg hown w inG_X8 0 (by decide) rfl rfl 27 (by decide) rfl wk_694 dX8_layLevel_4 ?_
      refine lv_iload_n hx hbc dX8_layLevel_7 rfl (lv_at hl 1 rfl) ?_
      refine wb_iald (k := tr) (v := nI (n)) hx hbc w 22 (by decide) rfl 0 rfl rfl (by omega) (by decide) ((congrFun (hag.2.1 22 (by decide) (by decide) (by decide) (by decide)) tr).trans hn) dX8_layLevel_8 ?_
      refine n_cmp_ge (tgt := 101) (by omega) (by omega) hx hbc dX8_layLevel_9 (by decide) (fun c_9 => ?_) (fun c_9 => ?_)
      · exact hend _ _ _ _ _ ⟨hag, fun a ha j hj => h3 a (by omega) j hj⟩ w dX8_layLevel_101
      · have hlzi := (hlz i (by omega)).2
        refine lv_bipush (v := nI (12)) hx hbc dX8_layLevel_12 (by decide) ?_
        refine lv_iload_n hx hbc dX8_layLevel_14 rfl (lv_at hl 1 rfl) ?_
        refine n_imul hx hbc dX8_layLevel_15 ?_
        refine lv_iload_n hx hbc dX8_layLevel_16 rfl (lv_at hl 2 rfl) ?_
        refine n_iadd hx hbc dX8_layLevel_17 ?_
        refine lv_istore_n (lv' := [(3, .int (nI ((12 * tr) + i))), (0, .ref (ad (0))), (1, .int (nI (tr))), (2, .int (nI (i)))]) hx hbc dX8_layLevel_18 rfl hl (by decide) rfl (fun ls hl => ?_)
        refine lv_aload_n hx hbc dX8_layLevel_19 rfl (lv_at hl 1 rfl) ?_
        refine lv_iconst (v := nI (0)) hx hbc dX8_layLevel_20 (by decide) ?_
        refine wb_pi (v := nI (0)) hx hbc hg hown w inG_X8 tyX8 tyX8_ok nmX8 0 (by decide) rfl rfl 8 (by decide) rfl wk_675 rfl rfl rfl rfl dX8_layLevel_21 (fun H locs w => ?_)
        have w : WB D (tyM cy) 31 cy ad skM A s (pst S1 (S1.2.1 7) 0) H locs := WB_cast w (pst_0 _)
        refine lv_aload_n hx hbc dX8_layLevel_24 rfl (lv_at hl 1 rfl) ?_
        refine lv_iconst (v := nI (0)) hx hbc dX8_layLevel_25 (by decide) ?_
        refine wb_Vv (na := 1) (As := [.int (nI (0))]) (rest := []) hx hbc hml hg hown w E0_ok trivial w.1 Sub.self 0 (by decide) rfl rfl (k_X8_put l D cy ad (pst S1 (S1.2.1 7) 0) (nI (0)) 0 rfl (by omega)) wk_816 wk_9 wk_813 wk_815 ws_14 ⟨by decide, by decide, by decide⟩ ⟨by rw [hRf]; decide, by rw [hRl]; decide⟩ rfl hl.1 rfl (Nat.le_of_ble_eq_true rfl) dX8_layLevel_26 ⟨Nat.zero_le _, Nat.zero_le _⟩ (fun S9 H locs hp w => ?_)
        subst hp
        have w := WB_cast w (pst_pst _ _ _ _ _)
        have w : WB D (tyM cy) 31 cy ad skM A s (pst S1 (upd (S1.2.1 7) 0 (nI (0))) 1) H locs := w
        refine lv_aload_n hx hbc dX8_layLevel_29 rfl (lv_at hl 1 rfl) ?_
        refine lv_aload_n hx hbc dX8_layLevel_30 rfl (lv_at hl 1 rfl) ?_
        refine wb_gr (t := 23) hx hbc hg hown w inG_X8 0 (by decide) rfl rfl 28 (by decide) rfl wk_695 dX8_layLevel_31 ?_
        refine lv_iload_n hx hbc dX8_layLevel_34 rfl (lv_at hl 0 rfl) ?_
        refine wb_iald (k := (12 * tr) + i) (v := S.2.1 23 (12 * tr + i)) hx hbc w 23 (by decide) rfl 0 rfl rfl (by omega) (by decide) (congrFun (hag.2.1 23 (by decide) (by decide) (by decide) (by decide)) _) dX8_layLevel_35 ?_
        refine wb_Vv (na := 1) (As := [.int (S.2.1 23 (12 * tr + i))]) (rest := []) hx hbc hml hg hown w E0_ok trivial w.1 Sub.self 0 (by decide) rfl rfl (k_X8_put l D cy ad (pst S1 (upd (S1.2.1 7) 0 (nI (0))) 1) (S.2.1 23 (12 * tr + i)) 1 rfl (by omega)) wk_816 wk_9 wk_813 wk_815 ws_14 ⟨by decide, by decide, by decide⟩ ⟨by rw [hRf]; decide, by rw [hRl]; decide⟩ rfl hl.1 rfl (Nat.le_of_ble_eq_true rfl) dX8_layLevel_36 ⟨Nat.zero_le _, Nat.zero_le _⟩ (fun S9 H locs hp w => ?_)
        subst hp
        have w := WB_cast w (pst_pst _ _ _ _ _)
        have w : WB D (tyM cy) 31 cy ad skM A s (pst S1 (upd (upd (S1.2.1 7) 0 (nI (0))) 1 (S.2.1 23 (12 * tr + i))) 2) H locs := w
        refine lv_aload_n hx hbc dX8_layLevel_39 rfl (lv_at hl 1 rfl) ?_
        refine lv_aload_n hx hbc dX8_layLevel_40 rfl (lv_at hl 1 rfl) ?_
        refine wb_gr (t := 24) hx hbc hg hown w inG_X8 0 (by decide) rfl rfl 29 (by decide) rfl wk_696 dX8_layLevel_41 ?_
        refine lv_iload_n hx hbc dX8_layLevel_44 rfl (lv_at hl 0 rfl) ?_
        refine wb_iald (k := (12 * tr) + i) (v := nI (lz i)) hx hbc w 24 (by decide) rfl 0 rfl rfl (by omega) (by decide) ((congrFun (hag.2.1 24 (by decide) (by decide) (by decide) (by decide)) _).trans (hlz i (by omega)).1) dX8_layLevel_45 ?_
        refine wb_Vv (na := 1) (As := [.int (nI (lz i))]) (rest := []) hx hbc hml hg hown w E0_ok trivial w.1 Sub.self 0 (by decide) rfl rfl (k_X8_put l D cy ad (pst S1 (upd (upd (S1.2.1 7) 0 (nI (0))) 1 (S.2.1 23 (12 * tr + i))) 2) (nI (lz i)) 2 rfl (by omega)) wk_816 wk_9 wk_813 wk_815 ws_14 ⟨by decide, by decide, by decide⟩ ⟨by rw [hRf]; decide, by rw [hRl]; decide⟩ rfl hl.1 rfl (Nat.le_of_ble_eq_true rfl) dX8_layLevel_46 ⟨Nat.zero_le _, Nat.zero_le _⟩ (fun S9 H locs hp w => ?_)
        subst hp
        have w := WB_cast w (pst_pst _ _ _ _ _)
        have w : WB D (tyM cy) 31 cy ad skM A s (pst S1 (upd (upd (upd (S1.2.1 7) 0 (nI (0))) 1 (S.2.1 23 (12 * tr + i))) 2 (nI (lz i))) 3) H locs := w
        refine lv_iconst (v := nI (0)) hx hbc dX8_layLevel_49 (by decide) ?_
        refine lv_istore (lv' := [(4, .int (nI (0))), (3, .int (nI ((12 * tr) + i))), (0, .ref (ad (0))), (1, .int (nI (tr))), (2, .int (nI (i)))]) hx hbc dX8_layLevel_50 hl (by decide) rfl (fun ls hl => ?_)
        have lp_52 : ∀ (fu : Nat) (k : Nat) (H : Heap) (locs : List Loc) (ls : Array Slot), (lz i < k + fu) → (k ≤ lz i) → WB D (tyM cy) 31 cy ad skM A s (pst S1 (pts (upd (upd (upd (S1.2.1 7) 0 (nI (0))) 1 (S.2.1 23 (12 * tr + i))) 2 (nI (lz i))) 3 (fun j => S.2.1 25 (40 * (12 * tr + i) + j)) k) (3 + k)) H locs → lv_has ls 5 [(0, .ref (ad (0))), (1, .int (nI (tr))), (2, .int (nI (i))), (3, .int (nI (12 * tr + i))), (4, .int (nI (k)))] → W p l e R s m args below meth c H locs 0 0 Q (F0 m 52 ls []) := by
          intro fu
          induction fu with
          | zero =>
            intro k H locs ls g1 g2 w hl
            exact absurd g1 (by omega)
          | succ fu ih_52 =>
            intro k H locs ls g1 g2 w hl
            refine lv_iload hx hbc dX8_layLevel_52 (lv_at hl 4 rfl) ?_
            refine lv_aload_n hx hbc dX8_layLevel_54 rfl (lv_at hl 0 rfl) ?_
            refine wb_gr (t := 24) hx hbc hg hown w inG_X8 0 (by decide) rfl rfl 29 (by decide) rfl wk_696 dX8_layLevel_55 ?_
            refine lv_iload_n hx hbc dX8_layLevel_58 rfl (lv_at hl 3 rfl) ?_
            refine wb_iald (k := 12 * tr + i) (v := nI (lz i)) hx hbc w 24 (by decide) rfl 0 rfl rfl (by omega) (by decide) ((congrFun (hag.2.1 24 (by decide) (by decide) (by decide) (by decide)) _).trans (hlz i (by omega)).1) dX8_layLevel_59 ?_
            refine n_cmp_ge (tgt := 85) (by omega) (by omega) hx hbc dX8_layLevel_60 (by decide) (fun c_60 => ?_) (fun c_60 => ?_)
            · obtain rfl : lz i = k := by omega
              have hl := lv_sub (l' := [(0, .ref (ad (0))), (1, .int (nI (tr))), (2, .int (nI (i)))]) hl [0, 1, 2] rfl
              refine lv_aload_n hx hbc dX8_layLevel_85 rfl (lv_at hl 0 rfl) ?_
              refine lv_iconst (v := nI (0)) hx hbc dX8_layLevel_86 (by decide) ?_
              refine wb_Vv (na := 1) (As := [.int (nI (0))]) (rest := []) hx hbc hml hg hown w E0_ok trivial w.1 Sub.self 0 (by decide) rfl rfl (k_X8_work l D cy ad (S1) (pts (upd (upd (upd (S1.2.1 7) 0 (nI (0))) 1 (S.2.1 23 (12 * tr + i))) 2 (nI (lz i))) 3 (fun j => S.2.1 25 (40 * (12 * tr + i) + j)) (lz i)) (nI (0)) (3 + lz i) q (by omega) hq1) wk_820 wk_9 wk_817 wk_819 ws_15 ⟨by decide, by decide, by decide⟩ ⟨by rw [hRf]; decide, by rw [hRl]; decide⟩ rfl hl.1 rfl (Nat.le_of_ble_eq_true rfl) dX8_layLevel_87 ⟨Nat.zero_le _, Nat.zero_le _⟩ (fun S9 H locs hp w => ?_)
              subst hp
              have w : WB D (tyM cy) 31 cy ad skM A s (wrk S1 (nI (0)) (pts (upd (upd (upd (S1.2.1 7) 0 (nI (0))) 1 (S.2.1 23 (12 * tr + i))) 2 (nI (lz i))) 3 (fun j => S.2.1 25 (40 * (12 * tr + i) + j)) (lz i)) (3 + lz i) q) H locs := w
              refine lv_aload_n hx hbc dX8_layLevel_90 rfl (lv_at hl 0 rfl) ?_
              refine lv_iload_n hx hbc dX8_layLevel_91 rfl (lv_at hl 2 rfl) ?_
              refine wb_Vv (na := 1) (As := [.int (nI (i))]) (rest := []) hx hbc hml hg hown w E0_ok trivial w.1 Sub.self 0 (by decide) rfl rfl (k_X8_toLevel l D cy ad (wrk S1 (nI (0)) (pts (upd (upd (upd (S1.2.1 7) 0 (nI (0))) 1 (S.2.1 23 (12 * tr + i))) 2 (nI (lz i))) 3 (fun j => S.2.1 25 (40 * (12 * tr + i) + j)) (lz i)) (3 + lz i) q) i (by omega)) wk_908 wk_9 wk_905 wk_907 ws_23 ⟨by decide, by decide, by decide⟩ ⟨by rw [hRf]; decide, by rw [hRl]; decide⟩ rfl hl.1 rfl (Nat.le_of_ble_eq_true rfl) dX8_layLevel_92 ⟨Nat.zero_le _, Nat.zero_le _⟩ (fun S9 H locs hp w => ?_)
              subst hp
              have w : WB D (tyM cy) 31 cy ad skM A s (tlS (wrk S1 (nI (0)) (pts (upd (upd (upd (S1.2.1 7) 0 (nI (0))) 1 (S.2.1 23 (12 * tr + i))) 2 (nI (lz i))) 3 (fun j => S.2.1 25 (40 * (12 * tr + i) + j)) (lz i)) (3 + lz i) q) i) H locs := w
              refine lv_iinc (v := nI (i + 1)) (lv' := [(2, .int (nI (i + 1))), (0, .ref (ad (0))), (1, .int (nI (tr)))]) hx hbc dX8_layLevel_95 hl (k := 2) rfl (ni_inc _ _) (by decide) rfl (fun ls hl => ?_)
              refine lv_goto (tgt := 2) hx hbc dX8_layLevel_98 (by decide) ?_
              exact ih_2 (i + 1) (tlS (wrk S1 (nI (0)) (pts (upd (upd (upd (S1.2.1 7) 0 (nI (0))) 1 (S.2.1 23 (12 * tr + i))) 2 (nI (lz i))) 3 (fun j => S.2.1 25 (40 * (12 * tr + i) + j)) (lz i)) (3 + lz i) q) i) _ _ _ (by omega) (by omega) ((hag.wk _ _ _ _).lev _) (fun a ha j hj => lev_put (F := fun a j => shaC (S.2.1 1) (S.2.1 2) (lfB (S.2.1 23 (12 * tr + a)) (nI (lz a)) (fun j => S.2.1 25 (40 * (12 * tr + a) + j))) (3 + lz a) j) (fun a ha j hj => h3 a ha j hj) (fun j hj => ((shaS_C S1 (nI 0) _ _).1 j hj).trans (lfh_eq hag j hj)) a ha j hj) w (lv_sub hl [1, 2, 0] rfl)
            · refine lv_aload_n hx hbc dX8_layLevel_63 rfl (lv_at hl 0 rfl) ?_
              refine lv_aload_n hx hbc dX8_layLevel_64 rfl (lv_at hl 0 rfl) ?_
              refine wb_gr (t := 25) hx hbc hg hown w inG_X8 0 (by decide) rfl rfl 30 (by decide) rfl wk_697 dX8_layLevel_65 ?_
              refine lv_bipush (v := nI (40)) hx hbc dX8_layLevel_68 (by decide) ?_
              refine lv_iload_n hx hbc dX8_layLevel_70 rfl (lv_at hl 3 rfl) ?_
              refine n_imul hx hbc dX8_layLevel_71 ?_
              refine lv_iload hx hbc dX8_layLevel_72 (lv_at hl 4 rfl) ?_
              refine n_iadd hx hbc dX8_layLevel_74 ?_
              refine wb_iald (k := (40 * (12 * tr + i)) + k) (v := S.2.1 25 (40 * (12 * tr + i) + k)) hx hbc w 25 (by decide) rfl 0 rfl rfl (by omega) (by decide) (congrFun (hag.2.1 25 (by decide) (by decide) (by decide) (by decide)) _) dX8_layLevel_75 ?_
              refine wb_Vv (na := 1) (As := [.int (S.2.1 25 (40 * (12 * tr + i) + k))]) (rest := []) hx hbc hml hg hown w E0_ok trivial w.1 Sub.self 0 (by decide) rfl rfl (k_X8_put l D cy ad (pst S1 (pts (upd (upd (upd (S1.2.1 7) 0 (nI (0))) 1 (S.2.1 23 (12 * tr + i))) 2 (nI (lz i))) 3 (fun j => S.2.1 25 (40 * (12 * tr + i) + j)) k) (3 + k)) (S.2.1 25 (40 * (12 * tr + i) + k)) (3 + k) rfl (by omega)) wk_816 wk_9 wk_813 wk_815 ws_14 ⟨by decide, by decide, by decide⟩ ⟨by rw [hRf]; decide, by rw [hRl]; decide⟩ rfl hl.1 rfl (Nat.le_of_ble_eq_true rfl) dX8_layLevel_76 ⟨Nat.zero_le _, Nat.zero_le _⟩ (fun S9 H locs hp w => ?_)
              subst hp
              have w := WB_cast w (pst_pst _ _ _ _ _)
              have w : WB D (tyM cy) 31 cy ad skM A s (pst S1 (upd (pts (upd (upd (upd (S1.2.1 7) 0 (nI (0))) 1 (S.2.1 23 (12 * tr + i))) 2 (nI (lz i))) 3 (fun j => S.2.1 25 (40 * (12 * tr + i) + j)) k) (3 + k) (S.2.1 25 (40 * (12 * tr + i) + k))) (3 + k + 1)) H locs := w
              refine lv_iinc (v := nI (k + 1)) (lv' := [(4, .int (nI (k + 1))), (0, .ref (ad (0))), (1, .int (nI (tr))), (2, .int (nI (i))), (3, .int (nI (12 * tr + i)))]) hx hbc dX8_layLevel_79 hl (k := 4) rfl (ni_inc _ _) (by decide) rfl (fun ls hl => ?_)
              refine lv_goto (tgt := 52) hx hbc dX8_layLevel_82 (by decide) ?_
              exact ih_52 (k + 1) _ _ _ (by omega) (by omega) w (lv_sub hl [1, 2, 3, 4, 0] rfl)
        exact lp_52 (lz i + 1) 0 _ _ _ (by omega) (by omega) w (lv_sub hl [2, 3, 4, 1, 0] rfl)
  exact lp_2 (n + 1) 0 S _ _ _ (by omega) (by omega) (agM.rf hq) (fun _ h9 => absurd h9 (Nat.not_lt_zero _)) w (lv_sub hl [1, 2, 0] rfl)
set_option maxHeartbeats 4000000 in
set_option maxRecDepth 100000 in
theorem k_X8_rise (l : Launch) (D : va_G) (cy : Nat → ClassId) (ad : Nat → Nat) (S : wS) (n : Nat) (hn : n ≤ 12) (hn1 : 1 ≤ n) (hq : ∃ q, S.1 0 11 = nI q) : CtI l yX8_rise (Cond.code yX8_rise cX8_rise 4 (some .int) :: wsG) 3 77 [.ref (ad (0)), .int (nI (n))] D (tyM cy) 31 cy ad skM E0 (S) (fun r S' => r = nI ((n + 1) / 2) ∧ agM S S' ∧ ∀ a, a < (n + 1) / 2 → ∀ j, j < 8 → S'.2.1 26 (8 * a + j) = riS S n a j) := by
  refine CtI_of (by decide) (Nat.le_of_ble_eq_true rfl) ?_
  intro p e s m args below meth c A ls R Q hB hRf hRl hend
  obtain ⟨hx, hbc, hr, hg, hown, hml, hlk, w, hE, hl⟩ := hB
  have hl : lv_has ls 4 [(0, .ref (ad (0))), (1, .int (nI (n)))] := hl
  refine lv_iconst (v := nI (0)) hx hbc dX8_rise_0 (by decide) ?_
  refine lv_istore_n (lv' := [(2, .int (nI (0))), (0, .ref (ad (0))), (1, .int (nI (n)))]) hx hbc dX8_rise_1 rfl hl (by decide) rfl (fun ls hl => ?_)
  have lp_2 : ∀ (fu : Nat) (p9 : Nat) (S1 : wS) (H : Heap) (locs : List Loc) (ls : Array Slot), (n < 2 * p9 + 2 * fu) → (2 * p9 ≤ n) → (agM S S1) → ((∀ a, a < p9 → ∀ j, j < 8 → S1.2.1 26 (8 * a + j) = prH (S.2.1 1) (S.2.1 2) (fun j => S.2.1 26 (8 * (2 * a) + j)) (fun j => S.2.1 26 (8 * (2 * a + 1) + j)) j) ∧ ∀ a, 2 * p9 ≤ a → ∀ j, j < 8 → S1.2.1 26 (8 * a + j) = S.2.1 26 (8 * a + j)) → WB D (tyM cy) 31 cy ad skM A s (S1) H locs → lv_has ls 4 [(0, .ref (ad (0))), (1, .int (nI (n))), (2, .int (nI (2 * p9)))] → W p l e R s m args below meth c H locs 0 0 Q (F0 m 2 ls []) := by
    intro fu
    induction fu with
    | zero =>
      intro p9 S1 H locs ls h1 h2 hag h3 w hl
      exact absurd h1 (by omega)
    | succ fu ih_2 =>
      intro p9 S1 H locs ls h1 h2 hag h3 w hl
      obtain ⟨q, hq1⟩ := hag.2.2
      obtain ⟨h4, h5⟩ := h3
      refine lv_iload_n hx hbc dX8_rise_2 rfl (lv_at hl 2 rfl) ?_
      refine lv_iconst (v := nI (1)) hx hbc dX8_rise_3 (by decide) ?_
      refine n_iadd hx hbc dX8_rise_4 ?_
      refine lv_iload_n hx hbc dX8_rise_5 rfl (lv_at hl 1 rfl) ?_
      refine n_cmp_ge (tgt := 66) (by omega) (by omega) hx hbc dX8_rise_6 (by decide) (fun c_6 => ?_) (fun c_6 => ?_)
      · have hp9 : n = 2 * p9 ∨ n = 2 * p9 + 1 := by omega
        have hl := lv_sub (l' := [(0, .ref (ad (0))), (1, .int (nI (n)))]) hl [0, 1] rfl
        refine lv_iconst (v := nI (0)) hx hbc dX8_rise_66 (by decide) ?_
        refine lv_istore_n (lv' := [(2, .int (nI (0))), (0, .ref (ad (0))), (1, .int (nI (n)))]) hx hbc dX8_rise_67 rfl hl (by decide) rfl (fun ls hl => ?_)
        have lp_68 : ∀ (fu : Nat) (i : Nat) (H : Heap) (locs : List Loc) (ls : Array Slot), (8 < i + fu) → (i ≤ 8) → (i = 0 ∨ n % 2 = 1) → WB D (tyM cy) 31 cy ad skM A s (sB S1 26 (pts (S1.2.1 26) (8 * (n / 2)) (fun i => S1.2.1 26 (8 * (n - 1) + i)) i)) H locs → lv_has ls 4 [(0, .ref (ad (0))), (1, .int (nI (n))), (2, .int (nI (i)))] → W p l e R s m args below meth c H locs 0 0 Q (F0 m 68 ls []) := by
          intro fu
          induction fu with
          | zero =>
            intro i H locs ls g1 g2 g3 w hl
            exact absurd g1 (by omega)
          | succ fu ih_68 =>
            intro i H locs ls g1 g2 g3 w hl
            refine lv_iload_n hx hbc dX8_rise_68 rfl (lv_at hl 1 rfl) ?_
            refine lv_iconst (v := nI (2)) hx hbc dX8_rise_69 (by decide) ?_
            refine n_irem (by omega) (by omega) (by omega) hx hbc dX8_rise_70 ?_
            refine lv_iconst (v := nI (1)) hx hbc dX8_rise_71 (by decide) ?_
            refine n_cmp_ne (tgt := 113) (by omega) (by omega) hx hbc dX8_rise_72 (by decide) (fun c_72 => ?_) (fun c_72 => ?_)
            · refine lv_iload_n hx hbc dX8_rise_113 rfl (lv_at hl 1 rfl) ?_
              refine lv_iconst (v := nI (1)) hx hbc dX8_rise_114 (by decide) ?_
              refine n_iadd hx hbc dX8_rise_115 ?_
              refine lv_iconst (v := nI (2)) hx hbc dX8_rise_116 (by decide) ?_
              refine n_idiv (by omega) (by omega) (by omega) hx hbc dX8_rise_117 ?_
              exact hend _ _ _ _ _ _ ⟨rfl, hag.lev _, rise_even hp9 c_72 g3 h4⟩ rfl w dX8_rise_118
            · refine lv_iload_n hx hbc dX8_rise_75 rfl (lv_at hl 2 rfl) ?_
              refine lv_bipush (v := nI (8)) hx hbc dX8_rise_76 (by decide) ?_
              refine n_cmp_ge (tgt := 113) (by omega) (by omega) hx hbc dX8_rise_78 (by decide) (fun c_78 => ?_) (fun c_78 => ?_)
              · refine lv_iload_n hx hbc dX8_rise_113 rfl (lv_at hl 1 rfl) ?_
                refine lv_iconst (v := nI (1)) hx hbc dX8_rise_114 (by decide) ?_
                refine n_iadd hx hbc dX8_rise_115 ?_
                refine lv_iconst (v := nI (2)) hx hbc dX8_rise_116 (by decide) ?_
                refine n_idiv (by omega) (by omega) (by omega) hx hbc dX8_rise_117 ?_
                exact hend _ _ _ _ _ _ ⟨rfl, hag.lev _, rise_odd hp9 c_72 (by omega) h4 h5⟩ rfl w dX8_rise_118
              · refine lv_aload_n hx hbc dX8_rise_81 rfl (lv_at hl 0 rfl) ?_
                refine wb_gr (t := 26) hx hbc hg hown w inG_X8 0 (by decide) rfl rfl 31 (by decide) rfl wk_698 dX8_rise_82 ?_
                refine lv_bipush (v := nI (8)) hx hbc dX8_rise_85 (by decide) ?_
                refine lv_iload_n hx hbc dX8_rise_87 rfl (lv_at hl 1 rfl) ?_
                refine lv_iconst (v := nI (2)) hx hbc dX8_rise_88 (by decide) ?_
                refine n_idiv (by omega) (by omega) (by omega) hx hbc dX8_rise_89 ?_
                refine n_imul hx hbc dX8_rise_90 ?_
                refine lv_iload_n hx hbc dX8_rise_91 rfl (lv_at hl 2 rfl) ?_
                refine n_iadd hx hbc dX8_rise_92 ?_
                refine lv_aload_n hx hbc dX8_rise_93 rfl (lv_at hl 0 rfl) ?_
                refine wb_gr (t := 26) hx hbc hg hown w inG_X8 0 (by decide) rfl rfl 31 (by decide) rfl wk_698 dX8_rise_94 ?_
                refine lv_bipush (v := nI (8)) hx hbc dX8_rise_97 (by decide) ?_
                refine lv_iload_n hx hbc dX8_rise_99 rfl (lv_at hl 1 rfl) ?_
                refine lv_iconst (v := nI (1)) hx hbc dX8_rise_100 (by decide) ?_
                refine n_isub (by omega) hx hbc dX8_rise_101 ?_
                refine n_imul hx hbc dX8_rise_102 ?_
                refine lv_iload_n hx hbc dX8_rise_103 rfl (lv_at hl 2 rfl) ?_
                refine n_iadd hx hbc dX8_rise_104 ?_
                refine wb_iald (k := (8 * (n - 1)) + i) (v := S1.2.1 26 (8 * (n - 1) + i)) hx hbc w 26 (by decide) rfl 0 rfl rfl (by omega) (by decide) (rise_rd (by omega)) dX8_rise_105 ?_
                refine wb_iast (k := (8 * (n / 2)) + i) (f := pts (S1.2.1 26) (8 * (n / 2)) (fun i => S1.2.1 26 (8 * (n - 1) + i)) i) hx hbc w 26 (by decide) rfl 0 rfl rfl (by omega) (by decide) rfl (sB_sB _ _ _ _) dX8_rise_106 (fun H locs w => ?_)
                refine lv_iinc (v := nI (i + 1)) (lv' := [(2, .int (nI (i + 1))), (0, .ref (ad (0))), (1, .int (nI (n)))]) hx hbc dX8_rise_107 hl (k := 2) rfl (ni_inc _ _) (by decide) rfl (fun ls hl => ?_)
                refine lv_goto (tgt := 68) hx hbc dX8_rise_110 (by decide) ?_
                exact ih_68 (i + 1) _ _ _ (by omega) (by omega) (Or.inr c_72) w (lv_sub hl [1, 2, 0] rfl)
        exact lp_68 9 0 _ _ _ (by omega) (by omega) (Or.inl rfl) (WB_cast w (sB_beg _ _ _ rfl)) (lv_sub hl [1, 2, 0] rfl)
      · refine lv_aload_n hx hbc dX8_rise_9 rfl (lv_at hl 0 rfl) ?_
        refine lv_iconst (v := nI (0)) hx hbc dX8_rise_10 (by decide) ?_
        refine wb_pi (v := nI (0)) hx hbc hg hown w inG_X8 tyX8 tyX8_ok nmX8 0 (by decide) rfl rfl 8 (by decide) rfl wk_675 rfl rfl rfl rfl dX8_rise_11 (fun H locs w => ?_)
        have w : WB D (tyM cy) 31 cy ad skM A s (pst S1 (S1.2.1 7) 0) H locs := WB_cast w (pst_0 _)
        refine lv_aload_n hx hbc dX8_rise_14 rfl (lv_at hl 0 rfl) ?_
        refine lv_iconst (v := nI (1)) hx hbc dX8_rise_15 (by decide) ?_
        refine wb_Vv (na := 1) (As := [.int (nI (1))]) (rest := []) hx hbc hml hg hown w E0_ok trivial w.1 Sub.self 0 (by decide) rfl rfl (k_X8_put l D cy ad (pst S1 (S1.2.1 7) 0) (nI (1)) 0 rfl (by omega)) wk_816 wk_9 wk_813 wk_815 ws_14 ⟨by decide, by decide, by decide⟩ ⟨by rw [hRf]; decide, by rw [hRl]; decide⟩ rfl hl.1 rfl (Nat.le_of_ble_eq_true rfl) dX8_rise_16 ⟨Nat.zero_le _, Nat.zero_le _⟩ (fun S9 H locs hp w => ?_)
        subst hp
        have w := WB_cast w (pst_pst _ _ _ _ _)
        have w : WB D (tyM cy) 31 cy ad skM A s (pst S1 (upd (S1.2.1 7) 0 (nI (1))) 1) H locs := w
        refine lv_iconst (v := nI (0)) hx hbc dX8_rise_19 (by decide) ?_
        refine lv_istore_n (lv' := [(3, .int (nI (0))), (0, .ref (ad (0))), (1, .int (nI (n))), (2, .int (nI (2 * p9)))]) hx hbc dX8_rise_20 rfl hl (by decide) rfl (fun ls hl => ?_)
        have lp_21 : ∀ (fu : Nat) (i : Nat) (H : Heap) (locs : List Loc) (ls : Array Slot), (16 < i + fu) → (i ≤ 16) → WB D (tyM cy) 31 cy ad skM A s (pst S1 (pwd (upd (S1.2.1 7) 0 (nI (1))) 1 (fun i => S1.2.1 26 (8 * (2 * p9) + i)) i) (1 + 4 * i)) H locs → lv_has ls 4 [(0, .ref (ad (0))), (1, .int (nI (n))), (2, .int (nI (2 * p9))), (3, .int (nI (i)))] → W p l e R s m args below meth c H locs 0 0 Q (F0 m 21 ls []) := by
          intro fu
          induction fu with
          | zero =>
            intro i H locs ls g1 g2 w hl
            exact absurd g1 (by omega)
          | succ fu ih_21 =>
            intro i H locs ls g1 g2 w hl
            refine lv_iload_n hx hbc dX8_rise_21 rfl (lv_at hl 3 rfl) ?_
            refine lv_bipush (v := nI (16)) hx hbc dX8_rise_22 (by decide) ?_
            refine n_cmp_ge (tgt := 48) (by omega) (by omega) hx hbc dX8_rise_24 (by decide) (fun c_24 => ?_) (fun c_24 => ?_)
            · obtain rfl : i = 16 := by omega
              have hl := lv_sub (l' := [(0, .ref (ad (0))), (1, .int (nI (n))), (2, .int (nI (2 * p9)))]) hl [0, 1, 2] rfl
              refine lv_aload_n hx hbc dX8_rise_48 rfl (lv_at hl 0 rfl) ?_
              refine lv_iconst (v := nI (0)) hx hbc dX8_rise_49 (by decide) ?_
              refine wb_Vv (na := 1) (As := [.int (nI (0))]) (rest := []) hx hbc hml hg hown w E0_ok trivial w.1 Sub.self 0 (by decide) rfl rfl (k_X8_work l D cy ad (S1) (pwd (upd (S1.2.1 7) 0 (nI (1))) 1 (fun i => S1.2.1 26 (8 * (2 * p9) + i)) 16) (nI (0)) (1 + 4 * 16) q (by omega) hq1) wk_820 wk_9 wk_817 wk_819 ws_15 ⟨by decide, by decide, by decide⟩ ⟨by rw [hRf]; decide, by rw [hRl]; decide⟩ rfl hl.1 rfl (Nat.le_of_ble_eq_true rfl) dX8_rise_50 ⟨Nat.zero_le _, Nat.zero_le _⟩ (fun S9 H locs hp w => ?_)
              subst hp
              have w : WB D (tyM cy) 31 cy ad skM A s (wrk S1 (nI (0)) (pwd (upd (S1.2.1 7) 0 (nI (1))) 1 (fun i => S1.2.1 26 (8 * (2 * p9) + i)) 16) (1 + 4 * 16) q) H locs := w
              refine lv_aload_n hx hbc dX8_rise_53 rfl (lv_at hl 0 rfl) ?_
              refine lv_iload_n hx hbc dX8_rise_54 rfl (lv_at hl 2 rfl) ?_
              refine lv_iconst (v := nI (2)) hx hbc dX8_rise_55 (by decide) ?_
              refine n_idiv (by omega) (by omega) (by omega) hx hbc dX8_rise_56 ?_
              refine wb_Vv (na := 1) (As := [.int (nI ((2 * p9) / 2))]) (rest := []) hx hbc hml hg hown w E0_ok trivial w.1 Sub.self 0 (by decide) rfl rfl (k_X8_toLevel l D cy ad (wrk S1 (nI (0)) (pwd (upd (S1.2.1 7) 0 (nI (1))) 1 (fun i => S1.2.1 26 (8 * (2 * p9) + i)) 16) (1 + 4 * 16) q) ((2 * p9) / 2) (by omega)) wk_908 wk_9 wk_905 wk_907 ws_23 ⟨by decide, by decide, by decide⟩ ⟨by rw [hRf]; decide, by rw [hRl]; decide⟩ rfl hl.1 rfl (Nat.le_of_ble_eq_true rfl) dX8_rise_57 ⟨Nat.zero_le _, Nat.zero_le _⟩ (fun S9 H locs hp w => ?_)
              subst hp
              have w : WB D (tyM cy) 31 cy ad skM A s (tlS (wrk S1 (nI (0)) (pwd (upd (S1.2.1 7) 0 (nI (1))) 1 (fun i => S1.2.1 26 (8 * (2 * p9) + i)) 16) (1 + 4 * 16) q) ((2 * p9) / 2)) H locs := w
              refine lv_iinc (v := nI (2 * p9 + 2)) (lv' := [(2, .int (nI (2 * p9 + 2))), (0, .ref (ad (0))), (1, .int (nI (n)))]) hx hbc dX8_rise_60 hl (k := 2) rfl (ni_inc _ _) (by decide) rfl (fun ls hl => ?_)
              refine lv_goto (tgt := 2) hx hbc dX8_rise_63 (by decide) ?_
              exact ih_2 (p9 + 1) (tlS (wrk S1 (nI (0)) (pwd (upd (S1.2.1 7) 0 (nI (1))) 1 (fun i => S1.2.1 26 (8 * (2 * p9) + i)) 16) (1 + 4 * 16) q) ((2 * p9) / 2)) _ _ _ (by omega) (by omega) ((hag.wk _ _ _ _).lev _) (rise_step (by decide) (by omega) hag h4 h5) w (lv_sub hl [1, 2, 0] rfl)
            · refine lv_aload_n hx hbc dX8_rise_27 rfl (lv_at hl 0 rfl) ?_
              refine lv_aload_n hx hbc dX8_rise_28 rfl (lv_at hl 0 rfl) ?_
              refine wb_gr (t := 26) hx hbc hg hown w inG_X8 0 (by decide) rfl rfl 31 (by decide) rfl wk_698 dX8_rise_29 ?_
              refine lv_bipush (v := nI (8)) hx hbc dX8_rise_32 (by decide) ?_
              refine lv_iload_n hx hbc dX8_rise_34 rfl (lv_at hl 2 rfl) ?_
              refine n_imul hx hbc dX8_rise_35 ?_
              refine lv_iload_n hx hbc dX8_rise_36 rfl (lv_at hl 3 rfl) ?_
              refine n_iadd hx hbc dX8_rise_37 ?_
              refine wb_iald (k := (8 * (2 * p9)) + i) (v := (S1.2.1 26) ((8 * (2 * p9)) + i)) hx hbc w 26 (by decide) rfl 0 rfl rfl (by omega) (by decide) rfl dX8_rise_38 ?_
              refine wb_Vv (na := 1) (As := [.int ((S1.2.1 26) ((8 * (2 * p9)) + i))]) (rest := []) hx hbc hml hg hown w E0_ok trivial w.1 Sub.self 0 (by decide) rfl rfl (k_X8_putWord l D cy ad (S1) (pwd (upd (S1.2.1 7) 0 (nI (1))) 1 (fun i => S1.2.1 26 (8 * (2 * p9) + i)) i) ((S1.2.1 26) ((8 * (2 * p9)) + i)) (1 + 4 * i) (by omega)) wk_916 wk_9 wk_913 wk_915 ws_25 ⟨by decide, by decide, by decide⟩ ⟨by rw [hRf]; decide, by rw [hRl]; decide⟩ rfl hl.1 rfl (Nat.le_of_ble_eq_true rfl) dX8_rise_39 ⟨Nat.zero_le _, Nat.zero_le _⟩ (fun S9 H locs hp w => ?_)
              subst hp
              have w : WB D (tyM cy) 31 cy ad skM A s (pst S1 (pw4 (pwd (upd (S1.2.1 7) 0 (nI (1))) 1 (fun i => S1.2.1 26 (8 * (2 * p9) + i)) i) (1 + 4 * i) ((S1.2.1 26) ((8 * (2 * p9)) + i))) (1 + 4 * i + 1 + 1 + 1 + 1)) H locs := w
              refine lv_iinc (v := nI (i + 1)) (lv' := [(3, .int (nI (i + 1))), (0, .ref (ad (0))), (1, .int (nI (n))), (2, .int (nI (2 * p9)))]) hx hbc dX8_rise_42 hl (k := 3) rfl (ni_inc _ _) (by decide) rfl (fun ls hl => ?_)
              refine lv_goto (tgt := 21) hx hbc dX8_rise_45 (by decide) ?_
              exact ih_21 (i + 1) _ _ _ (by omega) (by omega) w (lv_sub hl [1, 2, 3, 0] rfl)
        exact lp_21 17 0 _ _ _ (by omega) (by omega) w (lv_sub hl [1, 2, 3, 0] rfl)
  exact lp_2 (n + 1) 0 S _ _ _ (by omega) (by omega) (agM.rf hq) ⟨fun _ h9 => absurd h9 (Nat.not_lt_zero _), fun _ _ _ _ => rfl⟩ w (lv_sub hl [1, 2, 0] rfl)
set_option maxHeartbeats 4000000 in
set_option maxRecDepth 100000 in
theorem k_X8_workRoot (l : Launch) (D : va_G) (cy : Nat → ClassId) (ad : Nat → Nat) (S : wS) (n : Nat) (hn : n ≤ 12) : CtV l yX8_workRoot (Cond.code yX8_workRoot cX8_workRoot 3 none :: wsG) 3 77 [.ref (ad (0)), .int (nI (n))] D (tyM cy) 31 cy ad skM E0 (S) (fun S' => S' = wrS S n) := by
  refine CtV_of (by decide) (Nat.le_of_ble_eq_true rfl) ?_
  intro p e s m args below meth c A ls R Q hB hRf hRl hend
  obtain ⟨hx, hbc, hr, hg, hown, hml, hlk, w, hE, hl⟩ := hB
  have hl : lv_has ls 3 [(0, .ref (ad (0))), (1, .int (nI (n)))] := hl
  refine lv_aload_n hx hbc dX8_workRoot_0 rfl (lv_at hl 0 rfl) ?_
  refine lv_iconst (v := nI (0)) hx hbc dX8_workRoot_1 (by decide) ?_
  refine wb_pi (v := nI (0)) hx hbc hg hown w inG_X8 tyX8 tyX8_ok nmX8 0 (by decide) rfl rfl 8 (by decide) rfl wk_675 rfl rfl rfl rfl dX8_workRoot_2 (fun H locs w => ?_)
  refine lv_aload_n hx hbc dX8_workRoot_5 rfl (lv_at hl 0 rfl) ?_
  refine lv_iconst (v := nI (0)) hx hbc dX8_workRoot_6 (by decide) ?_
  refine wb_pi (v := nI (0)) hx hbc hg hown w inG_X8 tyX8 tyX8_ok nmX8 0 (by decide) rfl rfl 11 (by decide) rfl wk_678 rfl rfl rfl rfl dX8_workRoot_7 (fun H locs w => ?_)
  have w : WB D (tyM cy) 31 cy ad skM A s (pst (sI S 0 11 (nI (0))) (S.2.1 7) 0) H locs := WB_cast w (pst_0b _ _)
  refine lv_aload_n hx hbc dX8_workRoot_10 rfl (lv_at hl 0 rfl) ?_
  refine lv_iconst (v := nI (2)) hx hbc dX8_workRoot_11 (by decide) ?_
  refine wb_Vv (na := 1) (As := [.int (nI (2))]) (rest := []) hx hbc hml hg hown w E0_ok trivial w.1 Sub.self 0 (by decide) rfl rfl (k_X8_put l D cy ad (pst (sI S 0 11 (nI (0))) (S.2.1 7) 0) (nI (2)) 0 rfl (by omega)) wk_816 wk_9 wk_813 wk_815 ws_14 ⟨by decide, by decide, by decide⟩ ⟨by rw [hRf]; decide, by rw [hRl]; decide⟩ rfl hl.1 rfl (Nat.le_of_ble_eq_true rfl) dX8_workRoot_12 ⟨Nat.zero_le _, Nat.zero_le _⟩ (fun S9 H locs hp w => ?_)
  subst hp
  have w := WB_cast w (pst_pst _ _ _ _ _)
  have w : WB D (tyM cy) 31 cy ad skM A s (pst (sI S 0 11 (nI (0))) (upd (S.2.1 7) 0 (nI (2))) 1) H locs := w
  refine lv_aload_n hx hbc dX8_workRoot_15 rfl (lv_at hl 0 rfl) ?_
  refine lv_iload_n hx hbc dX8_workRoot_16 rfl (lv_at hl 1 rfl) ?_
  refine wb_Vv (na := 1) (As := [.int (nI (n))]) (rest := []) hx hbc hml hg hown w E0_ok trivial w.1 Sub.self 0 (by decide) rfl rfl (k_X8_put l D cy ad (pst (sI S 0 11 (nI (0))) (upd (S.2.1 7) 0 (nI (2))) 1) (nI (n)) 1 rfl (by omega)) wk_816 wk_9 wk_813 wk_815 ws_14 ⟨by decide, by decide, by decide⟩ ⟨by rw [hRf]; decide, by rw [hRl]; decide⟩ rfl hl.1 rfl (Nat.le_of_ble_eq_true rfl) dX8_workRoot_17 ⟨Nat.zero_le _, Nat.zero_le _⟩ (fun S9 H locs hp w => ?_)
  subst hp
  have w := WB_cast w (pst_pst _ _ _ _ _)
  have w : WB D (tyM cy) 31 cy ad skM A s (pst (sI S 0 11 (nI (0))) (upd (upd (S.2.1 7) 0 (nI (2))) 1 (nI (n))) 2) H locs := w
  refine lv_iconst (v := nI (0)) hx hbc dX8_workRoot_20 (by decide) ?_
  refine lv_istore_n (lv' := [(2, .int (nI (0))), (0, .ref (ad (0))), (1, .int (nI (n)))]) hx hbc dX8_workRoot_21 rfl hl (by decide) rfl (fun ls hl => ?_)
  have lp_22 : ∀ (fu : Nat) (i : Nat) (H : Heap) (locs : List Loc) (ls : Array Slot), (8 < i + fu) → (i ≤ 8) → WB D (tyM cy) 31 cy ad skM A s (pst (sI S 0 11 (nI (0))) (pwd (upd (upd (S.2.1 7) 0 (nI (2))) 1 (nI (n))) 2 (fun i => if nI n = 0 then nI (0) else S.2.1 26 i) i) (2 + 4 * i)) H locs → lv_has ls 3 [(0, .ref (ad (0))), (1, .int (nI (n))), (2, .int (nI (i)))] → W p l e R s m args below meth c H locs 0 0 Q (F0 m 22 ls []) := by
    intro fu
    induction fu with
    | zero =>
      intro i H locs ls g1 g2 w hl
      exact absurd g1 (by omega)
    | succ fu ih_22 =>
      intro i H locs ls g1 g2 w hl
      refine lv_iload_n hx hbc dX8_workRoot_22 rfl (lv_at hl 2 rfl) ?_
      refine lv_bipush (v := nI (8)) hx hbc dX8_workRoot_23 (by decide) ?_
      refine n_cmp_ge (tgt := 52) (by omega) (by omega) hx hbc dX8_workRoot_25 (by decide) (fun c_25 => ?_) (fun c_25 => ?_)
      · obtain rfl : i = 8 := by omega
        refine lv_aload_n hx hbc dX8_workRoot_52 rfl (lv_at hl 0 rfl) ?_
        refine lv_iconst (v := nI (0)) hx hbc dX8_workRoot_53 (by decide) ?_
        refine wb_Vv (na := 1) (As := [.int (nI (0))]) (rest := []) hx hbc hml hg hown w E0_ok trivial w.1 Sub.self 0 (by decide) rfl rfl (k_X8_work l D cy ad (sI S 0 11 (nI (0))) (pwd (upd (upd (S.2.1 7) 0 (nI (2))) 1 (nI (n))) 2 (fun i => if nI n = 0 then nI (0) else S.2.1 26 i) 8) (nI (0)) (2 + 4 * 8) 0 (by omega) rfl) wk_820 wk_9 wk_817 wk_819 ws_15 ⟨by decide, by decide, by decide⟩ ⟨by rw [hRf]; decide, by rw [hRl]; decide⟩ rfl hl.1 rfl (Nat.le_of_ble_eq_true rfl) dX8_workRoot_54 ⟨Nat.zero_le _, Nat.zero_le _⟩ (fun S9 H locs hp w => ?_)
        subst hp
        have w : WB D (tyM cy) 31 cy ad skM A s (wrk (sI S 0 11 (nI (0))) (nI (0)) (pwd (upd (upd (S.2.1 7) 0 (nI (2))) 1 (nI (n))) 2 (fun i => if nI n = 0 then nI (0) else S.2.1 26 i) 8) (2 + 4 * 8) 0) H locs := w
        exact hend _ _ _ _ _ rfl w dX8_workRoot_57
      · refine lv_aload_n hx hbc dX8_workRoot_28 rfl (lv_at hl 0 rfl) ?_
        refine lv_iload_n hx hbc dX8_workRoot_29 rfl (lv_at hl 1 rfl) ?_
        refine lv_if_ne (tgt := 37) hx hbc dX8_workRoot_30 (by decide) (fun c_30 => ?_) (fun c_30 => ?_)
        · refine lv_aload_n hx hbc dX8_workRoot_37 rfl (lv_at hl 0 rfl) ?_
          refine wb_gr (t := 26) hx hbc hg hown w inG_X8 0 (by decide) rfl rfl 31 (by decide) rfl wk_698 dX8_workRoot_38 ?_
          refine lv_iload_n hx hbc dX8_workRoot_41 rfl (lv_at hl 2 rfl) ?_
          refine wb_iald (k := i) (v := (S.2.1 26) i) hx hbc w 26 (by decide) rfl 0 rfl rfl (by omega) (by decide) rfl dX8_workRoot_42 ?_
          refine wb_Vv (na := 1) (As := [.int ((S.2.1 26) i)]) (rest := []) hx hbc hml hg hown w E0_ok trivial w.1 Sub.self 0 (by decide) rfl rfl (k_X8_putWord l D cy ad (sI S 0 11 (nI (0))) (pwd (upd (upd (S.2.1 7) 0 (nI (2))) 1 (nI (n))) 2 (fun i => if nI n = 0 then nI (0) else S.2.1 26 i) i) ((S.2.1 26) i) (2 + 4 * i) (by omega)) wk_916 wk_9 wk_913 wk_915 ws_25 ⟨by decide, by decide, by decide⟩ ⟨by rw [hRf]; decide, by rw [hRl]; decide⟩ rfl hl.1 rfl (Nat.le_of_ble_eq_true rfl) dX8_workRoot_43 ⟨Nat.zero_le _, Nat.zero_le _⟩ (fun S9 H locs hp w => ?_)
          subst hp
          have w : WB D (tyM cy) 31 cy ad skM A s (pst (sI S 0 11 (nI (0))) (pw4 (pwd (upd (upd (S.2.1 7) 0 (nI (2))) 1 (nI (n))) 2 (fun i => if nI n = 0 then nI (0) else S.2.1 26 i) i) (2 + 4 * i) ((S.2.1 26) i)) (2 + 4 * i + 1 + 1 + 1 + 1)) H locs := w
          refine lv_iinc (v := nI (i + 1)) (lv' := [(2, .int (nI (i + 1))), (0, .ref (ad (0))), (1, .int (nI (n)))]) hx hbc dX8_workRoot_46 hl (k := 2) rfl (ni_inc _ _) (by decide) rfl (fun ls hl => ?_)
          refine lv_goto (tgt := 22) hx hbc dX8_workRoot_49 (by decide) ?_
          exact ih_22 (i + 1) _ _ _ (by omega) (by omega) (WB_cast w (by simp only [pwd, if_neg c_30]; rfl)) (lv_sub hl [1, 2, 0] rfl)
        · refine lv_iconst (v := nI (0)) hx hbc dX8_workRoot_33 (by decide) ?_
          refine lv_goto (tgt := 43) hx hbc dX8_workRoot_34 (by decide) ?_
          refine wb_Vv (na := 1) (As := [.int (nI (0))]) (rest := []) hx hbc hml hg hown w E0_ok trivial w.1 Sub.self 0 (by decide) rfl rfl (k_X8_putWord l D cy ad (sI S 0 11 (nI (0))) (pwd (upd (upd (S.2.1 7) 0 (nI (2))) 1 (nI (n))) 2 (fun i => if nI n = 0 then nI (0) else S.2.1 26 i) i) (nI (0)) (2 + 4 * i) (by omega)) wk_916 wk_9 wk_913 wk_915 ws_25 ⟨by decide, by decide, by decide⟩ ⟨by rw [hRf]; decide, by rw [hRl]; decide⟩ rfl hl.1 rfl (Nat.le_of_ble_eq_true rfl) dX8_workRoot_43 ⟨Nat.zero_le _, Nat.zero_le _⟩ (fun S9 H locs hp w => ?_)
          subst hp
          have w : WB D (tyM cy) 31 cy ad skM A s (pst (sI S 0 11 (nI (0))) (pw4 (pwd (upd (upd (S.2.1 7) 0 (nI (2))) 1 (nI (n))) 2 (fun i => if nI n = 0 then nI (0) else S.2.1 26 i) i) (2 + 4 * i) (nI (0))) (2 + 4 * i + 1 + 1 + 1 + 1)) H locs := w
          refine lv_iinc (v := nI (i + 1)) (lv' := [(2, .int (nI (i + 1))), (0, .ref (ad (0))), (1, .int (nI (n)))]) hx hbc dX8_workRoot_46 hl (k := 2) rfl (ni_inc _ _) (by decide) rfl (fun ls hl => ?_)
          refine lv_goto (tgt := 22) hx hbc dX8_workRoot_49 (by decide) ?_
          exact ih_22 (i + 1) _ _ _ (by omega) (by omega) (WB_cast w (by simp only [pwd, if_pos c_30]; rfl)) (lv_sub hl [1, 2, 0] rfl)
  exact lp_22 9 0 _ _ _ (by omega) (by omega) w (lv_sub hl [1, 2, 0] rfl)
set_option maxHeartbeats 4000000 in
set_option maxRecDepth 100000 in
theorem k_X8_join1 (l : Launch) (D : va_G) (cy : Nat → ClassId) (ad : Nat → Nat) (S : wS) (k : Nat) (hk : k < 4) (q : Nat) (hq : S.1 0 11 = nI q) : CtV l yX8_join (Cond.code yX8_join cX8_join 5 none :: wsG) 3 77 [.ref (ad (0)), .int (nI (k)), .int (nI (1))] D (tyM cy) 31 cy ad skM E0 (S) (fun S' => S' = jnS S k 1 q) := by
  refine CtV_of (by decide) (Nat.le_of_ble_eq_true rfl) ?_
  intro p e s m args below meth c A ls R Q hB hRf hRl hend
  obtain ⟨hx, hbc, hr, hg, hown, hml, hlk, w, hE, hl⟩ := hB
  have hl : lv_has ls 5 [(0, .ref (ad (0))), (1, .int (nI (k))), (2, .int (nI (1)))] := hl
  refine lv_aload_n hx hbc dX8_join_0 rfl (lv_at hl 0 rfl) ?_
  refine lv_iconst (v := nI (0)) hx hbc dX8_join_1 (by decide) ?_
  refine wb_pi (v := nI (0)) hx hbc hg hown w inG_X8 tyX8 tyX8_ok nmX8 0 (by decide) rfl rfl 8 (by decide) rfl wk_675 rfl rfl rfl rfl dX8_join_2 (fun H locs w => ?_)
  have w : WB D (tyM cy) 31 cy ad skM A s (pst S (S.2.1 7) 0) H locs := WB_cast w (pst_0 _)
  refine lv_aload_n hx hbc dX8_join_5 rfl (lv_at hl 0 rfl) ?_
  refine lv_iconst (v := nI (1)) hx hbc dX8_join_6 (by decide) ?_
  refine wb_Vv (na := 1) (As := [.int (nI (1))]) (rest := []) hx hbc hml hg hown w E0_ok trivial w.1 Sub.self 0 (by decide) rfl rfl (k_X8_put l D cy ad (pst S (S.2.1 7) 0) (nI (1)) 0 rfl (by omega)) wk_816 wk_9 wk_813 wk_815 ws_14 ⟨by decide, by decide, by decide⟩ ⟨by rw [hRf]; decide, by rw [hRl]; decide⟩ rfl hl.1 rfl (Nat.le_of_ble_eq_true rfl) dX8_join_7 ⟨Nat.zero_le _, Nat.zero_le _⟩ (fun S9 H locs hp w => ?_)
  subst hp
  have w := WB_cast w (pst_pst _ _ _ _ _)
  have w : WB D (tyM cy) 31 cy ad skM A s (pst S (upd (S.2.1 7) 0 (nI (1))) 1) H locs := w
  refine lv_iconst (v := nI (0)) hx hbc dX8_join_10 (by decide) ?_
  refine lv_istore_n (lv' := [(3, .int (nI (0))), (0, .ref (ad (0))), (1, .int (nI (k))), (2, .int (nI (1)))]) hx hbc dX8_join_11 rfl hl (by decide) rfl (fun ls hl => ?_)
  have lp_12 : ∀ (fu : Nat) (i : Nat) (H : Heap) (locs : List Loc) (ls : Array Slot), (16 < i + fu) → (i ≤ 16) → WB D (tyM cy) 31 cy ad skM A s (pst S (pwd (upd (S.2.1 7) 0 (nI (1))) 1 (jnF S k 1) i) (1 + 4 * i)) H locs → lv_has ls 5 [(0, .ref (ad (0))), (1, .int (nI (k))), (2, .int (nI (1))), (3, .int (nI (i)))] → W p l e R s m args below meth c H locs 0 0 Q (F0 m 12 ls []) := by
    intro fu
    induction fu with
    | zero =>
      intro i H locs ls g1 g2 w hl
      exact absurd g1 (by omega)
    | succ fu ih_12 =>
      intro i H locs ls g1 g2 w hl
      refine lv_iload_n hx hbc dX8_join_12 rfl (lv_at hl 3 rfl) ?_
      refine lv_bipush (v := nI (16)) hx hbc dX8_join_13 (by decide) ?_
      refine n_cmp_ge (tgt := 81) (by omega) (by omega) hx hbc dX8_join_15 (by decide) (fun c_15 => ?_) (fun c_15 => ?_)
      · obtain rfl : i = 16 := by omega
        refine lv_aload_n hx hbc dX8_join_81 rfl (lv_at hl 0 rfl) ?_
        refine lv_iconst (v := nI (0)) hx hbc dX8_join_82 (by decide) ?_
        refine wb_Vv (na := 1) (As := [.int (nI (0))]) (rest := []) hx hbc hml hg hown w E0_ok trivial w.1 Sub.self 0 (by decide) rfl rfl (k_X8_work l D cy ad (S) (pwd (upd (S.2.1 7) 0 (nI (1))) 1 (jnF S k 1) 16) (nI (0)) (1 + 4 * 16) q (by omega) hq) wk_820 wk_9 wk_817 wk_819 ws_15 ⟨by decide, by decide, by decide⟩ ⟨by rw [hRf]; decide, by rw [hRl]; decide⟩ rfl hl.1 rfl (Nat.le_of_ble_eq_true rfl) dX8_join_83 ⟨Nat.zero_le _, Nat.zero_le _⟩ (fun S9 H locs hp w => ?_)
        subst hp
        have w : WB D (tyM cy) 31 cy ad skM A s (wrk S (nI (0)) (pwd (upd (S.2.1 7) 0 (nI (1))) 1 (jnF S k 1) 16) (1 + 4 * 16) q) H locs := w
        exact hend _ _ _ _ _ rfl w dX8_join_86
      · refine lv_iload_n hx hbc dX8_join_18 rfl (lv_at hl 3 rfl) ?_
        refine lv_bipush (v := nI (8)) hx hbc dX8_join_19 (by decide) ?_
        refine n_cmp_ge (tgt := 28) (by omega) (by omega) hx hbc dX8_join_21 (by decide) (fun c_21 => ?_) (fun c_21 => ?_)
        · refine lv_iconst (v := nI (0)) hx hbc dX8_join_28 (by decide) ?_
          refine lv_iload_n hx hbc dX8_join_29 rfl (lv_at hl 2 rfl) ?_
          refine n_cmp_ne (tgt := 37) (by omega) (by omega) hx hbc dX8_join_30 (by decide) (fun c_30 => ?_) (fun c_30 => ?_)
          · refine lv_iconst (v := nI (0)) hx hbc dX8_join_37 (by decide) ?_
            refine lv_istore (lv' := [(4, .int (nI (0))), (0, .ref (ad (0))), (1, .int (nI (k))), (2, .int (nI (1))), (3, .int (nI (i)))]) hx hbc dX8_join_38 hl (by decide) rfl (fun ls hl => ?_)
            refine lv_aload_n hx hbc dX8_join_40 rfl (lv_at hl 1 rfl) ?_
            refine lv_iload hx hbc dX8_join_41 (lv_at hl 0 rfl) ?_
            refine lv_if_eq (tgt := 58) hx hbc dX8_join_43 (by decide) (fun c_43 => ?_) (fun c_43 => ?_)
            · refine lv_aload_n hx hbc dX8_join_58 rfl (lv_at hl 1 rfl) ?_
              refine wb_gr (t := 27) hx hbc hg hown w inG_X8 0 (by decide) rfl rfl 33 (by decide) rfl wk_700 dX8_join_59 ?_
              refine lv_bipush (v := nI (8)) hx hbc dX8_join_62 (by decide) ?_
              refine lv_iload_n hx hbc dX8_join_64 rfl (lv_at hl 2 rfl) ?_
              refine n_imul hx hbc dX8_join_65 ?_
              refine lv_iload_n hx hbc dX8_join_66 rfl (lv_at hl 4 rfl) ?_
              refine lv_bipush (v := nI (8)) hx hbc dX8_join_67 (by decide) ?_
              refine n_irem (by omega) (by omega) (by omega) hx hbc dX8_join_69 ?_
              refine n_iadd hx hbc dX8_join_70 ?_
              refine wb_iald (k := (8 * k) + (i % 8)) (v := (S.2.1 27) ((8 * k) + (i % 8))) hx hbc w 27 (by decide) rfl 0 rfl rfl (by omega) (by decide) rfl dX8_join_71 ?_
              refine wb_Vv (na := 1) (As := [.int ((S.2.1 27) ((8 * k) + (i % 8)))]) (rest := []) hx hbc hml hg hown w E0_ok trivial w.1 Sub.self 0 (by decide) rfl rfl (k_X8_putWord l D cy ad (S) (pwd (upd (S.2.1 7) 0 (nI (1))) 1 (jnF S k 1) i) ((S.2.1 27) ((8 * k) + (i % 8))) (1 + 4 * i) (by omega)) wk_916 wk_9 wk_913 wk_915 ws_25 ⟨by decide, by decide, by decide⟩ ⟨by rw [hRf]; decide, by rw [hRl]; decide⟩ rfl hl.1 rfl (Nat.le_of_ble_eq_true rfl) dX8_join_72 ⟨Nat.zero_le _, Nat.zero_le _⟩ (fun S9 H locs hp w => ?_)
              subst hp
              have w : WB D (tyM cy) 31 cy ad skM A s (pst S (pw4 (pwd (upd (S.2.1 7) 0 (nI (1))) 1 (jnF S k 1) i) (1 + 4 * i) ((S.2.1 27) ((8 * k) + (i % 8)))) (1 + 4 * i + 1 + 1 + 1 + 1)) H locs := w
              refine lv_iinc (v := nI (i + 1)) (lv' := [(3, .int (nI (i + 1))), (4, .int (nI (0))), (0, .ref (ad (0))), (1, .int (nI (k))), (2, .int (nI (1)))]) hx hbc dX8_join_75 hl (k := 4) rfl (ni_inc _ _) (by decide) rfl (fun ls hl => ?_)
              refine lv_goto (tgt := 12) hx hbc dX8_join_78 (by decide) ?_
              exact ih_12 (i + 1) _ _ _ (by omega) (by omega) (WB_cast w (by simp only [pwd, jnF]; rw [if_neg (Nat.not_lt.mpr c_21)]; rfl)) (lv_sub hl [2, 3, 4, 0] rfl)
            · exact absurd c_43 (by decide)
          · exact absurd c_30 (by decide)
        · refine lv_iconst (v := nI (1)) hx hbc dX8_join_24 (by decide) ?_
          refine lv_goto (tgt := 29) hx hbc dX8_join_25 (by decide) ?_
          refine lv_iload_n hx hbc dX8_join_29 rfl (lv_at hl 2 rfl) ?_
          refine n_cmp_ne (tgt := 37) (by omega) (by omega) hx hbc dX8_join_30 (by decide) (fun c_30 => ?_) (fun c_30 => ?_)
          · exact absurd c_30 (by decide)
          · refine lv_iconst (v := nI (1)) hx hbc dX8_join_33 (by decide) ?_
            refine lv_goto (tgt := 38) hx hbc dX8_join_34 (by decide) ?_
            refine lv_istore (lv' := [(4, .int (nI (1))), (0, .ref (ad (0))), (1, .int (nI (k))), (2, .int (nI (1))), (3, .int (nI (i)))]) hx hbc dX8_join_38 hl (by decide) rfl (fun ls hl => ?_)
            refine lv_aload_n hx hbc dX8_join_40 rfl (lv_at hl 1 rfl) ?_
            refine lv_iload hx hbc dX8_join_41 (lv_at hl 0 rfl) ?_
            refine lv_if_eq (tgt := 58) hx hbc dX8_join_43 (by decide) (fun c_43 => ?_) (fun c_43 => ?_)
            · exact absurd c_43 (by decide)
            · refine lv_aload_n hx hbc dX8_join_46 rfl (lv_at hl 1 rfl) ?_
              refine wb_gr (t := 8) hx hbc hg hown w inG_X8 0 (by decide) rfl rfl 9 (by decide) rfl wk_676 dX8_join_47 ?_
              refine lv_iload_n hx hbc dX8_join_50 rfl (lv_at hl 4 rfl) ?_
              refine lv_bipush (v := nI (8)) hx hbc dX8_join_51 (by decide) ?_
              refine n_irem (by omega) (by omega) (by omega) hx hbc dX8_join_53 ?_
              refine wb_iald (k := i % 8) (v := (S.2.1 8) (i % 8)) hx hbc w 8 (by decide) rfl 0 rfl rfl (by omega) (by decide) rfl dX8_join_54 ?_
              refine lv_goto (tgt := 72) hx hbc dX8_join_55 (by decide) ?_
              refine wb_Vv (na := 1) (As := [.int ((S.2.1 8) (i % 8))]) (rest := []) hx hbc hml hg hown w E0_ok trivial w.1 Sub.self 0 (by decide) rfl rfl (k_X8_putWord l D cy ad (S) (pwd (upd (S.2.1 7) 0 (nI (1))) 1 (jnF S k 1) i) ((S.2.1 8) (i % 8)) (1 + 4 * i) (by omega)) wk_916 wk_9 wk_913 wk_915 ws_25 ⟨by decide, by decide, by decide⟩ ⟨by rw [hRf]; decide, by rw [hRl]; decide⟩ rfl hl.1 rfl (Nat.le_of_ble_eq_true rfl) dX8_join_72 ⟨Nat.zero_le _, Nat.zero_le _⟩ (fun S9 H locs hp w => ?_)
              subst hp
              have w : WB D (tyM cy) 31 cy ad skM A s (pst S (pw4 (pwd (upd (S.2.1 7) 0 (nI (1))) 1 (jnF S k 1) i) (1 + 4 * i) ((S.2.1 8) (i % 8))) (1 + 4 * i + 1 + 1 + 1 + 1)) H locs := w
              refine lv_iinc (v := nI (i + 1)) (lv' := [(3, .int (nI (i + 1))), (4, .int (nI (1))), (0, .ref (ad (0))), (1, .int (nI (k))), (2, .int (nI (1)))]) hx hbc dX8_join_75 hl (k := 4) rfl (ni_inc _ _) (by decide) rfl (fun ls hl => ?_)
              refine lv_goto (tgt := 12) hx hbc dX8_join_78 (by decide) ?_
              exact ih_12 (i + 1) _ _ _ (by omega) (by omega) (WB_cast w (by simp only [pwd, jnF]; rw [if_pos c_21]; rfl)) (lv_sub hl [2, 3, 4, 0] rfl)
  exact lp_12 17 0 _ _ _ (by omega) (by omega) w (lv_sub hl [1, 2, 3, 0] rfl)
set_option maxHeartbeats 4000000 in
set_option maxRecDepth 100000 in
theorem k_X8_join0 (l : Launch) (D : va_G) (cy : Nat → ClassId) (ad : Nat → Nat) (S : wS) (k : Nat) (hk : k < 4) (q : Nat) (hq : S.1 0 11 = nI q) : CtV l yX8_join (Cond.code yX8_join cX8_join 5 none :: wsG) 3 77 [.ref (ad (0)), .int (nI (k)), .int (nI (0))] D (tyM cy) 31 cy ad skM E0 (S) (fun S' => S' = jnS S k 0 q) := by
  refine CtV_of (by decide) (Nat.le_of_ble_eq_true rfl) ?_
  intro p e s m args below meth c A ls R Q hB hRf hRl hend
  obtain ⟨hx, hbc, hr, hg, hown, hml, hlk, w, hE, hl⟩ := hB
  have hl : lv_has ls 5 [(0, .ref (ad (0))), (1, .int (nI (k))), (2, .int (nI (0)))] := hl
  refine lv_aload_n hx hbc dX8_join_0 rfl (lv_at hl 0 rfl) ?_
  refine lv_iconst (v := nI (0)) hx hbc dX8_join_1 (by decide) ?_
  refine wb_pi (v := nI (0)) hx hbc hg hown w inG_X8 tyX8 tyX8_ok nmX8 0 (by decide) rfl rfl 8 (by decide) rfl wk_675 rfl rfl rfl rfl dX8_join_2 (fun H locs w => ?_)
  have w : WB D (tyM cy) 31 cy ad skM A s (pst S (S.2.1 7) 0) H locs := WB_cast w (pst_0 _)
  refine lv_aload_n hx hbc dX8_join_5 rfl (lv_at hl 0 rfl) ?_
  refine lv_iconst (v := nI (1)) hx hbc dX8_join_6 (by decide) ?_
  refine wb_Vv (na := 1) (As := [.int (nI (1))]) (rest := []) hx hbc hml hg hown w E0_ok trivial w.1 Sub.self 0 (by decide) rfl rfl (k_X8_put l D cy ad (pst S (S.2.1 7) 0) (nI (1)) 0 rfl (by omega)) wk_816 wk_9 wk_813 wk_815 ws_14 ⟨by decide, by decide, by decide⟩ ⟨by rw [hRf]; decide, by rw [hRl]; decide⟩ rfl hl.1 rfl (Nat.le_of_ble_eq_true rfl) dX8_join_7 ⟨Nat.zero_le _, Nat.zero_le _⟩ (fun S9 H locs hp w => ?_)
  subst hp
  have w := WB_cast w (pst_pst _ _ _ _ _)
  have w : WB D (tyM cy) 31 cy ad skM A s (pst S (upd (S.2.1 7) 0 (nI (1))) 1) H locs := w
  refine lv_iconst (v := nI (0)) hx hbc dX8_join_10 (by decide) ?_
  refine lv_istore_n (lv' := [(3, .int (nI (0))), (0, .ref (ad (0))), (1, .int (nI (k))), (2, .int (nI (0)))]) hx hbc dX8_join_11 rfl hl (by decide) rfl (fun ls hl => ?_)
  have lp_12 : ∀ (fu : Nat) (i : Nat) (H : Heap) (locs : List Loc) (ls : Array Slot), (16 < i + fu) → (i ≤ 16) → WB D (tyM cy) 31 cy ad skM A s (pst S (pwd (upd (S.2.1 7) 0 (nI (1))) 1 (jnF S k 0) i) (1 + 4 * i)) H locs → lv_has ls 5 [(0, .ref (ad (0))), (1, .int (nI (k))), (2, .int (nI (0))), (3, .int (nI (i)))] → W p l e R s m args below meth c H locs 0 0 Q (F0 m 12 ls []) := by
    intro fu
    induction fu with
    | zero =>
      intro i H locs ls g1 g2 w hl
      exact absurd g1 (by omega)
    | succ fu ih_12 =>
      intro i H locs ls g1 g2 w hl
      refine lv_iload_n hx hbc dX8_join_12 rfl (lv_at hl 3 rfl) ?_
      refine lv_bipush (v := nI (16)) hx hbc dX8_join_13 (by decide) ?_
      refine n_cmp_ge (tgt := 81) (by omega) (by omega) hx hbc dX8_join_15 (by decide) (fun c_15 => ?_) (fun c_15 => ?_)
      · obtain rfl : i = 16 := by omega
        refine lv_aload_n hx hbc dX8_join_81 rfl (lv_at hl 0 rfl) ?_
        refine lv_iconst (v := nI (0)) hx hbc dX8_join_82 (by decide) ?_
        refine wb_Vv (na := 1) (As := [.int (nI (0))]) (rest := []) hx hbc hml hg hown w E0_ok trivial w.1 Sub.self 0 (by decide) rfl rfl (k_X8_work l D cy ad (S) (pwd (upd (S.2.1 7) 0 (nI (1))) 1 (jnF S k 0) 16) (nI (0)) (1 + 4 * 16) q (by omega) hq) wk_820 wk_9 wk_817 wk_819 ws_15 ⟨by decide, by decide, by decide⟩ ⟨by rw [hRf]; decide, by rw [hRl]; decide⟩ rfl hl.1 rfl (Nat.le_of_ble_eq_true rfl) dX8_join_83 ⟨Nat.zero_le _, Nat.zero_le _⟩ (fun S9 H locs hp w => ?_)
        subst hp
        have w : WB D (tyM cy) 31 cy ad skM A s (wrk S (nI (0)) (pwd (upd (S.2.1 7) 0 (nI (1))) 1 (jnF S k 0) 16) (1 + 4 * 16) q) H locs := w
        exact hend _ _ _ _ _ rfl w dX8_join_86
      · refine lv_iload_n hx hbc dX8_join_18 rfl (lv_at hl 3 rfl) ?_
        refine lv_bipush (v := nI (8)) hx hbc dX8_join_19 (by decide) ?_
        refine n_cmp_ge (tgt := 28) (by omega) (by omega) hx hbc dX8_join_21 (by decide) (fun c_21 => ?_) (fun c_21 => ?_)
        · refine lv_iconst (v := nI (0)) hx hbc dX8_join_28 (by decide) ?_
          refine lv_iload_n hx hbc dX8_join_29 rfl (lv_at hl 2 rfl) ?_
          refine n_cmp_ne (tgt := 37) (by omega) (by omega) hx hbc dX8_join_30 (by decide) (fun c_30 => ?_) (fun c_30 => ?_)
          · exact absurd c_30 (by decide)
          · refine lv_iconst (v := nI (1)) hx hbc dX8_join_33 (by decide) ?_
            refine lv_goto (tgt := 38) hx hbc dX8_join_34 (by decide) ?_
            refine lv_istore (lv' := [(4, .int (nI (1))), (0, .ref (ad (0))), (1, .int (nI (k))), (2, .int (nI (0))), (3, .int (nI (i)))]) hx hbc dX8_join_38 hl (by decide) rfl (fun ls hl => ?_)
            refine lv_aload_n hx hbc dX8_join_40 rfl (lv_at hl 1 rfl) ?_
            refine lv_iload hx hbc dX8_join_41 (lv_at hl 0 rfl) ?_
            refine lv_if_eq (tgt := 58) hx hbc dX8_join_43 (by decide) (fun c_43 => ?_) (fun c_43 => ?_)
            · exact absurd c_43 (by decide)
            · refine lv_aload_n hx hbc dX8_join_46 rfl (lv_at hl 1 rfl) ?_
              refine wb_gr (t := 8) hx hbc hg hown w inG_X8 0 (by decide) rfl rfl 9 (by decide) rfl wk_676 dX8_join_47 ?_
              refine lv_iload_n hx hbc dX8_join_50 rfl (lv_at hl 4 rfl) ?_
              refine lv_bipush (v := nI (8)) hx hbc dX8_join_51 (by decide) ?_
              refine n_irem (by omega) (by omega) (by omega) hx hbc dX8_join_53 ?_
              refine wb_iald (k := i % 8) (v := (S.2.1 8) (i % 8)) hx hbc w 8 (by decide) rfl 0 rfl rfl (by omega) (by decide) rfl dX8_join_54 ?_
              refine lv_goto (tgt := 72) hx hbc dX8_join_55 (by decide) ?_
              refine wb_Vv (na := 1) (As := [.int ((S.2.1 8) (i % 8))]) (rest := []) hx hbc hml hg hown w E0_ok trivial w.1 Sub.self 0 (by decide) rfl rfl (k_X8_putWord l D cy ad (S) (pwd (upd (S.2.1 7) 0 (nI (1))) 1 (jnF S k 0) i) ((S.2.1 8) (i % 8)) (1 + 4 * i) (by omega)) wk_916 wk_9 wk_913 wk_915 ws_25 ⟨by decide, by decide, by decide⟩ ⟨by rw [hRf]; decide, by rw [hRl]; decide⟩ rfl hl.1 rfl (Nat.le_of_ble_eq_true rfl) dX8_join_72 ⟨Nat.zero_le _, Nat.zero_le _⟩ (fun S9 H locs hp w => ?_)
              subst hp
              have w : WB D (tyM cy) 31 cy ad skM A s (pst S (pw4 (pwd (upd (S.2.1 7) 0 (nI (1))) 1 (jnF S k 0) i) (1 + 4 * i) ((S.2.1 8) (i % 8))) (1 + 4 * i + 1 + 1 + 1 + 1)) H locs := w
              refine lv_iinc (v := nI (i + 1)) (lv' := [(3, .int (nI (i + 1))), (4, .int (nI (1))), (0, .ref (ad (0))), (1, .int (nI (k))), (2, .int (nI (0)))]) hx hbc dX8_join_75 hl (k := 4) rfl (ni_inc _ _) (by decide) rfl (fun ls hl => ?_)
              refine lv_goto (tgt := 12) hx hbc dX8_join_78 (by decide) ?_
              exact ih_12 (i + 1) _ _ _ (by omega) (by omega) (WB_cast w (by simp only [pwd, jnF]; rw [if_neg (Nat.not_lt.mpr c_21)]; rfl)) (lv_sub hl [2, 3, 4, 0] rfl)
        · refine lv_iconst (v := nI (1)) hx hbc dX8_join_24 (by decide) ?_
          refine lv_goto (tgt := 29) hx hbc dX8_join_25 (by decide) ?_
          refine lv_iload_n hx hbc dX8_join_29 rfl (lv_at hl 2 rfl) ?_
          refine n_cmp_ne (tgt := 37) (by omega) (by omega) hx hbc dX8_join_30 (by decide) (fun c_30 => ?_) (fun c_30 => ?_)
          · refine lv_iconst (v := nI (0)) hx hbc dX8_join_37 (by decide) ?_
            refine lv_istore (lv' := [(4, .int (nI (0))), (0, .ref (ad (0))), (1, .int (nI (k))), (2, .int (nI (0))), (3, .int (nI (i)))]) hx hbc dX8_join_38 hl (by decide) rfl (fun ls hl => ?_)
            refine lv_aload_n hx hbc dX8_join_40 rfl (lv_at hl 1 rfl) ?_
            refine lv_iload hx hbc dX8_join_41 (lv_at hl 0 rfl) ?_
            refine lv_if_eq (tgt := 58) hx hbc dX8_join_43 (by decide) (fun c_43 => ?_) (fun c_43 => ?_)
            · refine lv_aload_n hx hbc dX8_join_58 rfl (lv_at hl 1 rfl) ?_
              refine wb_gr (t := 27) hx hbc hg hown w inG_X8 0 (by decide) rfl rfl 33 (by decide) rfl wk_700 dX8_join_59 ?_
              refine lv_bipush (v := nI (8)) hx hbc dX8_join_62 (by decide) ?_
              refine lv_iload_n hx hbc dX8_join_64 rfl (lv_at hl 2 rfl) ?_
              refine n_imul hx hbc dX8_join_65 ?_
              refine lv_iload_n hx hbc dX8_join_66 rfl (lv_at hl 4 rfl) ?_
              refine lv_bipush (v := nI (8)) hx hbc dX8_join_67 (by decide) ?_
              refine n_irem (by omega) (by omega) (by omega) hx hbc dX8_join_69 ?_
              refine n_iadd hx hbc dX8_join_70 ?_
              refine wb_iald (k := (8 * k) + (i % 8)) (v := (S.2.1 27) ((8 * k) + (i % 8))) hx hbc w 27 (by decide) rfl 0 rfl rfl (by omega) (by decide) rfl dX8_join_71 ?_
              refine wb_Vv (na := 1) (As := [.int ((S.2.1 27) ((8 * k) + (i % 8)))]) (rest := []) hx hbc hml hg hown w E0_ok trivial w.1 Sub.self 0 (by decide) rfl rfl (k_X8_putWord l D cy ad (S) (pwd (upd (S.2.1 7) 0 (nI (1))) 1 (jnF S k 0) i) ((S.2.1 27) ((8 * k) + (i % 8))) (1 + 4 * i) (by omega)) wk_916 wk_9 wk_913 wk_915 ws_25 ⟨by decide, by decide, by decide⟩ ⟨by rw [hRf]; decide, by rw [hRl]; decide⟩ rfl hl.1 rfl (Nat.le_of_ble_eq_true rfl) dX8_join_72 ⟨Nat.zero_le _, Nat.zero_le _⟩ (fun S9 H locs hp w => ?_)
              subst hp
              have w : WB D (tyM cy) 31 cy ad skM A s (pst S (pw4 (pwd (upd (S.2.1 7) 0 (nI (1))) 1 (jnF S k 0) i) (1 + 4 * i) ((S.2.1 27) ((8 * k) + (i % 8)))) (1 + 4 * i + 1 + 1 + 1 + 1)) H locs := w
              refine lv_iinc (v := nI (i + 1)) (lv' := [(3, .int (nI (i + 1))), (4, .int (nI (0))), (0, .ref (ad (0))), (1, .int (nI (k))), (2, .int (nI (0)))]) hx hbc dX8_join_75 hl (k := 4) rfl (ni_inc _ _) (by decide) rfl (fun ls hl => ?_)
              refine lv_goto (tgt := 12) hx hbc dX8_join_78 (by decide) ?_
              exact ih_12 (i + 1) _ _ _ (by omega) (by omega) (WB_cast w (by simp only [pwd, jnF]; rw [if_pos c_21]; rfl)) (lv_sub hl [2, 3, 4, 0] rfl)
            · exact absurd c_43 (by decide)
          · exact absurd c_30 (by decide)
  exact lp_12 17 0 _ _ _ (by omega) (by omega) w (lv_sub hl [1, 2, 3, 0] rfl)
