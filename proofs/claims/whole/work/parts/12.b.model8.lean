set_option maxHeartbeats 4000000 in
set_option maxRecDepth 100000 in
theorem k_X8_multiply4 (l : Launch) (D : va_G) (cy : Nat → ClassId) (ad : Nat → Nat) (S : wS) (n m9 : Nat) (hn : n ≤ 6) (hm : m9 ≤ 6) : CtV l yX8_multiply (Cond.code yX8_multiply cX8_multiply 7 none :: wsG) 0 0 [.ref (ad (0)), .ref (ad (4)), .ref (ad (4)), .int (nI (n)), .int (nI (m9))] D (tyM cy) 31 cy ad skM E0 (S) (fun S' => S' = sJ S 5 (mulP (S.2.2 4) (S.2.2 4) n m9 (S.2.2 5))) := by
  refine CtV_of (by decide) (Nat.le_of_ble_eq_true rfl) ?_
  intro p e s m args below meth c A ls R Q hB hRf hRl hend
  obtain ⟨hx, hbc, hr, hg, hown, hml, hlk, w, hE, hl⟩ := hB
  have hl : lv_has ls 7 [(0, .ref (ad (0))), (1, .ref (ad (4))), (2, .ref (ad (4))), (3, .int (nI (n))), (4, .int (nI (m9)))] := hl
  refine lv_iconst (v := nI (0)) hx hbc dX8_multiply_0 (by decide) ?_
  refine lv_istore (lv' := [(5, .int (nI (0))), (0, .ref (ad (0))), (1, .ref (ad (4))), (2, .ref (ad (4))), (3, .int (nI (n))), (4, .int (nI (m9)))]) hx hbc dX8_multiply_1 hl (by decide) rfl (fun ls hl => ?_)
  have lp_3 : ∀ (fu : Nat) (k : Nat) (H : Heap) (locs : List Loc) (ls : Array Slot), (16 < k + fu) → (k ≤ 16) → WB D (tyM cy) 31 cy ad skM A s (sJ S 5 (zJ (S.2.2 5) k)) H locs → lv_has ls 7 [(0, .ref (ad (0))), (1, .ref (ad (4))), (2, .ref (ad (4))), (3, .int (nI (n))), (4, .int (nI (m9))), (5, .int (nI (k)))] → W p l e R s m args below meth c H locs 0 0 Q (F0 m 3 ls []) := by
    intro fu
    induction fu with
    | zero =>
      intro k H locs ls h1 h2 w hl
      exact absurd h1 (by omega)
    | succ fu ih_3 =>
      intro k H locs ls h1 h2 w hl
      refine lv_iload hx hbc dX8_multiply_3 (lv_at hl 5 rfl) ?_
      refine lv_bipush (v := nI (16)) hx hbc dX8_multiply_5 (by decide) ?_
      refine n_cmp_ge (tgt := 24) (by omega) (by omega) hx hbc dX8_multiply_7 (by decide) (fun c_7 => ?_) (fun c_7 => ?_)
      · obtain rfl : k = 16 := by omega
        have hl := lv_sub (l' := [(0, .ref (ad (0))), (1, .ref (ad (4))), (2, .ref (ad (4))), (3, .int (nI (n))), (4, .int (nI (m9)))]) hl [0, 1, 2, 3, 4] rfl
        refine lv_iconst (v := nI (0)) hx hbc dX8_multiply_24 (by decide) ?_
        refine lv_istore (lv' := [(5, .int (nI (0))), (0, .ref (ad (0))), (1, .ref (ad (4))), (2, .ref (ad (4))), (3, .int (nI (n))), (4, .int (nI (m9)))]) hx hbc dX8_multiply_25 hl (by decide) rfl (fun ls hl => ?_)
        have lp_27 : ∀ (fu : Nat) (i : Nat) (H : Heap) (locs : List Loc) (ls : Array Slot), (n < i + fu) → (i ≤ n) → WB D (tyM cy) 31 cy ad skM A s (sJ S 5 (mO (S.2.2 4) (S.2.2 4) (zJ (S.2.2 5) 16) m9 i)) H locs → lv_has ls 7 [(0, .ref (ad (0))), (1, .ref (ad (4))), (2, .ref (ad (4))), (3, .int (nI (n))), (4, .int (nI (m9))), (5, .int (nI (i)))] → W p l e R s m args below meth c H locs 0 0 Q (F0 m 27 ls []) := by
          intro fu
          induction fu with
          | zero =>
            intro i H locs ls h1 h2 w hl
            exact absurd h1 (by omega)
          | succ fu ih_27 =>
            intro i H locs ls h1 h2 w hl
            refine lv_iload hx hbc dX8_multiply_27 (lv_at hl 5 rfl) ?_
            refine lv_iload_n hx hbc dX8_multiply_29 rfl (lv_at hl 3 rfl) ?_
            refine n_cmp_ge (tgt := 77) (by omega) (by omega) hx hbc dX8_multiply_30 (by decide) (fun c_30 => ?_) (fun c_30 => ?_)
            · have e_i : i = n := by omega
              rw [e_i] at w hl
              have hl := lv_sub (l' := [(0, .ref (ad (0))), (1, .ref (ad (4))), (2, .ref (ad (4))), (3, .int (nI (n))), (4, .int (nI (m9)))]) hl [0, 1, 2, 3, 4] rfl
              refine lv_iconst (v := nI (0)) hx hbc dX8_multiply_77 (by decide) ?_
              refine lv_istore (lv' := [(5, .int (nI (0))), (0, .ref (ad (0))), (1, .ref (ad (4))), (2, .ref (ad (4))), (3, .int (nI (n))), (4, .int (nI (m9)))]) hx hbc dX8_multiply_78 hl (by decide) rfl (fun ls hl => ?_)
              have lp_80 : ∀ (fu : Nat) (k : Nat) (H : Heap) (locs : List Loc) (ls : Array Slot), (15 < k + fu) → (k ≤ 15) → WB D (tyM cy) 31 cy ad skM A s (sJ S 5 (cJ (mO (S.2.2 4) (S.2.2 4) (zJ (S.2.2 5) 16) m9 n) k)) H locs → lv_has ls 7 [(0, .ref (ad (0))), (1, .ref (ad (4))), (2, .ref (ad (4))), (3, .int (nI (n))), (4, .int (nI (m9))), (5, .int (nI (k)))] → W p l e R s m args below meth c H locs 0 0 Q (F0 m 80 ls []) := by
                intro fu
                induction fu with
                | zero =>
                  intro k H locs ls h1 h2 w hl
                  exact absurd h1 (by omega)
                | succ fu ih_80 =>
                  intro k H locs ls h1 h2 w hl
                  refine lv_iload hx hbc dX8_multiply_80 (lv_at hl 5 rfl) ?_
                  refine lv_bipush (v := nI (15)) hx hbc dX8_multiply_82 (by decide) ?_
                  refine n_cmp_ge (tgt := 128) (by omega) (by omega) hx hbc dX8_multiply_84 (by decide) (fun c_84 => ?_) (fun c_84 => ?_)
                  · obtain rfl : k = 15 := by omega
                    exact hend _ _ _ _ _ rfl w dX8_multiply_128
                  · refine lv_aload_n hx hbc dX8_multiply_87 rfl (lv_at hl 0 rfl) ?_
                    refine wb_gr (t := 5) hx hbc hg hown w inG_X8 0 (by decide) rfl rfl 5 (by decide) rfl wk_672 dX8_multiply_88 ?_
                    refine lv_iload hx hbc dX8_multiply_91 (lv_at hl 5 rfl) ?_
                    refine lv_iconst (v := nI (1)) hx hbc dX8_multiply_93 (by decide) ?_
                    refine n_iadd hx hbc dX8_multiply_94 ?_
                    refine lv_dup2_11 hx hbc dX8_multiply_95 rfl rfl ?_
                    refine wb_lald (k := k + 1) (v := (cJ (mO (S.2.2 4) (S.2.2 4) (zJ (S.2.2 5) 16) m9 n) k) (k + 1)) hx hbc w 5 (by decide) rfl 2 rfl rfl (by omega) (by decide) rfl dX8_multiply_96 ?_
                    refine lv_aload_n hx hbc dX8_multiply_97 rfl (lv_at hl 0 rfl) ?_
                    refine wb_gr (t := 5) hx hbc hg hown w inG_X8 0 (by decide) rfl rfl 5 (by decide) rfl wk_672 dX8_multiply_98 ?_
                    refine lv_iload hx hbc dX8_multiply_101 (lv_at hl 5 rfl) ?_
                    refine wb_lald (k := k) (v := (cJ (mO (S.2.2 4) (S.2.2 4) (zJ (S.2.2 5) 16) m9 n) k) k) hx hbc w 5 (by decide) rfl 2 rfl rfl (by omega) (by decide) rfl dX8_multiply_103 ?_
                    refine lv_bipush (v := nI (16)) hx hbc dX8_multiply_104 (by decide) ?_
                    refine lv_lushr hx hbc dX8_multiply_106 rfl ?_
                    refine lv_ladd hx hbc dX8_multiply_107 ?_
                    refine wb_last (k := k + 1) (f := cJ (mO (S.2.2 4) (S.2.2 4) (zJ (S.2.2 5) 16) m9 n) k) hx hbc w 5 (by decide) rfl 2 rfl rfl (by omega) (by decide) rfl rfl dX8_multiply_108 (fun H locs w => ?_)
                    refine lv_aload_n hx hbc dX8_multiply_109 rfl (lv_at hl 0 rfl) ?_
                    refine wb_gr (t := 5) hx hbc hg hown w inG_X8 0 (by decide) rfl rfl 5 (by decide) rfl wk_672 dX8_multiply_110 ?_
                    refine lv_iload hx hbc dX8_multiply_113 (lv_at hl 5 rfl) ?_
                    refine lv_dup2_11 hx hbc dX8_multiply_115 rfl rfl ?_
                    refine wb_lald (k := k) (v := (vp_updL (cJ (mO (S.2.2 4) (S.2.2 4) (zJ (S.2.2 5) 16) m9 n) k) (k + 1) (((cJ (mO (S.2.2 4) (S.2.2 4) (zJ (S.2.2 5) 16) m9 n) k) (k + 1)) + ((((cJ (mO (S.2.2 4) (S.2.2 4) (zJ (S.2.2 5) 16) m9 n) k) k).toUInt64 >>> ((nI (16)).toInt64.toUInt64 &&& Int64.toUInt64 63)).toInt64))) k) hx hbc w 5 (by decide) rfl 2 rfl rfl (by omega) (by decide) rfl dX8_multiply_116 ?_
                    refine lv_ldc2 (v := (65535)) hx hbc hown (hg _ wk_655) dX8_multiply_117 ?_
                    refine lv_land hx hbc dX8_multiply_120 ?_
                    refine wb_last (k := k) (f := vp_updL (cJ (mO (S.2.2 4) (S.2.2 4) (zJ (S.2.2 5) 16) m9 n) k) (k + 1) (((cJ (mO (S.2.2 4) (S.2.2 4) (zJ (S.2.2 5) 16) m9 n) k) (k + 1)) + ((((cJ (mO (S.2.2 4) (S.2.2 4) (zJ (S.2.2 5) 16) m9 n) k) k).toUInt64 >>> ((nI (16)).toInt64.toUInt64 &&& Int64.toUInt64 63)).toInt64))) hx hbc w 5 (by decide) rfl 2 rfl rfl (by omega) (by decide) rfl (sJ_sJ _ _ _ _) dX8_multiply_121 (fun H locs w => ?_)
                    refine lv_iinc (v := nI (k + 1)) (lv' := [(5, .int (nI (k + 1))), (0, .ref (ad (0))), (1, .ref (ad (4))), (2, .ref (ad (4))), (3, .int (nI (n))), (4, .int (nI (m9)))]) hx hbc dX8_multiply_122 hl (k := 5) rfl (ni_inc _ _) (by decide) rfl (fun ls hl => ?_)
                    refine lv_goto (tgt := 80) hx hbc dX8_multiply_125 (by decide) ?_
                    exact ih_80 (k + 1) _ _ _ (by omega) (by omega) (WB_cast w (sJ_sJ _ _ _ _)) (lv_sub hl [1, 2, 3, 4, 5, 0] rfl)
              exact lp_80 16 0 _ _ _ (by decide) (by decide) w (lv_sub hl [1, 2, 3, 4, 5, 0] rfl)
            · refine lv_iconst (v := nI (0)) hx hbc dX8_multiply_33 (by decide) ?_
              refine lv_istore (lv' := [(6, .int (nI (0))), (0, .ref (ad (0))), (1, .ref (ad (4))), (2, .ref (ad (4))), (3, .int (nI (n))), (4, .int (nI (m9))), (5, .int (nI (i)))]) hx hbc dX8_multiply_34 hl (by decide) rfl (fun ls hl => ?_)
              have lp_36 : ∀ (fu : Nat) (j : Nat) (H : Heap) (locs : List Loc) (ls : Array Slot), (m9 < j + fu) → (j ≤ m9) → WB D (tyM cy) 31 cy ad skM A s (sJ S 5 (mI (S.2.2 4) (S.2.2 4) (mO (S.2.2 4) (S.2.2 4) (zJ (S.2.2 5) 16) m9 i) i j)) H locs → lv_has ls 7 [(0, .ref (ad (0))), (1, .ref (ad (4))), (2, .ref (ad (4))), (3, .int (nI (n))), (4, .int (nI (m9))), (5, .int (nI (i))), (6, .int (nI (j)))] → W p l e R s m args below meth c H locs 0 0 Q (F0 m 36 ls []) := by
                intro fu
                induction fu with
                | zero =>
                  intro j H locs ls g1 g2 w hl
                  exact absurd g1 (by omega)
                | succ fu ih_36 =>
                  intro j H locs ls g1 g2 w hl
                  refine lv_iload hx hbc dX8_multiply_36 (lv_at hl 6 rfl) ?_
                  refine lv_iload hx hbc dX8_multiply_38 (lv_at hl 4 rfl) ?_
                  refine n_cmp_ge (tgt := 71) (by omega) (by omega) hx hbc dX8_multiply_40 (by decide) (fun c_40 => ?_) (fun c_40 => ?_)
                  · have e_j : j = m9 := by omega
                    rw [e_j] at w hl
                    have hl := lv_sub (l' := [(0, .ref (ad (0))), (1, .ref (ad (4))), (2, .ref (ad (4))), (3, .int (nI (n))), (4, .int (nI (m9))), (5, .int (nI (i)))]) hl [0, 1, 2, 3, 4, 5] rfl
                    refine lv_iinc (v := nI (i + 1)) (lv' := [(5, .int (nI (i + 1))), (0, .ref (ad (0))), (1, .ref (ad (4))), (2, .ref (ad (4))), (3, .int (nI (n))), (4, .int (nI (m9)))]) hx hbc dX8_multiply_71 hl (k := 5) rfl (ni_inc _ _) (by decide) rfl (fun ls hl => ?_)
                    refine lv_goto (tgt := 27) hx hbc dX8_multiply_74 (by decide) ?_
                    exact ih_27 (i + 1) _ _ _ (by omega) (by omega) w (lv_sub hl [1, 2, 3, 4, 5, 0] rfl)
                  · refine lv_aload_n hx hbc dX8_multiply_43 rfl (lv_at hl 0 rfl) ?_
                    refine wb_gr (t := 5) hx hbc hg hown w inG_X8 0 (by decide) rfl rfl 5 (by decide) rfl wk_672 dX8_multiply_44 ?_
                    refine lv_iload hx hbc dX8_multiply_47 (lv_at hl 5 rfl) ?_
                    refine lv_iload hx hbc dX8_multiply_49 (lv_at hl 6 rfl) ?_
                    refine n_iadd hx hbc dX8_multiply_51 ?_
                    refine lv_dup2_11 hx hbc dX8_multiply_52 rfl rfl ?_
                    refine wb_lald (k := i + j) (v := (mI (S.2.2 4) (S.2.2 4) (mO (S.2.2 4) (S.2.2 4) (zJ (S.2.2 5) 16) m9 i) i j) (i + j)) hx hbc w 5 (by decide) rfl 2 rfl rfl (by omega) (by decide) rfl dX8_multiply_53 ?_
                    refine lv_aload_n hx hbc dX8_multiply_54 rfl (lv_at hl 1 rfl) ?_
                    refine lv_iload hx hbc dX8_multiply_55 (lv_at hl 5 rfl) ?_
                    refine wb_lald (k := i) (v := (S.2.2 4) i) hx hbc w 4 (by decide) rfl 2 rfl rfl (by omega) (by decide) rfl dX8_multiply_57 ?_
                    refine lv_aload_n hx hbc dX8_multiply_58 rfl (lv_at hl 2 rfl) ?_
                    refine lv_iload hx hbc dX8_multiply_59 (lv_at hl 6 rfl) ?_
                    refine wb_lald (k := j) (v := (S.2.2 4) j) hx hbc w 4 (by decide) rfl 2 rfl rfl (by omega) (by decide) rfl dX8_multiply_61 ?_
                    refine lv_lmul hx hbc dX8_multiply_62 ?_
                    refine lv_ladd hx hbc dX8_multiply_63 ?_
                    refine wb_last (k := i + j) (f := mI (S.2.2 4) (S.2.2 4) (mO (S.2.2 4) (S.2.2 4) (zJ (S.2.2 5) 16) m9 i) i j) hx hbc w 5 (by decide) rfl 2 rfl rfl (by omega) (by decide) rfl rfl dX8_multiply_64 (fun H locs w => ?_)
                    refine lv_iinc (v := nI (j + 1)) (lv' := [(6, .int (nI (j + 1))), (0, .ref (ad (0))), (1, .ref (ad (4))), (2, .ref (ad (4))), (3, .int (nI (n))), (4, .int (nI (m9))), (5, .int (nI (i)))]) hx hbc dX8_multiply_65 hl (k := 6) rfl (ni_inc _ _) (by decide) rfl (fun ls hl => ?_)
                    refine lv_goto (tgt := 36) hx hbc dX8_multiply_68 (by decide) ?_
                    exact ih_36 (j + 1) _ _ _ (by omega) (by omega) (WB_cast w (sJ_sJ _ _ _ _)) (lv_sub hl [1, 2, 3, 4, 5, 6, 0] rfl)
              exact lp_36 (m9 + 1) 0 _ _ _ (by omega) (by omega) w (lv_sub hl [1, 2, 3, 4, 5, 6, 0] rfl)
        exact lp_27 (n + 1) 0 _ _ _ (by omega) (by omega) w (lv_sub hl [1, 2, 3, 4, 5, 0] rfl)
      · refine lv_aload_n hx hbc dX8_multiply_10 rfl (lv_at hl 0 rfl) ?_
        refine wb_gr (t := 5) hx hbc hg hown w inG_X8 0 (by decide) rfl rfl 5 (by decide) rfl wk_672 dX8_multiply_11 ?_
        refine lv_iload hx hbc dX8_multiply_14 (lv_at hl 5 rfl) ?_
        refine lv_lconst (v := 0) hx hbc dX8_multiply_16 (by decide) ?_
        refine wb_last (k := k) (f := zJ (S.2.2 5) k) hx hbc w 5 (by decide) rfl 2 rfl rfl (by omega) (by decide) rfl rfl dX8_multiply_17 (fun H locs w => ?_)
        refine lv_iinc (v := nI (k + 1)) (lv' := [(5, .int (nI (k + 1))), (0, .ref (ad (0))), (1, .ref (ad (4))), (2, .ref (ad (4))), (3, .int (nI (n))), (4, .int (nI (m9)))]) hx hbc dX8_multiply_18 hl (k := 5) rfl (ni_inc _ _) (by decide) rfl (fun ls hl => ?_)
        refine lv_goto (tgt := 3) hx hbc dX8_multiply_21 (by decide) ?_
        exact ih_3 (k + 1) _ _ _ (by omega) (by omega) (WB_cast w (sJ_sJ _ _ _ _)) (lv_sub hl [1, 2, 3, 4, 5, 0] rfl)
  exact lp_3 17 0 _ _ _ (by decide) (by decide) (WB_cast w (sJ_beg S 5)) (lv_sub hl [1, 2, 3, 4, 5, 0] rfl)
set_option maxHeartbeats 4000000 in
set_option maxRecDepth 100000 in
theorem k_X8_multiply6 (l : Launch) (D : va_G) (cy : Nat → ClassId) (ad : Nat → Nat) (S : wS) (n m9 : Nat) (hn : n ≤ 6) (hm : m9 ≤ 6) : CtV l yX8_multiply (Cond.code yX8_multiply cX8_multiply 7 none :: wsG) 0 0 [.ref (ad (0)), .ref (ad (6)), .ref (ad (4)), .int (nI (n)), .int (nI (m9))] D (tyM cy) 31 cy ad skM E0 (S) (fun S' => S' = sJ S 5 (mulP (S.2.2 6) (S.2.2 4) n m9 (S.2.2 5))) := by
  refine CtV_of (by decide) (Nat.le_of_ble_eq_true rfl) ?_
  intro p e s m args below meth c A ls R Q hB hRf hRl hend
  obtain ⟨hx, hbc, hr, hg, hown, hml, hlk, w, hE, hl⟩ := hB
  have hl : lv_has ls 7 [(0, .ref (ad (0))), (1, .ref (ad (6))), (2, .ref (ad (4))), (3, .int (nI (n))), (4, .int (nI (m9)))] := hl
  refine lv_iconst (v := nI (0)) hx hbc dX8_multiply_0 (by decide) ?_
  refine lv_istore (lv' := [(5, .int (nI (0))), (0, .ref (ad (0))), (1, .ref (ad (6))), (2, .ref (ad (4))), (3, .int (nI (n))), (4, .int (nI (m9)))]) hx hbc dX8_multiply_1 hl (by decide) rfl (fun ls hl => ?_)
  have lp_3 : ∀ (fu : Nat) (k : Nat) (H : Heap) (locs : List Loc) (ls : Array Slot), (16 < k + fu) → (k ≤ 16) → WB D (tyM cy) 31 cy ad skM A s (sJ S 5 (zJ (S.2.2 5) k)) H locs → lv_has ls 7 [(0, .ref (ad (0))), (1, .ref (ad (6))), (2, .ref (ad (4))), (3, .int (nI (n))), (4, .int (nI (m9))), (5, .int (nI (k)))] → W p l e R s m args below meth c H locs 0 0 Q (F0 m 3 ls []) := by
    intro fu
    induction fu with
    | zero =>
      intro k H locs ls h1 h2 w hl
      exact absurd h1 (by omega)
    | succ fu ih_3 =>
      intro k H locs ls h1 h2 w hl
      refine lv_iload hx hbc dX8_multiply_3 (lv_at hl 5 rfl) ?_
      refine lv_bipush (v := nI (16)) hx hbc dX8_multiply_5 (by decide) ?_
      refine n_cmp_ge (tgt := 24) (by omega) (by omega) hx hbc dX8_multiply_7 (by decide) (fun c_7 => ?_) (fun c_7 => ?_)
      · obtain rfl : k = 16 := by omega
        have hl := lv_sub (l' := [(0, .ref (ad (0))), (1, .ref (ad (6))), (2, .ref (ad (4))), (3, .int (nI (n))), (4, .int (nI (m9)))]) hl [0, 1, 2, 3, 4] rfl
        refine lv_iconst (v := nI (0)) hx hbc dX8_multiply_24 (by decide) ?_
        refine lv_istore (lv' := [(5, .int (nI (0))), (0, .ref (ad (0))), (1, .ref (ad (6))), (2, .ref (ad (4))), (3, .int (nI (n))), (4, .int (nI (m9)))]) hx hbc dX8_multiply_25 hl (by decide) rfl (fun ls hl => ?_)
        have lp_27 : ∀ (fu : Nat) (i : Nat) (H : Heap) (locs : List Loc) (ls : Array Slot), (n < i + fu) → (i ≤ n) → WB D (tyM cy) 31 cy ad skM A s (sJ S 5 (mO (S.2.2 6) (S.2.2 4) (zJ (S.2.2 5) 16) m9 i)) H locs → lv_has ls 7 [(0, .ref (ad (0))), (1, .ref (ad (6))), (2, .ref (ad (4))), (3, .int (nI (n))), (4, .int (nI (m9))), (5, .int (nI (i)))] → W p l e R s m args below meth c H locs 0 0 Q (F0 m 27 ls []) := by
          intro fu
          induction fu with
          | zero =>
            intro i H locs ls h1 h2 w hl
            exact absurd h1 (by omega)
          | succ fu ih_27 =>
            intro i H locs ls h1 h2 w hl
            refine lv_iload hx hbc dX8_multiply_27 (lv_at hl 5 rfl) ?_
            refine lv_iload_n hx hbc dX8_multiply_29 rfl (lv_at hl 3 rfl) ?_
            refine n_cmp_ge (tgt := 77) (by omega) (by omega) hx hbc dX8_multiply_30 (by decide) (fun c_30 => ?_) (fun c_30 => ?_)
            · have e_i : i = n := by omega
              rw [e_i] at w hl
              have hl := lv_sub (l' := [(0, .ref (ad (0))), (1, .ref (ad (6))), (2, .ref (ad (4))), (3, .int (nI (n))), (4, .int (nI (m9)))]) hl [0, 1, 2, 3, 4] rfl
              refine lv_iconst (v := nI (0)) hx hbc dX8_multiply_77 (by decide) ?_
              refine lv_istore (lv' := [(5, .int (nI (0))), (0, .ref (ad (0))), (1, .ref (ad (6))), (2, .ref (ad (4))), (3, .int (nI (n))), (4, .int (nI (m9)))]) hx hbc dX8_multiply_78 hl (by decide) rfl (fun ls hl => ?_)
              have lp_80 : ∀ (fu : Nat) (k : Nat) (H : Heap) (locs : List Loc) (ls : Array Slot), (15 < k + fu) → (k ≤ 15) → WB D (tyM cy) 31 cy ad skM A s (sJ S 5 (cJ (mO (S.2.2 6) (S.2.2 4) (zJ (S.2.2 5) 16) m9 n) k)) H locs → lv_has ls 7 [(0, .ref (ad (0))), (1, .ref (ad (6))), (2, .ref (ad (4))), (3, .int (nI (n))), (4, .int (nI (m9))), (5, .int (nI (k)))] → W p l e R s m args below meth c H locs 0 0 Q (F0 m 80 ls []) := by
                intro fu
                induction fu with
                | zero =>
                  intro k H locs ls h1 h2 w hl
                  exact absurd h1 (by omega)
                | succ fu ih_80 =>
                  intro k H locs ls h1 h2 w hl
                  refine lv_iload hx hbc dX8_multiply_80 (lv_at hl 5 rfl) ?_
                  refine lv_bipush (v := nI (15)) hx hbc dX8_multiply_82 (by decide) ?_
                  refine n_cmp_ge (tgt := 128) (by omega) (by omega) hx hbc dX8_multiply_84 (by decide) (fun c_84 => ?_) (fun c_84 => ?_)
                  · obtain rfl : k = 15 := by omega
                    exact hend _ _ _ _ _ rfl w dX8_multiply_128
                  · refine lv_aload_n hx hbc dX8_multiply_87 rfl (lv_at hl 0 rfl) ?_
                    refine wb_gr (t := 5) hx hbc hg hown w inG_X8 0 (by decide) rfl rfl 5 (by decide) rfl wk_672 dX8_multiply_88 ?_
                    refine lv_iload hx hbc dX8_multiply_91 (lv_at hl 5 rfl) ?_
                    refine lv_iconst (v := nI (1)) hx hbc dX8_multiply_93 (by decide) ?_
                    refine n_iadd hx hbc dX8_multiply_94 ?_
                    refine lv_dup2_11 hx hbc dX8_multiply_95 rfl rfl ?_
                    refine wb_lald (k := k + 1) (v := (cJ (mO (S.2.2 6) (S.2.2 4) (zJ (S.2.2 5) 16) m9 n) k) (k + 1)) hx hbc w 5 (by decide) rfl 2 rfl rfl (by omega) (by decide) rfl dX8_multiply_96 ?_
                    refine lv_aload_n hx hbc dX8_multiply_97 rfl (lv_at hl 0 rfl) ?_
                    refine wb_gr (t := 5) hx hbc hg hown w inG_X8 0 (by decide) rfl rfl 5 (by decide) rfl wk_672 dX8_multiply_98 ?_
                    refine lv_iload hx hbc dX8_multiply_101 (lv_at hl 5 rfl) ?_
                    refine wb_lald (k := k) (v := (cJ (mO (S.2.2 6) (S.2.2 4) (zJ (S.2.2 5) 16) m9 n) k) k) hx hbc w 5 (by decide) rfl 2 rfl rfl (by omega) (by decide) rfl dX8_multiply_103 ?_
                    refine lv_bipush (v := nI (16)) hx hbc dX8_multiply_104 (by decide) ?_
                    refine lv_lushr hx hbc dX8_multiply_106 rfl ?_
                    refine lv_ladd hx hbc dX8_multiply_107 ?_
                    refine wb_last (k := k + 1) (f := cJ (mO (S.2.2 6) (S.2.2 4) (zJ (S.2.2 5) 16) m9 n) k) hx hbc w 5 (by decide) rfl 2 rfl rfl (by omega) (by decide) rfl rfl dX8_multiply_108 (fun H locs w => ?_)
                    refine lv_aload_n hx hbc dX8_multiply_109 rfl (lv_at hl 0 rfl) ?_
                    refine wb_gr (t := 5) hx hbc hg hown w inG_X8 0 (by decide) rfl rfl 5 (by decide) rfl wk_672 dX8_multiply_110 ?_
                    refine lv_iload hx hbc dX8_multiply_113 (lv_at hl 5 rfl) ?_
                    refine lv_dup2_11 hx hbc dX8_multiply_115 rfl rfl ?_
                    refine wb_lald (k := k) (v := (vp_updL (cJ (mO (S.2.2 6) (S.2.2 4) (zJ (S.2.2 5) 16) m9 n) k) (k + 1) (((cJ (mO (S.2.2 6) (S.2.2 4) (zJ (S.2.2 5) 16) m9 n) k) (k + 1)) + ((((cJ (mO (S.2.2 6) (S.2.2 4) (zJ (S.2.2 5) 16) m9 n) k) k).toUInt64 >>> ((nI (16)).toInt64.toUInt64 &&& Int64.toUInt64 63)).toInt64))) k) hx hbc w 5 (by decide) rfl 2 rfl rfl (by omega) (by decide) rfl dX8_multiply_116 ?_
                    refine lv_ldc2 (v := (65535)) hx hbc hown (hg _ wk_655) dX8_multiply_117 ?_
                    refine lv_land hx hbc dX8_multiply_120 ?_
                    refine wb_last (k := k) (f := vp_updL (cJ (mO (S.2.2 6) (S.2.2 4) (zJ (S.2.2 5) 16) m9 n) k) (k + 1) (((cJ (mO (S.2.2 6) (S.2.2 4) (zJ (S.2.2 5) 16) m9 n) k) (k + 1)) + ((((cJ (mO (S.2.2 6) (S.2.2 4) (zJ (S.2.2 5) 16) m9 n) k) k).toUInt64 >>> ((nI (16)).toInt64.toUInt64 &&& Int64.toUInt64 63)).toInt64))) hx hbc w 5 (by decide) rfl 2 rfl rfl (by omega) (by decide) rfl (sJ_sJ _ _ _ _) dX8_multiply_121 (fun H locs w => ?_)
                    refine lv_iinc (v := nI (k + 1)) (lv' := [(5, .int (nI (k + 1))), (0, .ref (ad (0))), (1, .ref (ad (6))), (2, .ref (ad (4))), (3, .int (nI (n))), (4, .int (nI (m9)))]) hx hbc dX8_multiply_122 hl (k := 5) rfl (ni_inc _ _) (by decide) rfl (fun ls hl => ?_)
                    refine lv_goto (tgt := 80) hx hbc dX8_multiply_125 (by decide) ?_
                    exact ih_80 (k + 1) _ _ _ (by omega) (by omega) (WB_cast w (sJ_sJ _ _ _ _)) (lv_sub hl [1, 2, 3, 4, 5, 0] rfl)
              exact lp_80 16 0 _ _ _ (by decide) (by decide) w (lv_sub hl [1, 2, 3, 4, 5, 0] rfl)
            · refine lv_iconst (v := nI (0)) hx hbc dX8_multiply_33 (by decide) ?_
              refine lv_istore (lv' := [(6, .int (nI (0))), (0, .ref (ad (0))), (1, .ref (ad (6))), (2, .ref (ad (4))), (3, .int (nI (n))), (4, .int (nI (m9))), (5, .int (nI (i)))]) hx hbc dX8_multiply_34 hl (by decide) rfl (fun ls hl => ?_)
              have lp_36 : ∀ (fu : Nat) (j : Nat) (H : Heap) (locs : List Loc) (ls : Array Slot), (m9 < j + fu) → (j ≤ m9) → WB D (tyM cy) 31 cy ad skM A s (sJ S 5 (mI (S.2.2 6) (S.2.2 4) (mO (S.2.2 6) (S.2.2 4) (zJ (S.2.2 5) 16) m9 i) i j)) H locs → lv_has ls 7 [(0, .ref (ad (0))), (1, .ref (ad (6))), (2, .ref (ad (4))), (3, .int (nI (n))), (4, .int (nI (m9))), (5, .int (nI (i))), (6, .int (nI (j)))] → W p l e R s m args below meth c H locs 0 0 Q (F0 m 36 ls []) := by
                intro fu
                induction fu with
                | zero =>
                  intro j H locs ls g1 g2 w hl
                  exact absurd g1 (by omega)
                | succ fu ih_36 =>
                  intro j H locs ls g1 g2 w hl
                  refine lv_iload hx hbc dX8_multiply_36 (lv_at hl 6 rfl) ?_
                  refine lv_iload hx hbc dX8_multiply_38 (lv_at hl 4 rfl) ?_
                  refine n_cmp_ge (tgt := 71) (by omega) (by omega) hx hbc dX8_multiply_40 (by decide) (fun c_40 => ?_) (fun c_40 => ?_)
                  · have e_j : j = m9 := by omega
                    rw [e_j] at w hl
                    have hl := lv_sub (l' := [(0, .ref (ad (0))), (1, .ref (ad (6))), (2, .ref (ad (4))), (3, .int (nI (n))), (4, .int (nI (m9))), (5, .int (nI (i)))]) hl [0, 1, 2, 3, 4, 5] rfl
                    refine lv_iinc (v := nI (i + 1)) (lv' := [(5, .int (nI (i + 1))), (0, .ref (ad (0))), (1, .ref (ad (6))), (2, .ref (ad (4))), (3, .int (nI (n))), (4, .int (nI (m9)))]) hx hbc dX8_multiply_71 hl (k := 5) rfl (ni_inc _ _) (by decide) rfl (fun ls hl => ?_)
                    refine lv_goto (tgt := 27) hx hbc dX8_multiply_74 (by decide) ?_
                    exact ih_27 (i + 1) _ _ _ (by omega) (by omega) w (lv_sub hl [1, 2, 3, 4, 5, 0] rfl)
                  · refine lv_aload_n hx hbc dX8_multiply_43 rfl (lv_at hl 0 rfl) ?_
                    refine wb_gr (t := 5) hx hbc hg hown w inG_X8 0 (by decide) rfl rfl 5 (by decide) rfl wk_672 dX8_multiply_44 ?_
                    refine lv_iload hx hbc dX8_multiply_47 (lv_at hl 5 rfl) ?_
                    refine lv_iload hx hbc dX8_multiply_49 (lv_at hl 6 rfl) ?_
                    refine n_iadd hx hbc dX8_multiply_51 ?_
                    refine lv_dup2_11 hx hbc dX8_multiply_52 rfl rfl ?_
                    refine wb_lald (k := i + j) (v := (mI (S.2.2 6) (S.2.2 4) (mO (S.2.2 6) (S.2.2 4) (zJ (S.2.2 5) 16) m9 i) i j) (i + j)) hx hbc w 5 (by decide) rfl 2 rfl rfl (by omega) (by decide) rfl dX8_multiply_53 ?_
                    refine lv_aload_n hx hbc dX8_multiply_54 rfl (lv_at hl 1 rfl) ?_
                    refine lv_iload hx hbc dX8_multiply_55 (lv_at hl 5 rfl) ?_
                    refine wb_lald (k := i) (v := (S.2.2 6) i) hx hbc w 6 (by decide) rfl 2 rfl rfl (by omega) (by decide) rfl dX8_multiply_57 ?_
                    refine lv_aload_n hx hbc dX8_multiply_58 rfl (lv_at hl 2 rfl) ?_
                    refine lv_iload hx hbc dX8_multiply_59 (lv_at hl 6 rfl) ?_
                    refine wb_lald (k := j) (v := (S.2.2 4) j) hx hbc w 4 (by decide) rfl 2 rfl rfl (by omega) (by decide) rfl dX8_multiply_61 ?_
                    refine lv_lmul hx hbc dX8_multiply_62 ?_
                    refine lv_ladd hx hbc dX8_multiply_63 ?_
                    refine wb_last (k := i + j) (f := mI (S.2.2 6) (S.2.2 4) (mO (S.2.2 6) (S.2.2 4) (zJ (S.2.2 5) 16) m9 i) i j) hx hbc w 5 (by decide) rfl 2 rfl rfl (by omega) (by decide) rfl rfl dX8_multiply_64 (fun H locs w => ?_)
                    refine lv_iinc (v := nI (j + 1)) (lv' := [(6, .int (nI (j + 1))), (0, .ref (ad (0))), (1, .ref (ad (6))), (2, .ref (ad (4))), (3, .int (nI (n))), (4, .int (nI (m9))), (5, .int (nI (i)))]) hx hbc dX8_multiply_65 hl (k := 6) rfl (ni_inc _ _) (by decide) rfl (fun ls hl => ?_)
                    refine lv_goto (tgt := 36) hx hbc dX8_multiply_68 (by decide) ?_
                    exact ih_36 (j + 1) _ _ _ (by omega) (by omega) (WB_cast w (sJ_sJ _ _ _ _)) (lv_sub hl [1, 2, 3, 4, 5, 6, 0] rfl)
              exact lp_36 (m9 + 1) 0 _ _ _ (by omega) (by omega) w (lv_sub hl [1, 2, 3, 4, 5, 6, 0] rfl)
        exact lp_27 (n + 1) 0 _ _ _ (by omega) (by omega) w (lv_sub hl [1, 2, 3, 4, 5, 0] rfl)
      · refine lv_aload_n hx hbc dX8_multiply_10 rfl (lv_at hl 0 rfl) ?_
        refine wb_gr (t := 5) hx hbc hg hown w inG_X8 0 (by decide) rfl rfl 5 (by decide) rfl wk_672 dX8_multiply_11 ?_
        refine lv_iload hx hbc dX8_multiply_14 (lv_at hl 5 rfl) ?_
        refine lv_lconst (v := 0) hx hbc dX8_multiply_16 (by decide) ?_
        refine wb_last (k := k) (f := zJ (S.2.2 5) k) hx hbc w 5 (by decide) rfl 2 rfl rfl (by omega) (by decide) rfl rfl dX8_multiply_17 (fun H locs w => ?_)
        refine lv_iinc (v := nI (k + 1)) (lv' := [(5, .int (nI (k + 1))), (0, .ref (ad (0))), (1, .ref (ad (6))), (2, .ref (ad (4))), (3, .int (nI (n))), (4, .int (nI (m9)))]) hx hbc dX8_multiply_18 hl (k := 5) rfl (ni_inc _ _) (by decide) rfl (fun ls hl => ?_)
        refine lv_goto (tgt := 3) hx hbc dX8_multiply_21 (by decide) ?_
        exact ih_3 (k + 1) _ _ _ (by omega) (by omega) (WB_cast w (sJ_sJ _ _ _ _)) (lv_sub hl [1, 2, 3, 4, 5, 0] rfl)
  exact lp_3 17 0 _ _ _ (by decide) (by decide) (WB_cast w (sJ_beg S 5)) (lv_sub hl [1, 2, 3, 4, 5, 0] rfl)
set_option maxHeartbeats 4000000 in
set_option maxRecDepth 100000 in
theorem k_X8_isUpTo (l : Launch) (D : va_G) (cy : Nat → ClassId) (ad : Nat → Nat) (S : wS) (pv : Int32) (bt : Nat) (hbt : bt ≤ 128) : CtI l yX8_isUpTo (Cond.code yX8_isUpTo cX8_isUpTo 7 (some .boolean) :: wsG) 0 0 [.ref (ad (5)), .int (pv), .int (nI (bt))] D (tyM cy) 31 cy ad skM E0 (S) (fun r S' => r = upF (S.2.2 5) pv (bt / 16) ∧ S' = S) := by
  refine CtI_of (by decide) (Nat.le_of_ble_eq_true rfl) ?_
  intro p e s m args below meth c A ls R Q hB hRf hRl hend
  obtain ⟨hx, hbc, hr, hg, hown, hml, hlk, w, hE, hl⟩ := hB
  have hl : lv_has ls 7 [(0, .ref (ad (5))), (1, .int (pv)), (2, .int (nI (bt)))] := hl
  refine lv_iload_n hx hbc dX8_isUpTo_0 rfl (lv_at hl 2 rfl) ?_
  refine lv_bipush (v := nI (16)) hx hbc dX8_isUpTo_1 (by decide) ?_
  refine n_idiv (by omega) (by omega) (by omega) hx hbc dX8_isUpTo_3 ?_
  refine lv_istore_n (lv' := [(3, .int (nI (bt / 16))), (0, .ref (ad (5))), (1, .int (pv)), (2, .int (nI (bt)))]) hx hbc dX8_isUpTo_4 rfl hl (by decide) rfl (fun ls hl => ?_)
  refine lv_iconst (v := nI (0)) hx hbc dX8_isUpTo_5 (by decide) ?_
  refine lv_istore (lv' := [(4, .int (nI (0))), (3, .int (nI (bt / 16))), (0, .ref (ad (5))), (1, .int (pv)), (2, .int (nI (bt)))]) hx hbc dX8_isUpTo_6 hl (by decide) rfl (fun ls hl => ?_)
  refine lv_iconst (v := nI (0)) hx hbc dX8_isUpTo_8 (by decide) ?_
  refine lv_istore (lv' := [(5, .int (nI (0))), (4, .int (nI (0))), (3, .int (nI (bt / 16))), (0, .ref (ad (5))), (1, .int (pv)), (2, .int (nI (bt)))]) hx hbc dX8_isUpTo_9 hl (by decide) rfl (fun ls hl => ?_)
  have lp_11 : ∀ (fu : Nat) (k : Nat) (H : Heap) (locs : List Loc) (ls : Array Slot), (bt / 16 < k + fu) → (k ≤ bt / 16) → WB D (tyM cy) 31 cy ad skM A s (S) H locs → lv_has ls 7 [(0, .ref (ad (5))), (1, .int (pv)), (2, .int (nI (bt))), (3, .int (nI (bt / 16))), (4, .int (anZ (S.2.2 5) 0 k)), (5, .int (nI (k)))] → W p l e R s m args below meth c H locs 0 0 Q (F0 m 11 ls []) := by
    intro fu
    induction fu with
    | zero =>
      intro k H locs ls h1 h2 w hl
      exact absurd h1 (by omega)
    | succ fu ih_11 =>
      intro k H locs ls h1 h2 w hl
      refine lv_iload hx hbc dX8_isUpTo_11 (lv_at hl 5 rfl) ?_
      refine lv_iload_n hx hbc dX8_isUpTo_13 rfl (lv_at hl 3 rfl) ?_
      refine n_cmp_ge (tgt := 44) (by omega) (by omega) hx hbc dX8_isUpTo_14 (by decide) (fun c_14 => ?_) (fun c_14 => ?_)
      · obtain rfl : k = bt / 16 := by omega
        have hl := lv_sub (l' := [(0, .ref (ad (5))), (1, .int (pv)), (2, .int (nI (bt))), (3, .int (nI (bt / 16))), (4, .int (anZ (S.2.2 5) 0 (bt / 16)))]) hl [0, 1, 2, 3, 4] rfl
        refine lv_iconst (v := nI (0)) hx hbc dX8_isUpTo_44 (by decide) ?_
        refine lv_istore (lv' := [(5, .int (nI (0))), (0, .ref (ad (5))), (1, .int (pv)), (2, .int (nI (bt))), (3, .int (nI (bt / 16))), (4, .int (anZ (S.2.2 5) 0 (bt / 16)))]) hx hbc dX8_isUpTo_45 hl (by decide) rfl (fun ls hl => ?_)
        refine lv_iload_n hx hbc dX8_isUpTo_47 rfl (lv_at hl 4 rfl) ?_
        refine lv_iconst (v := nI (1)) hx hbc dX8_isUpTo_48 (by decide) ?_
        refine n_iadd hx hbc dX8_isUpTo_49 ?_
        refine lv_istore (lv' := [(6, .int (nI ((bt / 16) + 1))), (5, .int (nI (0))), (0, .ref (ad (5))), (1, .int (pv)), (2, .int (nI (bt))), (3, .int (nI (bt / 16))), (4, .int (anZ (S.2.2 5) 0 (bt / 16)))]) hx hbc dX8_isUpTo_50 hl (by decide) rfl (fun ls hl => ?_)
        have lp_52 : ∀ (fu : Nat) (k : Nat) (H : Heap) (locs : List Loc) (ls : Array Slot), (15 - bt / 16 < k + fu) → (k ≤ 15 - bt / 16) → WB D (tyM cy) 31 cy ad skM A s (S) H locs → lv_has ls 7 [(0, .ref (ad (5))), (1, .int (pv)), (2, .int (nI (bt))), (3, .int (nI (bt / 16))), (4, .int (anZ (S.2.2 5) 0 (bt / 16))), (5, .int (anZ (S.2.2 5) (bt / 16 + 1) k)), (6, .int (nI (bt / 16 + 1 + k)))] → W p l e R s m args below meth c H locs 0 0 Q (F0 m 52 ls []) := by
          intro fu
          induction fu with
          | zero =>
            intro k H locs ls h1 h2 w hl
            exact absurd h1 (by omega)
          | succ fu ih_52 =>
            intro k H locs ls h1 h2 w hl
            refine lv_iload hx hbc dX8_isUpTo_52 (lv_at hl 6 rfl) ?_
            refine lv_bipush (v := nI (16)) hx hbc dX8_isUpTo_54 (by decide) ?_
            refine n_cmp_ge (tgt := 86) (by omega) (by omega) hx hbc dX8_isUpTo_56 (by decide) (fun c_56 => ?_) (fun c_56 => ?_)
            · obtain rfl : k = 15 - bt / 16 := by omega
              have hl := lv_sub (l' := [(0, .ref (ad (5))), (1, .int (pv)), (2, .int (nI (bt))), (3, .int (nI (bt / 16))), (4, .int (anZ (S.2.2 5) 0 (bt / 16))), (5, .int (anZ (S.2.2 5) (bt / 16 + 1) (15 - bt / 16)))]) hl [0, 1, 2, 3, 4, 5] rfl
              refine lv_iload hx hbc dX8_isUpTo_86 (lv_at hl 5 rfl) ?_
              refine lv_if_ne (tgt := 118) hx hbc dX8_isUpTo_88 (by decide) (fun c_88 => ?_) (fun c_88 => ?_)
              · refine lv_iconst (v := nI (0)) hx hbc dX8_isUpTo_118 (by decide) ?_
                exact hend _ _ _ _ _ _ ⟨by unfold upF; rw [if_neg c_88], rfl⟩ (by decide) w dX8_isUpTo_119
              · refine lv_aload_n hx hbc dX8_isUpTo_91 rfl (lv_at hl 0 rfl) ?_
                refine lv_iload_n hx hbc dX8_isUpTo_92 rfl (lv_at hl 3 rfl) ?_
                refine wb_lald (k := bt / 16) (v := (S.2.2 5) (bt / 16)) hx hbc w 5 (by decide) rfl 2 rfl rfl (by omega) (by decide) rfl dX8_isUpTo_93 ?_
                refine lv_iload_n hx hbc dX8_isUpTo_94 rfl (lv_at hl 1 rfl) ?_
                refine lv_i2l hx hbc dX8_isUpTo_95 rfl ?_
                refine W.lcmp hx hbc dX8_isUpTo_96 ?_
                refine lv_if_lt (tgt := 114) hx hbc dX8_isUpTo_97 (by decide) (fun c_97 => ?_) (fun c_97 => ?_)
                · refine lv_iconst (v := nI (1)) hx hbc dX8_isUpTo_114 (by decide) ?_
                  refine lv_goto (tgt := 119) hx hbc dX8_isUpTo_115 (by decide) ?_
                  exact hend _ _ _ _ _ _ ⟨by unfold upF; rw [if_pos c_88, if_pos c_97], rfl⟩ (by decide) w dX8_isUpTo_119
                · refine lv_aload_n hx hbc dX8_isUpTo_100 rfl (lv_at hl 0 rfl) ?_
                  refine lv_iload_n hx hbc dX8_isUpTo_101 rfl (lv_at hl 3 rfl) ?_
                  refine wb_lald (k := bt / 16) (v := (S.2.2 5) (bt / 16)) hx hbc w 5 (by decide) rfl 2 rfl rfl (by omega) (by decide) rfl dX8_isUpTo_102 ?_
                  refine lv_iload_n hx hbc dX8_isUpTo_103 rfl (lv_at hl 1 rfl) ?_
                  refine lv_i2l hx hbc dX8_isUpTo_104 rfl ?_
                  refine W.lcmp hx hbc dX8_isUpTo_105 ?_
                  refine lv_if_ne (tgt := 118) hx hbc dX8_isUpTo_106 (by decide) (fun c_106 => ?_) (fun c_106 => ?_)
                  · refine lv_iconst (v := nI (0)) hx hbc dX8_isUpTo_118 (by decide) ?_
                    exact hend _ _ _ _ _ _ ⟨by unfold upF; rw [if_pos c_88, if_neg c_97, if_neg c_106], rfl⟩ (by decide) w dX8_isUpTo_119
                  · refine lv_iload hx hbc dX8_isUpTo_109 (lv_at hl 4 rfl) ?_
                    refine lv_if_ne (tgt := 118) hx hbc dX8_isUpTo_111 (by decide) (fun c_111 => ?_) (fun c_111 => ?_)
                    · refine lv_iconst (v := nI (0)) hx hbc dX8_isUpTo_118 (by decide) ?_
                      exact hend _ _ _ _ _ _ ⟨by unfold upF; rw [if_pos c_88, if_neg c_97, if_pos c_106, if_neg c_111], rfl⟩ (by decide) w dX8_isUpTo_119
                    · refine lv_iconst (v := nI (1)) hx hbc dX8_isUpTo_114 (by decide) ?_
                      refine lv_goto (tgt := 119) hx hbc dX8_isUpTo_115 (by decide) ?_
                      exact hend _ _ _ _ _ _ ⟨by unfold upF; rw [if_pos c_88, if_neg c_97, if_pos c_106, if_pos c_111], rfl⟩ (by decide) w dX8_isUpTo_119
            · refine lv_iload hx hbc dX8_isUpTo_59 (lv_at hl 5 rfl) ?_
              refine lv_if_ne (tgt := 73) hx hbc dX8_isUpTo_61 (by decide) (fun c_61 => ?_) (fun c_61 => ?_)
              · refine lv_iconst (v := nI (1)) hx hbc dX8_isUpTo_73 (by decide) ?_
                refine lv_goto (tgt := 78) hx hbc dX8_isUpTo_74 (by decide) ?_
                refine lv_ri (y := anZ (S.2.2 5) (bt / 16 + 1) (k + 1)) (anZ_t c_61) ?_
                refine lv_istore (lv' := [(5, .int (anZ (S.2.2 5) (bt / 16 + 1) (k + 1))), (0, .ref (ad (5))), (1, .int (pv)), (2, .int (nI (bt))), (3, .int (nI (bt / 16))), (4, .int (anZ (S.2.2 5) 0 (bt / 16))), (6, .int (nI (bt / 16 + 1 + k)))]) hx hbc dX8_isUpTo_78 hl (by decide) rfl (fun ls hl => ?_)
                refine lv_iinc (v := nI (bt / 16 + 1 + k + 1)) (lv' := [(6, .int (nI (bt / 16 + 1 + k + 1))), (5, .int (anZ (S.2.2 5) (bt / 16 + 1) (k + 1))), (0, .ref (ad (5))), (1, .int (pv)), (2, .int (nI (bt))), (3, .int (nI (bt / 16))), (4, .int (anZ (S.2.2 5) 0 (bt / 16)))]) hx hbc dX8_isUpTo_80 hl (k := 6) rfl (ni_inc _ _) (by decide) rfl (fun ls hl => ?_)
                refine lv_goto (tgt := 52) hx hbc dX8_isUpTo_83 (by decide) ?_
                exact ih_52 (k + 1) _ _ _ (by omega) (by omega) w (lv_sub hl [2, 3, 4, 5, 6, 1, 0] rfl)
              · refine lv_aload_n hx hbc dX8_isUpTo_64 rfl (lv_at hl 0 rfl) ?_
                refine lv_iload hx hbc dX8_isUpTo_65 (lv_at hl 6 rfl) ?_
                refine wb_lald (k := bt / 16 + 1 + k) (v := S.2.2 5 (bt / 16 + 1 + k)) hx hbc w 5 (by decide) rfl 2 rfl rfl (by omega) (by decide) rfl dX8_isUpTo_67 ?_
                refine lv_lconst (v := 0) hx hbc dX8_isUpTo_68 (by decide) ?_
                refine W.lcmp hx hbc dX8_isUpTo_69 ?_
                refine lv_if_eq (tgt := 77) hx hbc dX8_isUpTo_70 (by decide) (fun c_70 => ?_) (fun c_70 => ?_)
                · refine lv_iconst (v := nI (0)) hx hbc dX8_isUpTo_77 (by decide) ?_
                  refine lv_ri (y := anZ (S.2.2 5) (bt / 16 + 1) (k + 1)) (anZ_0 c_61 c_70) ?_
                  refine lv_istore (lv' := [(5, .int (anZ (S.2.2 5) (bt / 16 + 1) (k + 1))), (0, .ref (ad (5))), (1, .int (pv)), (2, .int (nI (bt))), (3, .int (nI (bt / 16))), (4, .int (anZ (S.2.2 5) 0 (bt / 16))), (6, .int (nI (bt / 16 + 1 + k)))]) hx hbc dX8_isUpTo_78 hl (by decide) rfl (fun ls hl => ?_)
                  refine lv_iinc (v := nI (bt / 16 + 1 + k + 1)) (lv' := [(6, .int (nI (bt / 16 + 1 + k + 1))), (5, .int (anZ (S.2.2 5) (bt / 16 + 1) (k + 1))), (0, .ref (ad (5))), (1, .int (pv)), (2, .int (nI (bt))), (3, .int (nI (bt / 16))), (4, .int (anZ (S.2.2 5) 0 (bt / 16)))]) hx hbc dX8_isUpTo_80 hl (k := 6) rfl (ni_inc _ _) (by decide) rfl (fun ls hl => ?_)
                  refine lv_goto (tgt := 52) hx hbc dX8_isUpTo_83 (by decide) ?_
                  exact ih_52 (k + 1) _ _ _ (by omega) (by omega) w (lv_sub hl [2, 3, 4, 5, 6, 1, 0] rfl)
                · refine lv_iconst (v := nI (1)) hx hbc dX8_isUpTo_73 (by decide) ?_
                  refine lv_goto (tgt := 78) hx hbc dX8_isUpTo_74 (by decide) ?_
                  refine lv_ri (y := anZ (S.2.2 5) (bt / 16 + 1) (k + 1)) (anZ_1 c_70) ?_
                  refine lv_istore (lv' := [(5, .int (anZ (S.2.2 5) (bt / 16 + 1) (k + 1))), (0, .ref (ad (5))), (1, .int (pv)), (2, .int (nI (bt))), (3, .int (nI (bt / 16))), (4, .int (anZ (S.2.2 5) 0 (bt / 16))), (6, .int (nI (bt / 16 + 1 + k)))]) hx hbc dX8_isUpTo_78 hl (by decide) rfl (fun ls hl => ?_)
                  refine lv_iinc (v := nI (bt / 16 + 1 + k + 1)) (lv' := [(6, .int (nI (bt / 16 + 1 + k + 1))), (5, .int (anZ (S.2.2 5) (bt / 16 + 1) (k + 1))), (0, .ref (ad (5))), (1, .int (pv)), (2, .int (nI (bt))), (3, .int (nI (bt / 16))), (4, .int (anZ (S.2.2 5) 0 (bt / 16)))]) hx hbc dX8_isUpTo_80 hl (k := 6) rfl (ni_inc _ _) (by decide) rfl (fun ls hl => ?_)
                  refine lv_goto (tgt := 52) hx hbc dX8_isUpTo_83 (by decide) ?_
                  exact ih_52 (k + 1) _ _ _ (by omega) (by omega) w (lv_sub hl [2, 3, 4, 5, 6, 1, 0] rfl)
        exact lp_52 16 0 _ _ _ (by omega) (by omega) w (lv_sub hl [2, 3, 4, 5, 6, 1, 0] rfl)
      · refine lv_iload hx hbc dX8_isUpTo_17 (lv_at hl 4 rfl) ?_
        refine lv_if_ne (tgt := 31) hx hbc dX8_isUpTo_19 (by decide) (fun c_19 => ?_) (fun c_19 => ?_)
        · refine lv_iconst (v := nI (1)) hx hbc dX8_isUpTo_31 (by decide) ?_
          refine lv_goto (tgt := 36) hx hbc dX8_isUpTo_32 (by decide) ?_
          refine lv_ri (y := anZ (S.2.2 5) 0 (k + 1)) (anZ_t c_19) ?_
          refine lv_istore (lv' := [(4, .int (anZ (S.2.2 5) 0 (k + 1))), (0, .ref (ad (5))), (1, .int (pv)), (2, .int (nI (bt))), (3, .int (nI (bt / 16))), (5, .int (nI (k)))]) hx hbc dX8_isUpTo_36 hl (by decide) rfl (fun ls hl => ?_)
          refine lv_iinc (v := nI (k + 1)) (lv' := [(5, .int (nI (k + 1))), (4, .int (anZ (S.2.2 5) 0 (k + 1))), (0, .ref (ad (5))), (1, .int (pv)), (2, .int (nI (bt))), (3, .int (nI (bt / 16)))]) hx hbc dX8_isUpTo_38 hl (k := 5) rfl (ni_inc _ _) (by decide) rfl (fun ls hl => ?_)
          refine lv_goto (tgt := 11) hx hbc dX8_isUpTo_41 (by decide) ?_
          exact ih_11 (k + 1) _ _ _ (by omega) (by omega) w (lv_sub hl [2, 3, 4, 5, 1, 0] rfl)
        · refine lv_aload_n hx hbc dX8_isUpTo_22 rfl (lv_at hl 0 rfl) ?_
          refine lv_iload hx hbc dX8_isUpTo_23 (lv_at hl 5 rfl) ?_
          refine wb_lald (k := k) (v := S.2.2 5 (0 + k)) hx hbc w 5 (by decide) rfl 2 rfl rfl (by omega) (by decide) (by rw [Nat.zero_add]) dX8_isUpTo_25 ?_
          refine lv_lconst (v := 0) hx hbc dX8_isUpTo_26 (by decide) ?_
          refine W.lcmp hx hbc dX8_isUpTo_27 ?_
          refine lv_if_eq (tgt := 35) hx hbc dX8_isUpTo_28 (by decide) (fun c_28 => ?_) (fun c_28 => ?_)
          · refine lv_iconst (v := nI (0)) hx hbc dX8_isUpTo_35 (by decide) ?_
            refine lv_ri (y := anZ (S.2.2 5) 0 (k + 1)) (anZ_0 c_19 c_28) ?_
            refine lv_istore (lv' := [(4, .int (anZ (S.2.2 5) 0 (k + 1))), (0, .ref (ad (5))), (1, .int (pv)), (2, .int (nI (bt))), (3, .int (nI (bt / 16))), (5, .int (nI (k)))]) hx hbc dX8_isUpTo_36 hl (by decide) rfl (fun ls hl => ?_)
            refine lv_iinc (v := nI (k + 1)) (lv' := [(5, .int (nI (k + 1))), (4, .int (anZ (S.2.2 5) 0 (k + 1))), (0, .ref (ad (5))), (1, .int (pv)), (2, .int (nI (bt))), (3, .int (nI (bt / 16)))]) hx hbc dX8_isUpTo_38 hl (k := 5) rfl (ni_inc _ _) (by decide) rfl (fun ls hl => ?_)
            refine lv_goto (tgt := 11) hx hbc dX8_isUpTo_41 (by decide) ?_
            exact ih_11 (k + 1) _ _ _ (by omega) (by omega) w (lv_sub hl [2, 3, 4, 5, 1, 0] rfl)
          · refine lv_iconst (v := nI (1)) hx hbc dX8_isUpTo_31 (by decide) ?_
            refine lv_goto (tgt := 36) hx hbc dX8_isUpTo_32 (by decide) ?_
            refine lv_ri (y := anZ (S.2.2 5) 0 (k + 1)) (anZ_1 c_28) ?_
            refine lv_istore (lv' := [(4, .int (anZ (S.2.2 5) 0 (k + 1))), (0, .ref (ad (5))), (1, .int (pv)), (2, .int (nI (bt))), (3, .int (nI (bt / 16))), (5, .int (nI (k)))]) hx hbc dX8_isUpTo_36 hl (by decide) rfl (fun ls hl => ?_)
            refine lv_iinc (v := nI (k + 1)) (lv' := [(5, .int (nI (k + 1))), (4, .int (anZ (S.2.2 5) 0 (k + 1))), (0, .ref (ad (5))), (1, .int (pv)), (2, .int (nI (bt))), (3, .int (nI (bt / 16)))]) hx hbc dX8_isUpTo_38 hl (k := 5) rfl (ni_inc _ _) (by decide) rfl (fun ls hl => ?_)
            refine lv_goto (tgt := 11) hx hbc dX8_isUpTo_41 (by decide) ?_
            exact ih_11 (k + 1) _ _ _ (by omega) (by omega) w (lv_sub hl [2, 3, 4, 5, 1, 0] rfl)
  exact lp_11 (bt / 16 + 1) 0 _ _ _ (by omega) (by omega) w (lv_sub hl [3, 4, 5, 2, 1, 0] rfl)
set_option maxHeartbeats 4000000 in
set_option maxRecDepth 100000 in
theorem k_X8_squareBits (l : Launch) (D : va_G) (cy : Nat → ClassId) (ad : Nat → Nat) (S : wS) (pp bt R0 : Nat) (hbt : bt ≤ 64) (hR : sqN pp (2 * bt / 16) (bt + 4) 0 = some R0) : CtI l yX8_squareBits (Cond.code yX8_squareBits cX8_squareBits 4 (some .int) :: wsG) 1 26 [.ref (ad (0)), .int (nI (pp)), .int (nI (bt))] D (tyM cy) 31 cy ad skM E0 (S) (fun r S' => r = rsI R0 ∧ ∃ x y z, S' = jst S x y z) := by
  refine CtI_of (by decide) (Nat.le_of_ble_eq_true rfl) ?_
  intro p e s m args below meth c A ls R Q hB hRf hRl hend
  obtain ⟨hx, hbc, hr, hg, hown, hml, hlk, w, hE, hl⟩ := hB
  have hl : lv_has ls 4 [(0, .ref (ad (0))), (1, .int (nI (pp))), (2, .int (nI (bt)))] := hl
  refine lv_iconst (v := nI (0)) hx hbc dX8_squareBits_0 (by decide) ?_
  refine lv_istore_n (lv' := [(3, .int (nI (0))), (0, .ref (ad (0))), (1, .int (nI (pp))), (2, .int (nI (bt)))]) hx hbc dX8_squareBits_1 rfl hl (by decide) rfl (fun ls hl => ?_)
  have lp_2 : ∀ (fu : Nat) (k : Nat) (H : Heap) (locs : List Loc) (ls : Array Slot), (16 < k + fu) → (k ≤ 16) → WB D (tyM cy) 31 cy ad skM A s (jst S (zJ (S.2.2 4) k) (S.2.2 5) (S.2.2 6)) H locs → lv_has ls 4 [(0, .ref (ad (0))), (1, .int (nI (pp))), (2, .int (nI (bt))), (3, .int (nI (k)))] → W p l e R s m args below meth c H locs 0 0 Q (F0 m 2 ls []) := by
    intro fu
    induction fu with
    | zero =>
      intro k H locs ls h1 h2 w hl
      exact absurd h1 (by omega)
    | succ fu ih_2 =>
      intro k H locs ls h1 h2 w hl
      refine lv_iload_n hx hbc dX8_squareBits_2 rfl (lv_at hl 3 rfl) ?_
      refine lv_bipush (v := nI (16)) hx hbc dX8_squareBits_3 (by decide) ?_
      refine n_cmp_ge (tgt := 21) (by omega) (by omega) hx hbc dX8_squareBits_5 (by decide) (fun c_5 => ?_) (fun c_5 => ?_)
      · obtain rfl : k = 16 := by omega
        have hl := lv_sub (l' := [(0, .ref (ad (0))), (1, .int (nI (pp))), (2, .int (nI (bt)))]) hl [0, 1, 2] rfl
        refine lv_iload_n hx hbc dX8_squareBits_21 rfl (lv_at hl 2 rfl) ?_
        refine lv_iconst (v := nI (3)) hx hbc dX8_squareBits_22 (by decide) ?_
        refine n_iadd hx hbc dX8_squareBits_23 ?_
        refine lv_istore_n (lv' := [(3, .int (nI (bt + 3))), (0, .ref (ad (0))), (1, .int (nI (pp))), (2, .int (nI (bt)))]) hx hbc dX8_squareBits_24 rfl hl (by decide) rfl (fun ls hl => ?_)
        have lp_25 : ∀ (fu : Nat) (x : Nat → Int64) (y : Nat → Int64) (z : Nat → Int64) (V : Nat) (H : Heap) (locs : List Loc) (ls : Array Slot), (sqN pp (2 * bt / 16) fu V = some R0) → (Dg x V) → (fu ≤ bt + 4) → WB D (tyM cy) 31 cy ad skM A s (jst S x y z) H locs → lv_has ls 4 [(0, .ref (ad (0))), (1, .int (nI (pp))), (2, .int (nI (bt))), (3, .int (dn fu))] → W p l e R s m args below meth c H locs 0 0 Q (F0 m 25 ls []) := by
          intro fu
          induction fu with
          | zero =>
            intro x y z V H locs ls h1 h2 h3 w hl
            obtain rfl : V = R0 := Option.some.inj h1
            have hl : lv_has ls 4 [(0, .ref (ad (0))), (1, .int (nI (pp))), (2, .int (nI (bt))), (3, .int ((-1)))] := hl
            refine lv_iload_n hx hbc dX8_squareBits_25 rfl (lv_at hl 3 rfl) ?_
            refine lv_if_lt (tgt := 99) hx hbc dX8_squareBits_26 (by decide) (fun c_26 => ?_) (fun c_26 => ?_)
            · refine lv_aload_n hx hbc dX8_squareBits_99 rfl (lv_at hl 0 rfl) ?_
              refine wb_gr (t := 4) hx hbc hg hown w inG_X8 0 (by decide) rfl rfl 4 (by decide) rfl wk_671 dX8_squareBits_100 ?_
              refine lv_iconst (v := nI (1)) hx hbc dX8_squareBits_103 (by decide) ?_
              refine wb_lald (k := 1) (v := x 1) hx hbc w 4 (by decide) rfl 2 rfl rfl (by omega) (by decide) rfl dX8_squareBits_104 ?_
              refine lv_bipush (v := nI (16)) hx hbc dX8_squareBits_105 (by decide) ?_
              refine lv_lshl hx hbc dX8_squareBits_107 rfl ?_
              refine lv_aload_n hx hbc dX8_squareBits_108 rfl (lv_at hl 0 rfl) ?_
              refine wb_gr (t := 4) hx hbc hg hown w inG_X8 0 (by decide) rfl rfl 4 (by decide) rfl wk_671 dX8_squareBits_109 ?_
              refine lv_iconst (v := nI (0)) hx hbc dX8_squareBits_112 (by decide) ?_
              refine wb_lald (k := 0) (v := x 0) hx hbc w 4 (by decide) rfl 2 rfl rfl (by omega) (by decide) rfl dX8_squareBits_113 ?_
              refine lv_lor hx hbc dX8_squareBits_114 ?_
              refine lv_l2i hx hbc dX8_squareBits_115 rfl ?_
              exact hend _ _ _ _ _ _ ⟨rsI_eq h2, x, y, z, rfl⟩ rfl w dX8_squareBits_116
            · exact absurd c_26 (by decide)
          | succ fu ih_25 =>
            intro x y z V H locs ls h1 h2 h3 w hl
            have hl : lv_has ls 4 [(0, .ref (ad (0))), (1, .int (nI (pp))), (2, .int (nI (bt))), (3, .int (nI (fu)))] := hl
            obtain ⟨g1, g2, g3⟩ := sqN_step h1
            have hx9 : Dg (vp_updL x (fu / 16) (x (fu / 16) + (1 <<< ((nI (fu % 16)).toInt64 &&& 63)))) (V + 2 ^ fu) := Dg_add h2 g1
            refine lv_iload_n hx hbc dX8_squareBits_25 rfl (lv_at hl 3 rfl) ?_
            refine lv_if_lt (tgt := 99) hx hbc dX8_squareBits_26 (by decide) (fun c_26 => ?_) (fun c_26 => ?_)
            · exact absurd c_26 (nI_pos (by omega))
            · refine lv_aload_n hx hbc dX8_squareBits_29 rfl (lv_at hl 0 rfl) ?_
              refine wb_gr (t := 4) hx hbc hg hown w inG_X8 0 (by decide) rfl rfl 4 (by decide) rfl wk_671 dX8_squareBits_30 ?_
              refine lv_iload_n hx hbc dX8_squareBits_33 rfl (lv_at hl 3 rfl) ?_
              refine lv_bipush (v := nI (16)) hx hbc dX8_squareBits_34 (by decide) ?_
              refine n_idiv (by omega) (by omega) (by omega) hx hbc dX8_squareBits_36 ?_
              refine lv_dup2_11 hx hbc dX8_squareBits_37 rfl rfl ?_
              refine wb_lald (k := fu / 16) (v := x (fu / 16)) hx hbc w 4 (by decide) rfl 2 rfl rfl (by omega) (by decide) rfl dX8_squareBits_38 ?_
              refine lv_lconst (v := 1) hx hbc dX8_squareBits_39 (by decide) ?_
              refine lv_iload_n hx hbc dX8_squareBits_40 rfl (lv_at hl 3 rfl) ?_
              refine lv_bipush (v := nI (16)) hx hbc dX8_squareBits_41 (by decide) ?_
              refine n_irem (by omega) (by omega) (by omega) hx hbc dX8_squareBits_43 ?_
              refine lv_lshl hx hbc dX8_squareBits_44 rfl ?_
              refine lv_ladd hx hbc dX8_squareBits_45 ?_
              refine wb_last (k := fu / 16) (f := x) hx hbc w 4 (by decide) rfl 2 rfl rfl (by omega) (by decide) rfl (jst_4 _ _ _ _ _) dX8_squareBits_46 (fun H locs w => ?_)
              refine lv_aload_n hx hbc dX8_squareBits_47 rfl (lv_at hl 0 rfl) ?_
              refine lv_aload_n hx hbc dX8_squareBits_48 rfl (lv_at hl 0 rfl) ?_
              refine wb_gr (t := 4) hx hbc hg hown w inG_X8 0 (by decide) rfl rfl 4 (by decide) rfl wk_671 dX8_squareBits_49 ?_
              refine lv_aload_n hx hbc dX8_squareBits_52 rfl (lv_at hl 0 rfl) ?_
              refine wb_gr (t := 4) hx hbc hg hown w inG_X8 0 (by decide) rfl rfl 4 (by decide) rfl wk_671 dX8_squareBits_53 ?_
              refine lv_iconst (v := nI (5)) hx hbc dX8_squareBits_56 (by decide) ?_
              refine lv_iconst (v := nI (5)) hx hbc dX8_squareBits_57 (by decide) ?_
              refine wb_Vv (na := 4) (As := [.ref (ad (4)), .ref (ad (4)), .int (nI (5)), .int (nI (5))]) (rest := []) hx hbc hml hg hown w E0_ok trivial w.1 Sub.self 0 (by decide) rfl rfl (k_X8_multiply4 l D cy ad (jst S (vp_updL x (fu / 16) ((x (fu / 16)) + (1 <<< ((nI (fu % 16)).toInt64 &&& 63)))) y z) 5 5 (by decide) (by decide)) wk_654 wk_9 wk_651 wk_653 ws_10 ⟨by decide, by decide, by decide⟩ ⟨by rw [hRf]; decide, by rw [hRl]; decide⟩ rfl hl.1 rfl (Nat.le_of_ble_eq_true rfl) dX8_squareBits_58 ⟨Nat.zero_le _, Nat.zero_le _⟩ (fun S9 H locs hp w => ?_)
              subst hp
              have w := WB_cast w (jst_5 _ _ _ _ _)
              have hd9 : Dg (mulP (vp_updL x (fu / 16) ((x (fu / 16)) + (1 <<< ((nI (fu % 16)).toInt64 &&& 63)))) (vp_updL x (fu / 16) ((x (fu / 16)) + (1 <<< ((nI (fu % 16)).toInt64 &&& 63)))) 5 5 y) ((V + 2 ^ fu) * (V + 2 ^ fu)) := mul_N hx9 hx9 g2 g2 (by decide) (by decide)
              obtain ⟨y9, e_y9⟩ : ∃ g9, g9 = mulP (vp_updL x (fu / 16) ((x (fu / 16)) + (1 <<< ((nI (fu % 16)).toInt64 &&& 63)))) (vp_updL x (fu / 16) ((x (fu / 16)) + (1 <<< ((nI (fu % 16)).toInt64 &&& 63)))) 5 5 y := ⟨_, rfl⟩
              rw [← e_y9] at hd9
              have w : WB D (tyM cy) 31 cy ad skM A s (jst S (vp_updL x (fu / 16) ((x (fu / 16)) + (1 <<< ((nI (fu % 16)).toInt64 &&& 63)))) y9 z) H locs := by rw [e_y9]; exact w
              have w : WB D (tyM cy) 31 cy ad skM A s (jst S (vp_updL x (fu / 16) ((x (fu / 16)) + (1 <<< ((nI (fu % 16)).toInt64 &&& 63)))) y9 z) H locs := w
              refine lv_aload_n hx hbc dX8_squareBits_61 rfl (lv_at hl 0 rfl) ?_
              refine wb_gr (t := 5) hx hbc hg hown w inG_X8 0 (by decide) rfl rfl 5 (by decide) rfl wk_672 dX8_squareBits_62 ?_
              refine lv_iload_n hx hbc dX8_squareBits_65 rfl (lv_at hl 1 rfl) ?_
              refine lv_iconst (v := nI (2)) hx hbc dX8_squareBits_66 (by decide) ?_
              refine lv_iload_n hx hbc dX8_squareBits_67 rfl (lv_at hl 2 rfl) ?_
              refine n_imul hx hbc dX8_squareBits_68 ?_
              refine wb_Si (na := 3) (As := [.ref (ad (5)), .int (nI (pp)), .int (nI (2 * bt))]) (rest := []) hx hbc hml hg hown w E0_ok trivial w.1 Sub.self (k_X8_isUpTo l D cy ad (jst S (vp_updL x (fu / 16) ((x (fu / 16)) + (1 <<< ((nI (fu % 16)).toInt64 &&& 63)))) y9 z) (nI (pp)) (2 * bt) (by omega)) wk_658 wk_9 wk_656 wk_657 ⟨by decide, by decide, by decide⟩ ⟨by rw [hRf]; decide, by rw [hRl]; decide⟩ rfl hl.1 rfl (Nat.le_of_ble_eq_true rfl) dX8_squareBits_69 ⟨Nat.zero_le _, Nat.zero_le _⟩ (fun r S9 H locs hp w => ?_)
              obtain ⟨hp, rfl⟩ := hp
              subst hp
              have e_u : upF y9 (nI (pp)) ((2 * bt) / 16) = upF (dg ((V + 2 ^ fu) * (V + 2 ^ fu))) (nI (pp)) ((2 * bt) / 16) := upF_cg (by omega) hd9
              have w : WB D (tyM cy) 31 cy ad skM A s (jst S (vp_updL x (fu / 16) ((x (fu / 16)) + (1 <<< ((nI (fu % 16)).toInt64 &&& 63)))) y9 z) H locs := w
              refine lv_if_ne (tgt := 93) hx hbc dX8_squareBits_72 (by decide) (fun c_72 => ?_) (fun c_72 => ?_)
              · refine lv_iinc (v := dn fu) (lv' := [(3, .int (dn fu)), (0, .ref (ad (0))), (1, .int (nI (pp))), (2, .int (nI (bt)))]) hx hbc dX8_squareBits_93 hl (k := 3) rfl (dn_dec _) (by decide) rfl (fun ls hl => ?_)
                refine lv_goto (tgt := 25) hx hbc dX8_squareBits_96 (by decide) ?_
                exact ih_25 (vp_updL x (fu / 16) ((x (fu / 16)) + (1 <<< ((nI (fu % 16)).toInt64 &&& 63)))) y9 z ((V + 2 ^ fu)) _ _ _ (by rw [if_neg (fun h9 => c_72 (e_u.trans h9))] at g3; exact g3) hx9 (by omega) w (lv_sub hl [1, 2, 3, 0] rfl)
              · refine lv_aload_n hx hbc dX8_squareBits_75 rfl (lv_at hl 0 rfl) ?_
                refine wb_gr (t := 4) hx hbc hg hown w inG_X8 0 (by decide) rfl rfl 4 (by decide) rfl wk_671 dX8_squareBits_76 ?_
                refine lv_iload_n hx hbc dX8_squareBits_79 rfl (lv_at hl 3 rfl) ?_
                refine lv_bipush (v := nI (16)) hx hbc dX8_squareBits_80 (by decide) ?_
                refine n_idiv (by omega) (by omega) (by omega) hx hbc dX8_squareBits_82 ?_
                refine lv_dup2_11 hx hbc dX8_squareBits_83 rfl rfl ?_
                refine wb_lald (k := fu / 16) (v := (vp_updL x (fu / 16) ((x (fu / 16)) + (1 <<< ((nI (fu % 16)).toInt64 &&& 63)))) (fu / 16)) hx hbc w 4 (by decide) rfl 2 rfl rfl (by omega) (by decide) rfl dX8_squareBits_84 ?_
                refine lv_lconst (v := 1) hx hbc dX8_squareBits_85 (by decide) ?_
                refine lv_iload_n hx hbc dX8_squareBits_86 rfl (lv_at hl 3 rfl) ?_
                refine lv_bipush (v := nI (16)) hx hbc dX8_squareBits_87 (by decide) ?_
                refine n_irem (by omega) (by omega) (by omega) hx hbc dX8_squareBits_89 ?_
                refine lv_lshl hx hbc dX8_squareBits_90 rfl ?_
                refine lv_lsub hx hbc dX8_squareBits_91 ?_
                refine wb_last (k := fu / 16) (f := vp_updL x (fu / 16) ((x (fu / 16)) + (1 <<< ((nI (fu % 16)).toInt64 &&& 63)))) hx hbc w 4 (by decide) rfl 2 rfl rfl (by omega) (by decide) rfl (jst_4 _ _ _ _ _) dX8_squareBits_92 (fun H locs w => ?_)
                refine lv_iinc (v := dn fu) (lv' := [(3, .int (dn fu)), (0, .ref (ad (0))), (1, .int (nI (pp))), (2, .int (nI (bt)))]) hx hbc dX8_squareBits_93 hl (k := 3) rfl (dn_dec _) (by decide) rfl (fun ls hl => ?_)
                refine lv_goto (tgt := 25) hx hbc dX8_squareBits_96 (by decide) ?_
                exact ih_25 (vp_updL (vp_updL x (fu / 16) ((x (fu / 16)) + (1 <<< ((nI (fu % 16)).toInt64 &&& 63)))) (fu / 16) (((vp_updL x (fu / 16) ((x (fu / 16)) + (1 <<< ((nI (fu % 16)).toInt64 &&& 63)))) (fu / 16)) - (1 <<< ((nI (fu % 16)).toInt64 &&& 63)))) y9 z V _ _ _ (by rw [if_pos (e_u.symm.trans c_72)] at g3; exact g3) (Dg_back h2) (by omega) w (lv_sub hl [1, 2, 3, 0] rfl)
        exact lp_25 (bt + 4) (zJ (S.2.2 4) 16) (S.2.2 5) (S.2.2 6) 0 _ _ _ hR (zJ_Dg _) (by omega) w (lv_sub hl [1, 2, 3, 0] rfl)
      · refine lv_aload_n hx hbc dX8_squareBits_8 rfl (lv_at hl 0 rfl) ?_
        refine wb_gr (t := 4) hx hbc hg hown w inG_X8 0 (by decide) rfl rfl 4 (by decide) rfl wk_671 dX8_squareBits_9 ?_
        refine lv_iload_n hx hbc dX8_squareBits_12 rfl (lv_at hl 3 rfl) ?_
        refine lv_lconst (v := 0) hx hbc dX8_squareBits_13 (by decide) ?_
        refine wb_last (k := k) (f := zJ (S.2.2 4) k) hx hbc w 4 (by decide) rfl 2 rfl rfl (by omega) (by decide) rfl (jst_4 _ _ _ _ _) dX8_squareBits_14 (fun H locs w => ?_)
        refine lv_iinc (v := nI (k + 1)) (lv' := [(3, .int (nI (k + 1))), (0, .ref (ad (0))), (1, .int (nI (pp))), (2, .int (nI (bt)))]) hx hbc dX8_squareBits_15 hl (k := 3) rfl (ni_inc _ _) (by decide) rfl (fun ls hl => ?_)
        refine lv_goto (tgt := 2) hx hbc dX8_squareBits_18 (by decide) ?_
        exact ih_2 (k + 1) _ _ _ (by omega) (by omega) w (lv_sub hl [1, 2, 3, 0] rfl)
  exact lp_2 17 0 _ _ _ (by decide) (by decide) (WB_cast w (jst_id S)) (lv_sub hl [1, 2, 3, 0] rfl)
set_option maxHeartbeats 4000000 in
set_option maxRecDepth 100000 in
theorem k_X8_cubeBits (l : Launch) (D : va_G) (cy : Nat → ClassId) (ad : Nat → Nat) (S : wS) (pp t R0 : Nat) (ht : t = 6) (hR : cbN pp t 36 0 = some R0) : CtI l yX8_cubeBits (Cond.code yX8_cubeBits cX8_cubeBits 4 (some .int) :: wsG) 1 26 [.ref (ad (0)), .int (nI (pp))] D (tyM cy) 31 cy ad skM E0 (S) (fun r S' => r = rsI R0 ∧ ∃ x y z, S' = jst S x y z) := by
  refine CtI_of (by decide) (Nat.le_of_ble_eq_true rfl) ?_
  intro p e s m args below meth c A ls R Q hB hRf hRl hend
  obtain ⟨hx, hbc, hr, hg, hown, hml, hlk, w, hE, hl⟩ := hB
  have hl : lv_has ls 4 [(0, .ref (ad (0))), (1, .int (nI (pp)))] := hl
  refine lv_iconst (v := nI (0)) hx hbc dX8_cubeBits_0 (by decide) ?_
  refine lv_istore_n (lv' := [(2, .int (nI (0))), (0, .ref (ad (0))), (1, .int (nI (pp)))]) hx hbc dX8_cubeBits_1 rfl hl (by decide) rfl (fun ls hl => ?_)
  have lp_2 : ∀ (fu : Nat) (k : Nat) (H : Heap) (locs : List Loc) (ls : Array Slot), (16 < k + fu) → (k ≤ 16) → WB D (tyM cy) 31 cy ad skM A s (jst S (zJ (S.2.2 4) k) (S.2.2 5) (S.2.2 6)) H locs → lv_has ls 4 [(0, .ref (ad (0))), (1, .int (nI (pp))), (2, .int (nI (k)))] → W p l e R s m args below meth c H locs 0 0 Q (F0 m 2 ls []) := by
    intro fu
    induction fu with
    | zero =>
      intro k H locs ls h1 h2 w hl
      exact absurd h1 (by omega)
    | succ fu ih_2 =>
      intro k H locs ls h1 h2 w hl
      refine lv_iload_n hx hbc dX8_cubeBits_2 rfl (lv_at hl 2 rfl) ?_
      refine lv_bipush (v := nI (16)) hx hbc dX8_cubeBits_3 (by decide) ?_
      refine n_cmp_ge (tgt := 21) (by omega) (by omega) hx hbc dX8_cubeBits_5 (by decide) (fun c_5 => ?_) (fun c_5 => ?_)
      · obtain rfl : k = 16 := by omega
        have hl := lv_sub (l' := [(0, .ref (ad (0))), (1, .int (nI (pp)))]) hl [0, 1] rfl
        refine lv_bipush (v := nI (35)) hx hbc dX8_cubeBits_21 (by decide) ?_
        refine lv_istore_n (lv' := [(2, .int (nI (35))), (0, .ref (ad (0))), (1, .int (nI (pp)))]) hx hbc dX8_cubeBits_23 rfl hl (by decide) rfl (fun ls hl => ?_)
        have lp_24 : ∀ (fu : Nat) (x : Nat → Int64) (y : Nat → Int64) (z : Nat → Int64) (V : Nat) (H : Heap) (locs : List Loc) (ls : Array Slot), (cbN pp t fu V = some R0) → (Dg x V) → (fu ≤ 36) → WB D (tyM cy) 31 cy ad skM A s (jst S x y z) H locs → lv_has ls 4 [(0, .ref (ad (0))), (1, .int (nI (pp))), (2, .int (dn fu))] → W p l e R s m args below meth c H locs 0 0 Q (F0 m 24 ls []) := by
          intro fu
          induction fu with
          | zero =>
            intro x y z V H locs ls h1 h2 h3 w hl
            obtain rfl : V = R0 := Option.some.inj h1
            have hl : lv_has ls 4 [(0, .ref (ad (0))), (1, .int (nI (pp))), (2, .int ((-1)))] := hl
            refine lv_iload_n hx hbc dX8_cubeBits_24 rfl (lv_at hl 2 rfl) ?_
            refine lv_if_lt (tgt := 138) hx hbc dX8_cubeBits_25 (by decide) (fun c_25 => ?_) (fun c_25 => ?_)
            · refine lv_aload_n hx hbc dX8_cubeBits_138 rfl (lv_at hl 0 rfl) ?_
              refine wb_gr (t := 4) hx hbc hg hown w inG_X8 0 (by decide) rfl rfl 4 (by decide) rfl wk_671 dX8_cubeBits_139 ?_
              refine lv_iconst (v := nI (1)) hx hbc dX8_cubeBits_142 (by decide) ?_
              refine wb_lald (k := 1) (v := x 1) hx hbc w 4 (by decide) rfl 2 rfl rfl (by omega) (by decide) rfl dX8_cubeBits_143 ?_
              refine lv_bipush (v := nI (16)) hx hbc dX8_cubeBits_144 (by decide) ?_
              refine lv_lshl hx hbc dX8_cubeBits_146 rfl ?_
              refine lv_aload_n hx hbc dX8_cubeBits_147 rfl (lv_at hl 0 rfl) ?_
              refine wb_gr (t := 4) hx hbc hg hown w inG_X8 0 (by decide) rfl rfl 4 (by decide) rfl wk_671 dX8_cubeBits_148 ?_
              refine lv_iconst (v := nI (0)) hx hbc dX8_cubeBits_151 (by decide) ?_
              refine wb_lald (k := 0) (v := x 0) hx hbc w 4 (by decide) rfl 2 rfl rfl (by omega) (by decide) rfl dX8_cubeBits_152 ?_
              refine lv_lor hx hbc dX8_cubeBits_153 ?_
              refine lv_l2i hx hbc dX8_cubeBits_154 rfl ?_
              exact hend _ _ _ _ _ _ ⟨rsI_eq h2, x, y, z, rfl⟩ rfl w dX8_cubeBits_155
            · exact absurd c_25 (by decide)
          | succ fu ih_24 =>
            intro x y z V H locs ls h1 h2 h3 w hl
            have hl : lv_has ls 4 [(0, .ref (ad (0))), (1, .int (nI (pp))), (2, .int (nI (fu)))] := hl
            obtain ⟨g1, g2, g3⟩ := cbN_step h1
            have hx9 : Dg (vp_updL x (fu / 16) (x (fu / 16) + (1 <<< ((nI (fu % 16)).toInt64 &&& 63)))) (V + 2 ^ fu) := Dg_add h2 g1
            refine lv_iload_n hx hbc dX8_cubeBits_24 rfl (lv_at hl 2 rfl) ?_
            refine lv_if_lt (tgt := 138) hx hbc dX8_cubeBits_25 (by decide) (fun c_25 => ?_) (fun c_25 => ?_)
            · exact absurd c_25 (nI_pos (by omega))
            · refine lv_aload_n hx hbc dX8_cubeBits_28 rfl (lv_at hl 0 rfl) ?_
              refine wb_gr (t := 4) hx hbc hg hown w inG_X8 0 (by decide) rfl rfl 4 (by decide) rfl wk_671 dX8_cubeBits_29 ?_
              refine lv_iload_n hx hbc dX8_cubeBits_32 rfl (lv_at hl 2 rfl) ?_
              refine lv_bipush (v := nI (16)) hx hbc dX8_cubeBits_33 (by decide) ?_
              refine n_idiv (by omega) (by omega) (by omega) hx hbc dX8_cubeBits_35 ?_
              refine lv_dup2_11 hx hbc dX8_cubeBits_36 rfl rfl ?_
              refine wb_lald (k := fu / 16) (v := x (fu / 16)) hx hbc w 4 (by decide) rfl 2 rfl rfl (by omega) (by decide) rfl dX8_cubeBits_37 ?_
              refine lv_lconst (v := 1) hx hbc dX8_cubeBits_38 (by decide) ?_
              refine lv_iload_n hx hbc dX8_cubeBits_39 rfl (lv_at hl 2 rfl) ?_
              refine lv_bipush (v := nI (16)) hx hbc dX8_cubeBits_40 (by decide) ?_
              refine n_irem (by omega) (by omega) (by omega) hx hbc dX8_cubeBits_42 ?_
              refine lv_lshl hx hbc dX8_cubeBits_43 rfl ?_
              refine lv_ladd hx hbc dX8_cubeBits_44 ?_
              refine wb_last (k := fu / 16) (f := x) hx hbc w 4 (by decide) rfl 2 rfl rfl (by omega) (by decide) rfl (jst_4 _ _ _ _ _) dX8_cubeBits_45 (fun H locs w => ?_)
              refine lv_aload_n hx hbc dX8_cubeBits_46 rfl (lv_at hl 0 rfl) ?_
              refine lv_aload_n hx hbc dX8_cubeBits_47 rfl (lv_at hl 0 rfl) ?_
              refine wb_gr (t := 4) hx hbc hg hown w inG_X8 0 (by decide) rfl rfl 4 (by decide) rfl wk_671 dX8_cubeBits_48 ?_
              refine lv_aload_n hx hbc dX8_cubeBits_51 rfl (lv_at hl 0 rfl) ?_
              refine wb_gr (t := 4) hx hbc hg hown w inG_X8 0 (by decide) rfl rfl 4 (by decide) rfl wk_671 dX8_cubeBits_52 ?_
              refine lv_iconst (v := nI (3)) hx hbc dX8_cubeBits_55 (by decide) ?_
              refine lv_iconst (v := nI (3)) hx hbc dX8_cubeBits_56 (by decide) ?_
              refine wb_Vv (na := 4) (As := [.ref (ad (4)), .ref (ad (4)), .int (nI (3)), .int (nI (3))]) (rest := []) hx hbc hml hg hown w E0_ok trivial w.1 Sub.self 0 (by decide) rfl rfl (k_X8_multiply4 l D cy ad (jst S (vp_updL x (fu / 16) ((x (fu / 16)) + (1 <<< ((nI (fu % 16)).toInt64 &&& 63)))) y z) 3 3 (by decide) (by decide)) wk_654 wk_9 wk_651 wk_653 ws_10 ⟨by decide, by decide, by decide⟩ ⟨by rw [hRf]; decide, by rw [hRl]; decide⟩ rfl hl.1 rfl (Nat.le_of_ble_eq_true rfl) dX8_cubeBits_57 ⟨Nat.zero_le _, Nat.zero_le _⟩ (fun S9 H locs hp w => ?_)
              subst hp
              have w := WB_cast w (jst_5 _ _ _ _ _)
              have hd8 : Dg (mulP (vp_updL x (fu / 16) ((x (fu / 16)) + (1 <<< ((nI (fu % 16)).toInt64 &&& 63)))) (vp_updL x (fu / 16) ((x (fu / 16)) + (1 <<< ((nI (fu % 16)).toInt64 &&& 63)))) 3 3 y) ((V + 2 ^ fu) * (V + 2 ^ fu)) := mul_N hx9 hx9 g2 g2 (by decide) (by decide)
              obtain ⟨y8, e_y8⟩ : ∃ g9, g9 = mulP (vp_updL x (fu / 16) ((x (fu / 16)) + (1 <<< ((nI (fu % 16)).toInt64 &&& 63)))) (vp_updL x (fu / 16) ((x (fu / 16)) + (1 <<< ((nI (fu % 16)).toInt64 &&& 63)))) 3 3 y := ⟨_, rfl⟩
              rw [← e_y8] at hd8
              have w : WB D (tyM cy) 31 cy ad skM A s (jst S (vp_updL x (fu / 16) ((x (fu / 16)) + (1 <<< ((nI (fu % 16)).toInt64 &&& 63)))) y8 z) H locs := by rw [e_y8]; exact w
              have w : WB D (tyM cy) 31 cy ad skM A s (jst S (vp_updL x (fu / 16) ((x (fu / 16)) + (1 <<< ((nI (fu % 16)).toInt64 &&& 63)))) y8 z) H locs := w
              refine lv_iconst (v := nI (0)) hx hbc dX8_cubeBits_60 (by decide) ?_
              refine lv_istore_n (lv' := [(3, .int (nI (0))), (0, .ref (ad (0))), (1, .int (nI (pp))), (2, .int (nI (fu)))]) hx hbc dX8_cubeBits_61 rfl hl (by decide) rfl (fun ls hl => ?_)
              obtain ⟨u9, e_u9⟩ : ∃ u9, u9 = fu := ⟨_, rfl⟩
              rw [← e_u9] at g1 g2 g3 hx9 hd8 w hl
              rw [← e_u9] at h3
              have ih_9 := ih_24
              rw [← e_u9] at ih_9
              have lp_62 : ∀ (fu : Nat) (k : Nat) (H : Heap) (locs : List Loc) (ls : Array Slot), (16 < k + fu) → (k ≤ 16) → WB D (tyM cy) 31 cy ad skM A s (jst S (vp_updL x (u9 / 16) (x (u9 / 16) + (1 <<< ((nI (u9 % 16)).toInt64 &&& 63)))) (y8) (cpJ z y8 k)) H locs → lv_has ls 4 [(0, .ref (ad (0))), (1, .int (nI (pp))), (2, .int (nI (u9))), (3, .int (nI (k)))] → W p l e R s m args below meth c H locs 0 0 Q (F0 m 62 ls []) := by
                intro fu
                induction fu with
                | zero =>
                  intro k H locs ls i1 i2 w hl
                  exact absurd i1 (by omega)
                | succ fu ih_62 =>
                  intro k H locs ls i1 i2 w hl
                  refine lv_iload_n hx hbc dX8_cubeBits_62 rfl (lv_at hl 3 rfl) ?_
                  refine lv_bipush (v := nI (16)) hx hbc dX8_cubeBits_63 (by decide) ?_
                  refine n_cmp_ge (tgt := 86) (by omega) (by omega) hx hbc dX8_cubeBits_65 (by decide) (fun c_65 => ?_) (fun c_65 => ?_)
                  · obtain rfl : k = 16 := by omega
                    have hl := lv_sub (l' := [(0, .ref (ad (0))), (1, .int (nI (pp))), (2, .int (nI (u9)))]) hl [0, 1, 2] rfl
                    refine lv_aload_n hx hbc dX8_cubeBits_86 rfl (lv_at hl 0 rfl) ?_
                    refine lv_aload_n hx hbc dX8_cubeBits_87 rfl (lv_at hl 0 rfl) ?_
                    refine wb_gr (t := 6) hx hbc hg hown w inG_X8 0 (by decide) rfl rfl 6 (by decide) rfl wk_673 dX8_cubeBits_88 ?_
                    refine lv_aload_n hx hbc dX8_cubeBits_91 rfl (lv_at hl 0 rfl) ?_
                    refine wb_gr (t := 4) hx hbc hg hown w inG_X8 0 (by decide) rfl rfl 4 (by decide) rfl wk_671 dX8_cubeBits_92 ?_
                    refine lv_bipush (v := nI (6)) hx hbc dX8_cubeBits_95 (by decide) ?_
                    refine lv_iconst (v := nI (3)) hx hbc dX8_cubeBits_97 (by decide) ?_
                    refine wb_Vv (na := 4) (As := [.ref (ad (6)), .ref (ad (4)), .int (nI (6)), .int (nI (3))]) (rest := []) hx hbc hml hg hown w E0_ok trivial w.1 Sub.self 0 (by decide) rfl rfl (k_X8_multiply6 l D cy ad (jst S (vp_updL x (u9 / 16) (x (u9 / 16) + (1 <<< ((nI (u9 % 16)).toInt64 &&& 63)))) y8 (cpJ z y8 16)) 6 3 (by decide) (by decide)) wk_654 wk_9 wk_651 wk_653 ws_10 ⟨by decide, by decide, by decide⟩ ⟨by rw [hRf]; decide, by rw [hRl]; decide⟩ rfl hl.1 rfl (Nat.le_of_ble_eq_true rfl) dX8_cubeBits_98 ⟨Nat.zero_le _, Nat.zero_le _⟩ (fun S9 H locs hp w => ?_)
                    subst hp
                    have w := WB_cast w (jst_5 _ _ _ _ _)
                    have hd9 : Dg (mulP (cpJ z y8 16) (vp_updL x (u9 / 16) (x (u9 / 16) + (1 <<< ((nI (u9 % 16)).toInt64 &&& 63)))) 6 3 y8) ((V + 2 ^ u9) * (V + 2 ^ u9) * (V + 2 ^ u9)) := mul_N (cpJ_Dg hd8) hx9 (Nat.lt_of_lt_of_le (Nat.mul_lt_mul'' g2 g2) (by decide)) g2 (by decide) (by decide)
                    obtain ⟨y9, e_y9⟩ : ∃ g9, g9 = mulP (cpJ z y8 16) (vp_updL x (u9 / 16) (x (u9 / 16) + (1 <<< ((nI (u9 % 16)).toInt64 &&& 63)))) 6 3 y8 := ⟨_, rfl⟩
                    rw [← e_y9] at hd9
                    have w : WB D (tyM cy) 31 cy ad skM A s (jst S (vp_updL x (u9 / 16) (x (u9 / 16) + (1 <<< ((nI (u9 % 16)).toInt64 &&& 63)))) y9 (cpJ z y8 16)) H locs := by rw [e_y9]; exact w
                    have w : WB D (tyM cy) 31 cy ad skM A s (jst S (vp_updL x (u9 / 16) (x (u9 / 16) + (1 <<< ((nI (u9 % 16)).toInt64 &&& 63)))) y9 (cpJ z y8 16)) H locs := w
                    refine lv_aload_n hx hbc dX8_cubeBits_101 rfl (lv_at hl 0 rfl) ?_
                    refine wb_gr (t := 5) hx hbc hg hown w inG_X8 0 (by decide) rfl rfl 5 (by decide) rfl wk_672 dX8_cubeBits_102 ?_
                    refine lv_iload_n hx hbc dX8_cubeBits_105 rfl (lv_at hl 1 rfl) ?_
                    refine lv_bipush (v := nI (96)) hx hbc dX8_cubeBits_106 (by decide) ?_
                    obtain ⟨b9, hb9⟩ : ∃ b9, b9 = 96 := ⟨_, rfl⟩
                    refine lv_ri (y := nI b9) (by rw [hb9]) ?_
                    refine wb_Si (na := 3) (As := [.ref (ad (5)), .int (nI (pp)), .int (nI (b9))]) (rest := []) hx hbc hml hg hown w E0_ok trivial w.1 Sub.self (k_X8_isUpTo l D cy ad (jst S (vp_updL x (u9 / 16) (x (u9 / 16) + (1 <<< ((nI (u9 % 16)).toInt64 &&& 63)))) y9 (cpJ z y8 16)) (nI (pp)) b9 (by omega)) wk_658 wk_9 wk_656 wk_657 ⟨by decide, by decide, by decide⟩ ⟨by rw [hRf]; decide, by rw [hRl]; decide⟩ rfl hl.1 rfl (Nat.le_of_ble_eq_true rfl) dX8_cubeBits_108 ⟨Nat.zero_le _, Nat.zero_le _⟩ (fun r S9 H locs hp w => ?_)
                    obtain ⟨hp, rfl⟩ := hp
                    subst hp
                    have e_u : upF y9 (nI (pp)) (b9 / 16) = upF (dg ((V + 2 ^ u9) * (V + 2 ^ u9) * (V + 2 ^ u9))) (nI (pp)) t := by rw [show b9 / 16 = t by omega]; exact upF_cg (by omega) hd9
                    have w : WB D (tyM cy) 31 cy ad skM A s (jst S (vp_updL x (u9 / 16) (x (u9 / 16) + (1 <<< ((nI (u9 % 16)).toInt64 &&& 63)))) y9 (cpJ z y8 16)) H locs := w
                    refine lv_if_ne (tgt := 132) hx hbc dX8_cubeBits_111 (by decide) (fun c_111 => ?_) (fun c_111 => ?_)
                    · refine lv_iinc (v := dn u9) (lv' := [(2, .int (dn u9)), (0, .ref (ad (0))), (1, .int (nI (pp)))]) hx hbc dX8_cubeBits_132 hl (k := 2) rfl (dn_dec _) (by decide) rfl (fun ls hl => ?_)
                      refine lv_goto (tgt := 24) hx hbc dX8_cubeBits_135 (by decide) ?_
                      exact ih_9 (vp_updL x (u9 / 16) (x (u9 / 16) + (1 <<< ((nI (u9 % 16)).toInt64 &&& 63)))) y9 (cpJ z y8 16) ((V + 2 ^ u9)) _ _ _ (by rw [if_neg (fun h9 => c_111 (e_u.trans h9))] at g3; exact g3) hx9 (by omega) w (lv_sub hl [1, 2, 0] rfl)
                    · refine lv_aload_n hx hbc dX8_cubeBits_114 rfl (lv_at hl 0 rfl) ?_
                      refine wb_gr (t := 4) hx hbc hg hown w inG_X8 0 (by decide) rfl rfl 4 (by decide) rfl wk_671 dX8_cubeBits_115 ?_
                      refine lv_iload_n hx hbc dX8_cubeBits_118 rfl (lv_at hl 2 rfl) ?_
                      refine lv_bipush (v := nI (16)) hx hbc dX8_cubeBits_119 (by decide) ?_
                      refine n_idiv (by omega) (by omega) (by omega) hx hbc dX8_cubeBits_121 ?_
                      refine lv_dup2_11 hx hbc dX8_cubeBits_122 rfl rfl ?_
                      refine wb_lald (k := u9 / 16) (v := (vp_updL x (u9 / 16) (x (u9 / 16) + (1 <<< ((nI (u9 % 16)).toInt64 &&& 63)))) (u9 / 16)) hx hbc w 4 (by decide) rfl 2 rfl rfl (by omega) (by decide) rfl dX8_cubeBits_123 ?_
                      refine lv_lconst (v := 1) hx hbc dX8_cubeBits_124 (by decide) ?_
                      refine lv_iload_n hx hbc dX8_cubeBits_125 rfl (lv_at hl 2 rfl) ?_
                      refine lv_bipush (v := nI (16)) hx hbc dX8_cubeBits_126 (by decide) ?_
                      refine n_irem (by omega) (by omega) (by omega) hx hbc dX8_cubeBits_128 ?_
                      refine lv_lshl hx hbc dX8_cubeBits_129 rfl ?_
                      refine lv_lsub hx hbc dX8_cubeBits_130 ?_
                      refine wb_last (k := u9 / 16) (f := vp_updL x (u9 / 16) (x (u9 / 16) + (1 <<< ((nI (u9 % 16)).toInt64 &&& 63)))) hx hbc w 4 (by decide) rfl 2 rfl rfl (by omega) (by decide) rfl (jst_4 _ _ _ _ _) dX8_cubeBits_131 (fun H locs w => ?_)
                      refine lv_iinc (v := dn u9) (lv' := [(2, .int (dn u9)), (0, .ref (ad (0))), (1, .int (nI (pp)))]) hx hbc dX8_cubeBits_132 hl (k := 2) rfl (dn_dec _) (by decide) rfl (fun ls hl => ?_)
                      refine lv_goto (tgt := 24) hx hbc dX8_cubeBits_135 (by decide) ?_
                      exact ih_9 (vp_updL (vp_updL x (u9 / 16) (x (u9 / 16) + (1 <<< ((nI (u9 % 16)).toInt64 &&& 63)))) (u9 / 16) (((vp_updL x (u9 / 16) (x (u9 / 16) + (1 <<< ((nI (u9 % 16)).toInt64 &&& 63)))) (u9 / 16)) - (1 <<< ((nI (u9 % 16)).toInt64 &&& 63)))) y9 (cpJ z y8 16) V _ _ _ (by rw [if_pos (e_u.symm.trans c_111)] at g3; exact g3) (Dg_back h2) (by omega) w (lv_sub hl [1, 2, 0] rfl)
                  · refine lv_aload_n hx hbc dX8_cubeBits_68 rfl (lv_at hl 0 rfl) ?_
                    refine wb_gr (t := 6) hx hbc hg hown w inG_X8 0 (by decide) rfl rfl 6 (by decide) rfl wk_673 dX8_cubeBits_69 ?_
                    refine lv_iload_n hx hbc dX8_cubeBits_72 rfl (lv_at hl 3 rfl) ?_
                    refine lv_aload_n hx hbc dX8_cubeBits_73 rfl (lv_at hl 0 rfl) ?_
                    refine wb_gr (t := 5) hx hbc hg hown w inG_X8 0 (by decide) rfl rfl 5 (by decide) rfl wk_672 dX8_cubeBits_74 ?_
                    refine lv_iload_n hx hbc dX8_cubeBits_77 rfl (lv_at hl 3 rfl) ?_
                    refine wb_lald (k := k) (v := y8 k) hx hbc w 5 (by decide) rfl 2 rfl rfl (by omega) (by decide) rfl dX8_cubeBits_78 ?_
                    refine wb_last (k := k) (f := cpJ z y8 k) hx hbc w 6 (by decide) rfl 2 rfl rfl (by omega) (by decide) rfl (jst_6 _ _ _ _ _) dX8_cubeBits_79 (fun H locs w => ?_)
                    refine lv_iinc (v := nI (k + 1)) (lv' := [(3, .int (nI (k + 1))), (0, .ref (ad (0))), (1, .int (nI (pp))), (2, .int (nI (u9)))]) hx hbc dX8_cubeBits_80 hl (k := 3) rfl (ni_inc _ _) (by decide) rfl (fun ls hl => ?_)
                    refine lv_goto (tgt := 62) hx hbc dX8_cubeBits_83 (by decide) ?_
                    exact ih_62 (k + 1) _ _ _ (by omega) (by omega) w (lv_sub hl [1, 2, 3, 0] rfl)
              exact lp_62 17 0 _ _ _ (by decide) (by decide) w (lv_sub hl [1, 2, 3, 0] rfl)
        exact lp_24 36 (zJ (S.2.2 4) 16) (S.2.2 5) (S.2.2 6) 0 _ _ _ hR (zJ_Dg _) (by omega) w (lv_sub hl [1, 2, 0] rfl)
      · refine lv_aload_n hx hbc dX8_cubeBits_8 rfl (lv_at hl 0 rfl) ?_
        refine wb_gr (t := 4) hx hbc hg hown w inG_X8 0 (by decide) rfl rfl 4 (by decide) rfl wk_671 dX8_cubeBits_9 ?_
        refine lv_iload_n hx hbc dX8_cubeBits_12 rfl (lv_at hl 2 rfl) ?_
        refine lv_lconst (v := 0) hx hbc dX8_cubeBits_13 (by decide) ?_
        refine wb_last (k := k) (f := zJ (S.2.2 4) k) hx hbc w 4 (by decide) rfl 2 rfl rfl (by omega) (by decide) rfl (jst_4 _ _ _ _ _) dX8_cubeBits_14 (fun H locs w => ?_)
        refine lv_iinc (v := nI (k + 1)) (lv' := [(2, .int (nI (k + 1))), (0, .ref (ad (0))), (1, .int (nI (pp)))]) hx hbc dX8_cubeBits_15 hl (k := 2) rfl (ni_inc _ _) (by decide) rfl (fun ls hl => ?_)
        refine lv_goto (tgt := 2) hx hbc dX8_cubeBits_18 (by decide) ?_
        exact ih_2 (k + 1) _ _ _ (by omega) (by omega) w (lv_sub hl [1, 2, 0] rfl)
  exact lp_2 17 0 _ _ _ (by decide) (by decide) (WB_cast w (jst_id S)) (lv_sub hl [1, 2, 0] rfl)
