set_option maxHeartbeats 4000000 in
set_option maxRecDepth 100000 in
theorem k_X8_padKey (l : Launch) (D : va_G) (cy : Nat → ClassId) (ad : Nat → Nat) (S : wS) (pl ks : Nat) (hpl : pl ≤ 4) (hks : S.1 0 14 = nI ks) (hks2 : ks ≤ 200) : CtV l yX8_padKey (Cond.code yX8_padKey cX8_padKey 3 none :: wsG) 3 77 [.ref (ad (0)), .int (nI (pl))] D (tyM cy) 31 cy ad skM E0 (S) (fun S' => S' = pkS S ks pl) := by
  refine CtV_of (by decide) (Nat.le_of_ble_eq_true rfl) ?_
  intro p e s m args below meth c A ls R Q hB hRf hRl hend
  obtain ⟨hx, hbc, hr, hg, hown, hml, hlk, w, hE, hl⟩ := hB
  have hl : lv_has ls 3 [(0, .ref (ad (0))), (1, .int (nI (pl)))] := hl
  refine lv_aload_n hx hbc dX8_padKey_0 rfl (lv_at hl 0 rfl) ?_
  refine lv_iconst (v := nI (0)) hx hbc dX8_padKey_1 (by decide) ?_
  refine wb_pi (v := nI (0)) hx hbc hg hown w inG_X8 tyX8 tyX8_ok nmX8 0 (by decide) rfl rfl 11 (by decide) rfl wk_678 rfl rfl rfl rfl dX8_padKey_2 (fun H locs w => ?_)
  refine lv_iconst (v := nI (0)) hx hbc dX8_padKey_5 (by decide) ?_
  refine lv_istore_n (lv' := [(2, .int (nI (0))), (0, .ref (ad (0))), (1, .int (nI (pl)))]) hx hbc dX8_padKey_6 rfl hl (by decide) rfl (fun ls hl => ?_)
  have lp_7 : ∀ (fu : Nat) (k : Nat) (H : Heap) (locs : List Loc) (ls : Array Slot), 64 < k + fu → k ≤ 64 → WB D (tyM cy) 31 cy ad skM A s (sB (sI S 0 11 (nI 0)) 16 (pts (S.2.1 16) (64 * pl) (kpd (S.2.1 11) ks) k)) H locs → lv_has ls 3 [(0, .ref (ad (0))), (1, .int (nI (pl))), (2, .int (nI (k)))] → W p l e R s m args below meth c H locs 0 0 Q (F0 m 7 ls []) := by
    intro fu
    induction fu with
    | zero =>
      intro k H locs ls h1 h2 w hl
      exact absurd h1 (by omega)
    | succ fu ih =>
      intro k H locs ls h1 h2 w hl
      refine lv_iload_n hx hbc dX8_padKey_7 rfl (lv_at hl 2 rfl) ?_
      refine lv_bipush (v := nI (64)) hx hbc dX8_padKey_8 (by decide) ?_
      refine n_cmp_ge (tgt := 57) (by omega) (by omega) hx hbc dX8_padKey_10 (by decide) (fun c_10 => ?_) (fun c_10 => ?_)
      · obtain rfl : k = 64 := by omega
        have w : WB D (tyM cy) 31 cy ad skM A s (pk1 S ks pl) H locs := w
        refine lv_aload_n hx hbc dX8_padKey_57 rfl (lv_at hl 0 rfl) ?_
        refine wb_gi (v := nI (ks)) hx hbc hg hown w inG_X8 0 (by decide) rfl rfl 14 (by decide) rfl wk_681 hks dX8_padKey_58 ?_
        refine lv_bipush (v := nI (64)) hx hbc dX8_padKey_61 (by decide) ?_
        refine n_cmp_le (tgt := 132) (by omega) (by omega) hx hbc dX8_padKey_63 (by decide) (fun c_63 => ?_) (fun c_63 => ?_)
        · refine lv_aload_n hx hbc dX8_padKey_132 rfl (lv_at hl 0 rfl) ?_
          refine wb_gr (t := 17) hx hbc hg hown w inG_X8 0 (by decide) rfl rfl 22 (by decide) rfl wk_689 dX8_padKey_133 ?_
          refine lv_iload_n hx hbc dX8_padKey_136 rfl (lv_at hl 1 rfl) ?_
          refine lv_aload_n hx hbc dX8_padKey_137 rfl (lv_at hl 0 rfl) ?_
          refine wb_gi (v := nI (0)) hx hbc hg hown w inG_X8 0 (by decide) rfl rfl 11 (by decide) rfl wk_678 rfl dX8_padKey_138 ?_
          refine wb_iast (k := pl) (f := S.2.1 17) hx hbc w 17 (by decide) rfl 0 rfl rfl (by omega) (by decide) rfl rfl dX8_padKey_141 (fun H locs w => ?_)
          exact hend _ _ _ _ _ (by first | exact (if_pos c_63).symm | exact (if_neg (Nat.not_le.mpr c_63)).symm) w dX8_padKey_142
        · refine lv_aload_n hx hbc dX8_padKey_66 rfl (lv_at hl 0 rfl) ?_
          refine lv_iconst (v := nI (0)) hx hbc dX8_padKey_67 (by decide) ?_
          refine wb_pi (v := nI (0)) hx hbc hg hown w inG_X8 tyX8 tyX8_ok nmX8 0 (by decide) rfl rfl 8 (by decide) rfl wk_675 rfl rfl rfl rfl dX8_padKey_68 (fun H locs w => ?_)
          have w : WB D (tyM cy) 31 cy ad skM A s (pst (pk1 S ks pl) (S.2.1 7) 0) H locs := WB_cast w (pst_0 _)
          refine lv_iconst (v := nI (0)) hx hbc dX8_padKey_71 (by decide) ?_
          refine lv_istore_n (lv' := [(2, .int (nI (0))), (0, .ref (ad (0))), (1, .int (nI (pl)))]) hx hbc dX8_padKey_72 rfl hl (by decide) rfl (fun ls hl => ?_)
          have lp_73 : ∀ (fu : Nat) (k : Nat) (H : Heap) (locs : List Loc) (ls : Array Slot), ks < k + fu → k ≤ ks → WB D (tyM cy) 31 cy ad skM A s (pst (pk1 S ks pl) (cps (S.2.1 7) (S.2.1 11) k) k) H locs → lv_has ls 3 [(0, .ref (ad (0))), (1, .int (nI (pl))), (2, .int (nI (k)))] → W p l e R s m args below meth c H locs 0 0 Q (F0 m 73 ls []) := by
            intro fu
            induction fu with
            | zero =>
              intro k H locs ls h1 h2 w hl
              exact absurd h1 (by omega)
            | succ fu ih =>
              intro k H locs ls h1 h2 w hl
              refine lv_iload_n hx hbc dX8_padKey_73 rfl (lv_at hl 2 rfl) ?_
              refine lv_aload_n hx hbc dX8_padKey_74 rfl (lv_at hl 0 rfl) ?_
              refine wb_gi (v := nI (ks)) hx hbc hg hown w inG_X8 0 (by decide) rfl rfl 14 (by decide) rfl wk_681 hks dX8_padKey_75 ?_
              refine n_cmp_ge (tgt := 97) (by omega) (by omega) hx hbc dX8_padKey_78 (by decide) (fun c_78 => ?_) (fun c_78 => ?_)
              · obtain rfl : ks = k := by omega
                refine lv_aload_n hx hbc dX8_padKey_97 rfl (lv_at hl 0 rfl) ?_
                refine lv_iconst (v := nI (0)) hx hbc dX8_padKey_98 (by decide) ?_
                refine wb_Vv (na := 1) (As := [.int (nI (0))]) (rest := []) hx hbc hml hg hown w E0_ok trivial w.1 Sub.self 0 (by decide) rfl rfl (k_X8_work l D cy ad (pk1 S ks pl) (cps (S.2.1 7) (S.2.1 11) ks) (nI (0)) ks 0 (by omega) rfl) wk_820 wk_9 wk_817 wk_819 ws_15 ⟨by decide, by decide, by decide⟩ ⟨by rw [hRf]; decide, by rw [hRl]; decide⟩ rfl hl.1 rfl (Nat.le_of_ble_eq_true rfl) dX8_padKey_99 ⟨Nat.zero_le _, Nat.zero_le _⟩ (fun S9 H locs hp w => ?_)
                subst hp
                have w : WB D (tyM cy) 31 cy ad skM A s (wrk (pk1 S ks pl) (nI (0)) (cps (S.2.1 7) (S.2.1 11) ks) ks 0) H locs := w
                refine lv_iconst (v := nI (0)) hx hbc dX8_padKey_102 (by decide) ?_
                refine lv_istore_n (lv' := [(2, .int (nI (0))), (0, .ref (ad (0))), (1, .int (nI (pl)))]) hx hbc dX8_padKey_103 rfl hl (by decide) rfl (fun ls hl => ?_)
                have w : WB D (tyM cy) 31 cy ad skM A s (pk2 S ks pl) H locs := w
                have lp_104 : ∀ (fu : Nat) (k : Nat) (H : Heap) (locs : List Loc) (ls : Array Slot), 32 < k + fu → k ≤ 32 → WB D (tyM cy) 31 cy ad skM A s (sB (pk2 S ks pl) 16 (pts (pts (S.2.1 16) (64 * pl) (kpd (S.2.1 11) ks) 64) (64 * pl) (byH ((pk2 S ks pl).2.1 8)) k)) H locs → lv_has ls 3 [(0, .ref (ad (0))), (1, .int (nI (pl))), (2, .int (nI (k)))] → W p l e R s m args below meth c H locs 0 0 Q (F0 m 104 ls []) := by
                  intro fu
                  induction fu with
                  | zero =>
                    intro k H locs ls h1 h2 w hl
                    exact absurd h1 (by omega)
                  | succ fu ih =>
                    intro k H locs ls h1 h2 w hl
                    refine lv_iload_n hx hbc dX8_padKey_104 rfl (lv_at hl 2 rfl) ?_
                    refine lv_bipush (v := nI (32)) hx hbc dX8_padKey_105 (by decide) ?_
                    refine n_cmp_ge (tgt := 132) (by omega) (by omega) hx hbc dX8_padKey_107 (by decide) (fun c_107 => ?_) (fun c_107 => ?_)
                    · obtain rfl : k = 32 := by omega
                      refine lv_aload_n hx hbc dX8_padKey_132 rfl (lv_at hl 0 rfl) ?_
                      refine wb_gr (t := 17) hx hbc hg hown w inG_X8 0 (by decide) rfl rfl 22 (by decide) rfl wk_689 dX8_padKey_133 ?_
                      refine lv_iload_n hx hbc dX8_padKey_136 rfl (lv_at hl 1 rfl) ?_
                      refine lv_aload_n hx hbc dX8_padKey_137 rfl (lv_at hl 0 rfl) ?_
                      refine wb_gi (v := nI (0 + padL ks / 64)) hx hbc hg hown w inG_X8 0 (by decide) rfl rfl 11 (by decide) rfl wk_678 rfl dX8_padKey_138 ?_
                      refine wb_iast (k := pl) (f := S.2.1 17) hx hbc w 17 (by decide) rfl 0 rfl rfl (by omega) (by decide) rfl rfl dX8_padKey_141 (fun H locs w => ?_)
                      exact hend _ _ _ _ _ (by first | exact (if_pos c_63).symm | exact (if_neg (Nat.not_le.mpr c_63)).symm) w dX8_padKey_142
                    · refine lv_aload_n hx hbc dX8_padKey_110 rfl (lv_at hl 0 rfl) ?_
                      refine wb_gr (t := 16) hx hbc hg hown w inG_X8 0 (by decide) rfl rfl 21 (by decide) rfl wk_688 dX8_padKey_111 ?_
                      refine lv_bipush (v := nI (64)) hx hbc dX8_padKey_114 (by decide) ?_
                      refine lv_iload_n hx hbc dX8_padKey_116 rfl (lv_at hl 1 rfl) ?_
                      refine n_imul hx hbc dX8_padKey_117 ?_
                      refine lv_iload_n hx hbc dX8_padKey_118 rfl (lv_at hl 2 rfl) ?_
                      refine n_iadd hx hbc dX8_padKey_119 ?_
                      refine lv_aload_n hx hbc dX8_padKey_120 rfl (lv_at hl 0 rfl) ?_
                      refine lv_iload_n hx hbc dX8_padKey_121 rfl (lv_at hl 2 rfl) ?_
                      refine wb_Vi (na := 1) (As := [.int (nI (k))]) (rest := [.int (nI ((64 * pl) + k)), .ref (ad (16))]) hx hbc hml hg hown w E0_ok trivial w.1 Sub.self 0 (by decide) rfl rfl (k_X8_byteOfH l D cy ad (sB (pk2 S ks pl) 16 (pts (pts (S.2.1 16) (64 * pl) (kpd (S.2.1 11) ks) 64) (64 * pl) (byH ((pk2 S ks pl).2.1 8)) k)) k (by omega)) wk_832 wk_9 wk_829 wk_831 ws_17 ⟨by decide, by decide, by decide⟩ ⟨by rw [hRf]; decide, by rw [hRl]; decide⟩ rfl hl.1 rfl (Nat.le_of_ble_eq_true rfl) dX8_padKey_122 ⟨Nat.zero_le _, Nat.zero_le _⟩ (fun r S9 H locs hp w => ?_)
                      obtain ⟨hp, rfl⟩ := hp
                      subst hp
                      have w : WB D (tyM cy) 31 cy ad skM A s (sB (pk2 S ks pl) 16 (pts (pts (S.2.1 16) (64 * pl) (kpd (S.2.1 11) ks) 64) (64 * pl) (byH ((pk2 S ks pl).2.1 8)) k)) H locs := w
                      refine wb_iast (k := (64 * pl) + k) (f := pts (pts (S.2.1 16) (64 * pl) (kpd (S.2.1 11) ks) 64) (64 * pl) (byH ((pk2 S ks pl).2.1 8)) k) hx hbc w 16 (by decide) rfl 0 rfl rfl (by omega) (by decide) rfl rfl dX8_padKey_125 (fun H locs w => ?_)
                      refine lv_iinc (v := nI (k + 1)) (lv' := [(2, .int (nI (k + 1))), (0, .ref (ad (0))), (1, .int (nI (pl)))]) hx hbc dX8_padKey_126 hl (k := 2) rfl (ni_inc _ _) (by decide) rfl (fun ls hl => ?_)
                      refine lv_goto (tgt := 104) hx hbc dX8_padKey_129 (by decide) ?_
                      exact ih (k + 1) _ _ _ (by omega) (by omega) (WB_cast w (by rw [sB_sB]; rfl)) (lv_sub hl [1, 2, 0] rfl)
                exact lp_104 33 0 _ _ _ (by omega) (by omega) (WB_cast w (sB_beg _ _ _ rfl)) (lv_sub hl [1, 2, 0] rfl)
              · refine lv_aload_n hx hbc dX8_padKey_81 rfl (lv_at hl 0 rfl) ?_
                refine lv_aload_n hx hbc dX8_padKey_82 rfl (lv_at hl 0 rfl) ?_
                refine wb_gr (t := 11) hx hbc hg hown w inG_X8 0 (by decide) rfl rfl 15 (by decide) rfl wk_682 dX8_padKey_83 ?_
                refine lv_iload_n hx hbc dX8_padKey_86 rfl (lv_at hl 2 rfl) ?_
                refine wb_iald (k := k) (v := (S.2.1 11) k) hx hbc w 11 (by decide) rfl 0 rfl rfl (by omega) (by decide) rfl dX8_padKey_87 ?_
                refine wb_Vv (na := 1) (As := [.int ((S.2.1 11) k)]) (rest := []) hx hbc hml hg hown w E0_ok trivial w.1 Sub.self 0 (by decide) rfl rfl (k_X8_put l D cy ad (pst (pk1 S ks pl) (cps (S.2.1 7) (S.2.1 11) k) k) ((S.2.1 11) k) k rfl (by omega)) wk_816 wk_9 wk_813 wk_815 ws_14 ⟨by decide, by decide, by decide⟩ ⟨by rw [hRf]; decide, by rw [hRl]; decide⟩ rfl hl.1 rfl (Nat.le_of_ble_eq_true rfl) dX8_padKey_88 ⟨Nat.zero_le _, Nat.zero_le _⟩ (fun S9 H locs hp w => ?_)
                subst hp
                have w := WB_cast w (pst_pst _ _ _ _ _)
                have w : WB D (tyM cy) 31 cy ad skM A s (pst (pk1 S ks pl) (upd (cps (S.2.1 7) (S.2.1 11) k) k ((S.2.1 11) k)) (k + 1)) H locs := w
                refine lv_iinc (v := nI (k + 1)) (lv' := [(2, .int (nI (k + 1))), (0, .ref (ad (0))), (1, .int (nI (pl)))]) hx hbc dX8_padKey_91 hl (k := 2) rfl (ni_inc _ _) (by decide) rfl (fun ls hl => ?_)
                refine lv_goto (tgt := 73) hx hbc dX8_padKey_94 (by decide) ?_
                exact ih (k + 1) _ _ _ (by omega) (by omega) w (lv_sub hl [1, 2, 0] rfl)
          exact lp_73 (ks + 1) 0 _ _ _ (by omega) (by omega) w (lv_sub hl [1, 2, 0] rfl)
      · refine lv_aload_n hx hbc dX8_padKey_13 rfl (lv_at hl 0 rfl) ?_
        refine wb_gr (t := 16) hx hbc hg hown w inG_X8 0 (by decide) rfl rfl 21 (by decide) rfl wk_688 dX8_padKey_14 ?_
        refine lv_bipush (v := nI (64)) hx hbc dX8_padKey_17 (by decide) ?_
        refine lv_iload_n hx hbc dX8_padKey_19 rfl (lv_at hl 1 rfl) ?_
        refine n_imul hx hbc dX8_padKey_20 ?_
        refine lv_iload_n hx hbc dX8_padKey_21 rfl (lv_at hl 2 rfl) ?_
        refine n_iadd hx hbc dX8_padKey_22 ?_
        refine lv_aload_n hx hbc dX8_padKey_23 rfl (lv_at hl 0 rfl) ?_
        refine wb_gi (v := nI (ks)) hx hbc hg hown w inG_X8 0 (by decide) rfl rfl 14 (by decide) rfl wk_681 hks dX8_padKey_24 ?_
        refine lv_bipush (v := nI (64)) hx hbc dX8_padKey_27 (by decide) ?_
        refine n_cmp_gt (tgt := 49) (by omega) (by omega) hx hbc dX8_padKey_29 (by decide) (fun c_29 => ?_) (fun c_29 => ?_)
        · refine lv_iconst (v := nI (0)) hx hbc dX8_padKey_49 (by decide) ?_
          refine wb_iast (k := (64 * pl) + k) (f := pts (S.2.1 16) (64 * pl) (kpd (S.2.1 11) ks) k) hx hbc w 16 (by decide) rfl 0 rfl rfl (by omega) (by decide) rfl rfl dX8_padKey_50 (fun H locs w => ?_)
          refine lv_iinc (v := nI (k + 1)) (lv' := [(2, .int (nI (k + 1))), (0, .ref (ad (0))), (1, .int (nI (pl)))]) hx hbc dX8_padKey_51 hl (k := 2) rfl (ni_inc _ _) (by decide) rfl (fun ls hl => ?_)
          refine lv_goto (tgt := 7) hx hbc dX8_padKey_54 (by decide) ?_
          exact ih (k + 1) _ _ _ (by omega) (by omega) (WB_cast w (by rw [sB_sB]; simp only [pts]; first | rw [kpd, if_pos (by omega)] | rw [kpd, if_neg (by omega)])) (lv_sub hl [1, 2, 0] rfl)
        · refine lv_iload_n hx hbc dX8_padKey_32 rfl (lv_at hl 2 rfl) ?_
          refine lv_aload_n hx hbc dX8_padKey_33 rfl (lv_at hl 0 rfl) ?_
          refine wb_gi (v := nI (ks)) hx hbc hg hown w inG_X8 0 (by decide) rfl rfl 14 (by decide) rfl wk_681 hks dX8_padKey_34 ?_
          refine n_cmp_ge (tgt := 49) (by omega) (by omega) hx hbc dX8_padKey_37 (by decide) (fun c_37 => ?_) (fun c_37 => ?_)
          · refine lv_iconst (v := nI (0)) hx hbc dX8_padKey_49 (by decide) ?_
            refine wb_iast (k := (64 * pl) + k) (f := pts (S.2.1 16) (64 * pl) (kpd (S.2.1 11) ks) k) hx hbc w 16 (by decide) rfl 0 rfl rfl (by omega) (by decide) rfl rfl dX8_padKey_50 (fun H locs w => ?_)
            refine lv_iinc (v := nI (k + 1)) (lv' := [(2, .int (nI (k + 1))), (0, .ref (ad (0))), (1, .int (nI (pl)))]) hx hbc dX8_padKey_51 hl (k := 2) rfl (ni_inc _ _) (by decide) rfl (fun ls hl => ?_)
            refine lv_goto (tgt := 7) hx hbc dX8_padKey_54 (by decide) ?_
            exact ih (k + 1) _ _ _ (by omega) (by omega) (WB_cast w (by rw [sB_sB]; simp only [pts]; first | rw [kpd, if_pos (by omega)] | rw [kpd, if_neg (by omega)])) (lv_sub hl [1, 2, 0] rfl)
          · refine lv_aload_n hx hbc dX8_padKey_40 rfl (lv_at hl 0 rfl) ?_
            refine wb_gr (t := 11) hx hbc hg hown w inG_X8 0 (by decide) rfl rfl 15 (by decide) rfl wk_682 dX8_padKey_41 ?_
            refine lv_iload_n hx hbc dX8_padKey_44 rfl (lv_at hl 2 rfl) ?_
            refine wb_iald (k := k) (v := (S.2.1 11) k) hx hbc w 11 (by decide) rfl 0 rfl rfl (by omega) (by decide) rfl dX8_padKey_45 ?_
            refine lv_goto (tgt := 50) hx hbc dX8_padKey_46 (by decide) ?_
            refine wb_iast (k := (64 * pl) + k) (f := pts (S.2.1 16) (64 * pl) (kpd (S.2.1 11) ks) k) hx hbc w 16 (by decide) rfl 0 rfl rfl (by omega) (by decide) rfl rfl dX8_padKey_50 (fun H locs w => ?_)
            refine lv_iinc (v := nI (k + 1)) (lv' := [(2, .int (nI (k + 1))), (0, .ref (ad (0))), (1, .int (nI (pl)))]) hx hbc dX8_padKey_51 hl (k := 2) rfl (ni_inc _ _) (by decide) rfl (fun ls hl => ?_)
            refine lv_goto (tgt := 7) hx hbc dX8_padKey_54 (by decide) ?_
            exact ih (k + 1) _ _ _ (by omega) (by omega) (WB_cast w (by rw [sB_sB]; simp only [pts]; first | rw [kpd, if_pos (by omega)] | rw [kpd, if_neg (by omega)])) (lv_sub hl [1, 2, 0] rfl)
  exact lp_7 65 0 _ _ _ (by omega) (by omega) (WB_cast w (sB_beg _ _ _ rfl)) (lv_sub hl [1, 2, 0] rfl)
