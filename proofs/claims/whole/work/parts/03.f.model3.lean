set_option maxHeartbeats 4000000 in
set_option maxRecDepth 100000 in
theorem k_X8_padKey (l : Launch) (D : va_G) (cy : Nat → ClassId) (ad : Nat → Nat) (S : wS) (pl ks : Nat) (hpl : pl ≤ 4) (hks : S.1 0 14 = nI ks) (hks2 : ks ≤ 200) : CtV l yX8_padKey (Cond.code yX8_padKey cX8_padKey 3 none :: wsG) 3 77 [.ref (ad (0)), .int (nI (pl))] D (tyM cy) 31 cy ad skM E0 (S) (fun S' => S' = pkS S ks pl) := by
  refine CtV_of (by decide) (Nat.le_of_ble_eq_true rfl) ?_
  intro p e s m args below meth c A ls R Q hB hRf hRl hend
  obtain ⟨hx, hbc, hr, hg, hown, hml, hlk, w, hE, hl⟩ := hB
  have hl : lv_has ls 3 [(0, .ref (ad (0))), (1, .int (nI (pl)))] := hl
  refine lv_aload_n hx hbc dX8_padKey_0 rfl (lv_at hl 0 rfl) ?_
  refine lv_iconst (v := nI (0)) hx hbc dX8_padKey_1 (by decide) ?_
  refine wb_pi (v := nI (0)) hx hbc hg hown w inG_X8 tyX8 tyX8_ok nmX8 0 (by decide) rfl rfl 11 (by decide) rfl wk_678 rfl rfl rfl rfl dX8_padKey_2 (fun H locs w => ?_)
  refine lv_iconst (v := nI (0)) hx hbc dX8_padKey_5 (by decide) ?_
  refine lv_istore_n (lv' := [(2, .int (nI (0))), (0, .ref (ad (0))), (1, .int (nI (pl)))]) hx hbc dX8_padKey_6 rfl hl (by decide) rfl (fun ls hl => ?_)
  have lp_7 : ∀ (fu : Nat) (k : Nat) (H : Heap) (locs : List Loc) (ls : Array Slot), (64 < k + fu) → (k ≤ 64) → WB D (tyM cy) 31 cy ad skM A s (sB (sI S 0 11 (nI 0)) 16 (pts (S.2.1 16) (64 * pl) (kpd (S.2.1 11) ks) k)) H locs → lv_has ls 3 [(0, .ref (ad (0))), (1, .int (nI (pl))), (2, .int (nI (k)))] → W p l e R s m args below meth c H locs 0 0 Q (F0 m 7 ls []) := by
    intro fu
    induction fu with
    | zero =>
      intro k H locs ls h1 h2 w hl
      exact absurd h1 (by omega)
    | succ fu ih_7 =>
      intro k H locs ls h1 h2 w hl
      refine lv_iload_n hx hbc dX8_padKey_7 rfl (lv_at hl 2 rfl) ?_
      refine lv_bipush (v := nI (64)) hx hbc dX8_padKey_8 (by decide) ?_
      refine n_cmp_ge (tgt := 57) (by omega) (by omega) hx hbc dX8_padKey_10 (by decide) (fun c_10 => ?_) (fun c_10 => ?_)
      · obtain rfl : k = 64 := by omega
        have w : WB D (tyM cy) 31 cy ad skM A s (pk1 S ks pl) H locs := w
        refine lv_aload_n hx hbc dX8_padKey_57 rfl (lv_at hl 0 rfl) ?_
        refine wb_gi (v := nI (ks)) hx hbc hg hown w inG_X8 0 (by decide) rfl rfl 14 (by decide) rfl wk_681 hks dX8_padKey_58 ?_
        refine lv_bipush (v := nI (64)) hx hbc dX8_padKey_61 (by decide) ?_
        refine n_cmp_le (tgt := 132) (by omega) (by omega) hx hbc dX8_padKey_63 (by decide) (fun c_63 => ?_) (fun c_63 => ?_)
        · refine lv_aload_n hx hbc dX8_padKey_132 rfl (lv_at hl 0 rfl) ?_
          refine wb_gr (t := 17) hx hbc hg hown w inG_X8 0 (by decide) rfl rfl 22 (by decide) rfl wk_689 dX8_padKey_133 ?_
          refine lv_iload_n hx hbc dX8_padKey_136 rfl (lv_at hl 1 rfl) ?_
          refine lv_aload_n hx hbc dX8_padKey_137 rfl (lv_at hl 0 rfl) ?_
          refine wb_gi (v := nI (0)) hx hbc hg hown w inG_X8 0 (by decide) rfl rfl 11 (by decide) rfl wk_678 rfl dX8_padKey_138 ?_
          refine wb_iast (k := pl) (f := S.2.1 17) hx hbc w 17 (by decide) rfl 0 rfl rfl (by omega) (by decide) rfl rfl dX8_padKey_141 (fun H locs w => ?_)
          exact hend _ _ _ _ _ (by first | exact (if_pos c_63).symm | exact (if_neg (Nat.not_le.mpr c_63)).symm) w dX8_padKey_142
        · refine lv_aload_n hx hbc dX8_padKey_66 rfl (lv_at hl 0 rfl) ?_
          refine lv_iconst (v := nI (0)) hx hbc dX8_padKey_67 (by decide) ?_
          refine wb_pi (v := nI (0)) hx hbc hg hown w inG_X8 tyX8 tyX8_ok nmX8 0 (by decide) rfl rfl 8 (by decide) rfl wk_675 rfl rfl rfl rfl dX8_padKey_68 (fun H locs w => ?_)
          have w : WB D (tyM cy) 31 cy ad skM A s (pst (pk1 S ks pl) (S.2.1 7) 0) H locs := WB_cast w (pst_0 _)
          refine lv_iconst (v := nI (0)) hx hbc dX8_padKey_71 (by decide) ?_
          refine lv_istore_n (lv' := [(2, .int (nI (0))), (0, .ref (ad (0))), (1, .int (nI (pl)))]) hx hbc dX8_padKey_72 rfl hl (by decide) rfl (fun ls hl => ?_)
          have lp_73 : ∀ (fu : Nat) (k : Nat) (H : Heap) (locs : List Loc) (ls : Array Slot), (ks < k + fu) → (k ≤ ks) → WB D (tyM cy) 31 cy ad skM A s (pst (pk1 S ks pl) (cps (S.2.1 7) (S.2.1 11) k) k) H locs → lv_has ls 3 [(0, .ref (ad (0))), (1, .int (nI (pl))), (2, .int (nI (k)))] → W p l e R s m args below meth c H locs 0 0 Q (F0 m 73 ls []) := by
            intro fu
            induction fu with
            | zero =>
              intro k H locs ls h1 h2 w hl
              exact absurd h1 (by omega)
            | succ fu ih_73 =>
              intro k H locs ls h1 h2 w hl
              refine lv_iload_n hx hbc dX8_padKey_73 rfl (lv_at hl 2 rfl) ?_
              refine lv_aload_n hx hbc dX8_padKey_74 rfl (lv_at hl 0 rfl) ?_
              refine wb_gi (v := nI (ks)) hx hbc hg hown w inG_X8 0 (by decide) rfl rfl 14 (by decide) rfl wk_681 hks dX8_padKey_75 ?_
              refine n_cmp_ge (tgt := 97) (by omega) (by omega) hx hbc dX8_padKey_78 (by decide) (fun c_78 => ?_) (fun c_78 => ?_)
              · obtain rfl : ks = k := by omega
                refine lv_aload_n hx hbc dX8_padKey_97 rfl (lv_at hl 0 rfl) ?_
                refine lv_iconst (v := nI (0)) hx hbc dX8_padKey_98 (by decide) ?_
                refine wb_Vv (na := 1) (As := [.int (nI (0))]) (rest := []) hx hbc hml hg hown w E0_ok trivial w.1 Sub.self 0 (by decide) rfl rfl (k_X8_work l D cy ad (pk1 S ks pl) (cps (S.2.1 7) (S.2.1 11) ks) (nI (0)) ks 0 (by omega) rfl) wk_820 wk_9 wk_817 wk_819 ws_15 ⟨by decide, by decide, by decide⟩ ⟨by rw [hRf]; decide, by rw [hRl]; decide⟩ rfl hl.1 rfl (Nat.le_of_ble_eq_true rfl) dX8_padKey_99 ⟨Nat.zero_le _, Nat.zero_le _⟩ (fun S9 H locs hp w => ?_)
                subst hp
                have w : WB D (tyM cy) 31 cy ad skM A s (wrk (pk1 S ks pl) (nI (0)) (cps (S.2.1 7) (S.2.1 11) ks) ks 0) H locs := w
                refine lv_iconst (v := nI (0)) hx hbc dX8_padKey_102 (by decide) ?_
                refine lv_istore_n (lv' := [(2, .int (nI (0))), (0, .ref (ad (0))), (1, .int (nI (pl)))]) hx hbc dX8_padKey_103 rfl hl (by decide) rfl (fun ls hl => ?_)
                have w : WB D (tyM cy) 31 cy ad skM A s (pk2 S ks pl) H locs := w
                have lp_104 : ∀ (fu : Nat) (k : Nat) (H : Heap) (locs : List Loc) (ls : Array Slot), (32 < k + fu) → (k ≤ 32) → WB D (tyM cy) 31 cy ad skM A s (sB (pk2 S ks pl) 16 (pts (pts (S.2.1 16) (64 * pl) (kpd (S.2.1 11) ks) 64) (64 * pl) (byH ((pk2 S ks pl).2.1 8)) k)) H locs → lv_has ls 3 [(0, .ref (ad (0))), (1, .int (nI (pl))), (2, .int (nI (k)))] → W p l e R s m args below meth c H locs 0 0 Q (F0 m 104 ls []) := by
                  intro fu
                  induction fu with
                  | zero =>
                    intro k H locs ls h1 h2 w hl
                    exact absurd h1 (by omega)
                  | succ fu ih_104 =>
                    intro k H locs ls h1 h2 w hl
                    refine lv_iload_n hx hbc dX8_padKey_104 rfl (lv_at hl 2 rfl) ?_
                    refine lv_bipush (v := nI (32)) hx hbc dX8_padKey_105 (by decide) ?_
                    refine n_cmp_ge (tgt := 132) (by omega) (by omega) hx hbc dX8_padKey_107 (by decide) (fun c_107 => ?_) (fun c_107 => ?_)
                    · obtain rfl : k = 32 := by omega
                      refine lv_aload_n hx hbc dX8_padKey_132 rfl (lv_at hl 0 rfl) ?_
                      refine wb_gr (t := 17) hx hbc hg hown w inG_X8 0 (by decide) rfl rfl 22 (by decide) rfl wk_689 dX8_padKey_133 ?_
                      refine lv_iload_n hx hbc dX8_padKey_136 rfl (lv_at hl 1 rfl) ?_
                      refine lv_aload_n hx hbc dX8_padKey_137 rfl (lv_at hl 0 rfl) ?_
                      refine wb_gi (v := nI (0 + padL ks / 64)) hx hbc hg hown w inG_X8 0 (by decide) rfl rfl 11 (by decide) rfl wk_678 rfl dX8_padKey_138 ?_
                      refine wb_iast (k := pl) (f := S.2.1 17) hx hbc w 17 (by decide) rfl 0 rfl rfl (by omega) (by decide) rfl rfl dX8_padKey_141 (fun H locs w => ?_)
                      exact hend _ _ _ _ _ (by first | exact (if_pos c_63).symm | exact (if_neg (Nat.not_le.mpr c_63)).symm) w dX8_padKey_142
                    · refine lv_aload_n hx hbc dX8_padKey_110 rfl (lv_at hl 0 rfl) ?_
                      refine wb_gr (t := 16) hx hbc hg hown w inG_X8 0 (by decide) rfl rfl 21 (by decide) rfl wk_688 dX8_padKey_111 ?_
                      refine lv_bipush (v := nI (64)) hx hbc dX8_padKey_114 (by decide) ?_
                      refine lv_iload_n hx hbc dX8_padKey_116 rfl (lv_at hl 1 rfl) ?_
                      refine n_imul hx hbc dX8_padKey_117 ?_
                      refine lv_iload_n hx hbc dX8_padKey_118 rfl (lv_at hl 2 rfl) ?_
                      refine n_iadd hx hbc dX8_padKey_119 ?_
                      refine lv_aload_n hx hbc dX8_padKey_120 rfl (lv_at hl 0 rfl) ?_
                      refine lv_iload_n hx hbc dX8_padKey_121 rfl (lv_at hl 2 rfl) ?_
                      refine wb_Vi (na := 1) (As := [.int (nI (k))]) (rest := [.int (nI ((64 * pl) + k)), .ref (ad (16))]) hx hbc hml hg hown w E0_ok trivial w.1 Sub.self 0 (by decide) rfl rfl (k_X8_byteOfH l D cy ad (sB (pk2 S ks pl) 16 (pts (pts (S.2.1 16) (64 * pl) (kpd (S.2.1 11) ks) 64) (64 * pl) (byH ((pk2 S ks pl).2.1 8)) k)) k (by omega)) wk_832 wk_9 wk_829 wk_831 ws_17 ⟨by decide, by decide, by decide⟩ ⟨by rw [hRf]; decide, by rw [hRl]; decide⟩ rfl hl.1 rfl (Nat.le_of_ble_eq_true rfl) dX8_padKey_122 ⟨Nat.zero_le _, Nat.zero_le _⟩ (fun r S9 H locs hp w => ?_)
                      obtain ⟨hp, rfl⟩ := hp
                      subst hp
                      have w : WB D (tyM cy) 31 cy ad skM A s (sB (pk2 S ks pl) 16 (pts (pts (S.2.1 16) (64 * pl) (kpd (S.2.1 11) ks) 64) (64 * pl) (byH ((pk2 S ks pl).2.1 8)) k)) H locs := w
                      refine wb_iast (k := (64 * pl) + k) (f := pts (pts (S.2.1 16) (64 * pl) (kpd (S.2.1 11) ks) 64) (64 * pl) (byH ((pk2 S ks pl).2.1 8)) k) hx hbc w 16 (by decide) rfl 0 rfl rfl (by omega) (by decide) rfl rfl dX8_padKey_125 (fun H locs w => ?_)
                      refine lv_iinc (v := nI (k + 1)) (lv' := [(2, .int (nI (k + 1))), (0, .ref (ad (0))), (1, .int (nI (pl)))]) hx hbc dX8_padKey_126 hl (k := 2) rfl (ni_inc _ _) (by decide) rfl (fun ls hl => ?_)
                      refine lv_goto (tgt := 104) hx hbc dX8_padKey_129 (by decide) ?_
                      exact ih_104 (k + 1) _ _ _ (by omega) (by omega) (WB_cast w (by rw [sB_sB]; rfl)) (lv_sub hl [1, 2, 0] rfl)
                exact lp_104 33 0 _ _ _ (by omega) (by omega) (WB_cast w (sB_beg _ _ _ rfl)) (lv_sub hl [1, 2, 0] rfl)
              · refine lv_aload_n hx hbc dX8_padKey_81 rfl (lv_at hl 0 rfl) ?_
                refine lv_aload_n hx hbc dX8_padKey_82 rfl (lv_at hl 0 rfl) ?_
                refine wb_gr (t := 11) hx hbc hg hown w inG_X8 0 (by decide) rfl rfl 15 (by decide) rfl wk_682 dX8_padKey_83 ?_
                refine lv_iload_n hx hbc dX8_padKey_86 rfl (lv_at hl 2 rfl) ?_
                refine wb_iald (k := k) (v := (S.2.1 11) k) hx hbc w 11 (by decide) rfl 0 rfl rfl (by omega) (by decide) rfl dX8_padKey_87 ?_
                refine wb_Vv (na := 1) (As := [.int ((S.2.1 11) k)]) (rest := []) hx hbc hml hg hown w E0_ok trivial w.1 Sub.self 0 (by decide) rfl rfl (k_X8_put l D cy ad (pst (pk1 S ks pl) (cps (S.2.1 7) (S.2.1 11) k) k) ((S.2.1 11) k) k rfl (by omega)) wk_816 wk_9 wk_813 wk_815 ws_14 ⟨by decide, by decide, by decide⟩ ⟨by rw [hRf]; decide, by rw [hRl]; decide⟩ rfl hl.1 rfl (Nat.le_of_ble_eq_true rfl) dX8_padKey_88 ⟨Nat.zero_le _, Nat.zero_le _⟩ (fun S9 H locs hp w => ?_)
                subst hp
                have w := WB_cast w (pst_pst _ _ _ _ _)
                have w : WB D (tyM cy) 31 cy ad skM A s (pst (pk1 S ks pl) (upd (cps (S.2.1 7) (S.2.1 11) k) k ((S.2.1 11) k)) (k + 1)) H locs := w
                refine lv_iinc (v := nI (k + 1)) (lv' := [(2, .int (nI (k + 1))), (0, .ref (ad (0))), (1, .int (nI (pl)))]) hx hbc dX8_padKey_91 hl (k := 2) rfl (ni_inc _ _) (by decide) rfl (fun ls hl => ?_)
                refine lv_goto (tgt := 73) hx hbc dX8_padKey_94 (by decide) ?_
                exact ih_73 (k + 1) _ _ _ (by omega) (by omega) w (lv_sub hl [1, 2, 0] rfl)
          exact lp_73 (ks + 1) 0 _ _ _ (by omega) (by omega) w (lv_sub hl [1, 2, 0] rfl)
      · refine lv_aload_n hx hbc dX8_padKey_13 rfl (lv_at hl 0 rfl) ?_
        refine wb_gr (t := 16) hx hbc hg hown w inG_X8 0 (by decide) rfl rfl 21 (by decide) rfl wk_688 dX8_padKey_14 ?_
        refine lv_bipush (v := nI (64)) hx hbc dX8_padKey_17 (by decide) ?_
        refine lv_iload_n hx hbc dX8_padKey_19 rfl (lv_at hl 1 rfl) ?_
        refine n_imul hx hbc dX8_padKey_20 ?_
        refine lv_iload_n hx hbc dX8_padKey_21 rfl (lv_at hl 2 rfl) ?_
        refine n_iadd hx hbc dX8_padKey_22 ?_
        refine lv_aload_n hx hbc dX8_padKey_23 rfl (lv_at hl 0 rfl) ?_
        refine wb_gi (v := nI (ks)) hx hbc hg hown w inG_X8 0 (by decide) rfl rfl 14 (by decide) rfl wk_681 hks dX8_padKey_24 ?_
        refine lv_bipush (v := nI (64)) hx hbc dX8_padKey_27 (by decide) ?_
        refine n_cmp_gt (tgt := 49) (by omega) (by omega) hx hbc dX8_padKey_29 (by decide) (fun c_29 => ?_) (fun c_29 => ?_)
        · refine lv_iconst (v := nI (0)) hx hbc dX8_padKey_49 (by decide) ?_
          refine wb_iast (k := (64 * pl) + k) (f := pts (S.2.1 16) (64 * pl) (kpd (S.2.1 11) ks) k) hx hbc w 16 (by decide) rfl 0 rfl rfl (by omega) (by decide) rfl rfl dX8_padKey_50 (fun H locs w => ?_)
          refine lv_iinc (v := nI (k + 1)) (lv' := [(2, .int (nI (k + 1))), (0, .ref (ad (0))), (1, .int (nI (pl)))]) hx hbc dX8_padKey_51 hl (k := 2) rfl (ni_inc _ _) (by decide) rfl (fun ls hl => ?_)
          refine lv_goto (tgt := 7) hx hbc dX8_padKey_54 (by decide) ?_
          exact ih_7 (k + 1) _ _ _ (by omega) (by omega) (WB_cast w (by rw [sB_sB]; simp only [pts]; first | rw [kpd, if_pos (by omega)] | rw [kpd, if_neg (by omega)])) (lv_sub hl [1, 2, 0] rfl)
        · refine lv_iload_n hx hbc dX8_padKey_32 rfl (lv_at hl 2 rfl) ?_
          refine lv_aload_n hx hbc dX8_padKey_33 rfl (lv_at hl 0 rfl) ?_
          refine wb_gi (v := nI (ks)) hx hbc hg hown w inG_X8 0 (by decide) rfl rfl 14 (by decide) rfl wk_681 hks dX8_padKey_34 ?_
          refine n_cmp_ge (tgt := 49) (by omega) (by omega) hx hbc dX8_padKey_37 (by decide) (fun c_37 => ?_) (fun c_37 => ?_)
          · refine lv_iconst (v := nI (0)) hx hbc dX8_padKey_49 (by decide) ?_
            refine wb_iast (k := (64 * pl) + k) (f := pts (S.2.1 16) (64 * pl) (kpd (S.2.1 11) ks) k) hx hbc w 16 (by decide) rfl 0 rfl rfl (by omega) (by decide) rfl rfl dX8_padKey_50 (fun H locs w => ?_)
            refine lv_iinc (v := nI (k + 1)) (lv' := [(2, .int (nI (k + 1))), (0, .ref (ad (0))), (1, .int (nI (pl)))]) hx hbc dX8_padKey_51 hl (k := 2) rfl (ni_inc _ _) (by decide) rfl (fun ls hl => ?_)
            refine lv_goto (tgt := 7) hx hbc dX8_padKey_54 (by decide) ?_
            exact ih_7 (k + 1) _ _ _ (by omega) (by omega) (WB_cast w (by rw [sB_sB]; simp only [pts]; first | rw [kpd, if_pos (by omega)] | rw [kpd, if_neg (by omega)])) (lv_sub hl [1, 2, 0] rfl)
          · refine lv_aload_n hx hbc dX8_padKey_40 rfl (lv_at hl 0 rfl) ?_
            refine wb_gr (t := 11) hx hbc hg hown w inG_X8 0 (by decide) rfl rfl 15 (by decide) rfl wk_682 dX8_padKey_41 ?_
            refine lv_iload_n hx hbc dX8_padKey_44 rfl (lv_at hl 2 rfl) ?_
            refine wb_iald (k := k) (v := (S.2.1 11) k) hx hbc w 11 (by decide) rfl 0 rfl rfl (by omega) (by decide) rfl dX8_padKey_45 ?_
            refine lv_goto (tgt := 50) hx hbc dX8_padKey_46 (by decide) ?_
            refine wb_iast (k := (64 * pl) + k) (f := pts (S.2.1 16) (64 * pl) (kpd (S.2.1 11) ks) k) hx hbc w 16 (by decide) rfl 0 rfl rfl (by omega) (by decide) rfl rfl dX8_padKey_50 (fun H locs w => ?_)
            refine lv_iinc (v := nI (k + 1)) (lv' := [(2, .int (nI (k + 1))), (0, .ref (ad (0))), (1, .int (nI (pl)))]) hx hbc dX8_padKey_51 hl (k := 2) rfl (ni_inc _ _) (by decide) rfl (fun ls hl => ?_)
            refine lv_goto (tgt := 7) hx hbc dX8_padKey_54 (by decide) ?_
            exact ih_7 (k + 1) _ _ _ (by omega) (by omega) (WB_cast w (by rw [sB_sB]; simp only [pts]; first | rw [kpd, if_pos (by omega)] | rw [kpd, if_neg (by omega)])) (lv_sub hl [1, 2, 0] rfl)
  exact lp_7 65 0 _ _ _ (by omega) (by omega) (WB_cast w (sB_beg _ _ _ rfl)) (lv_sub hl [1, 2, 0] rfl)
def md0t (S : wS) (d t : Nat) : wS := kst (wrk (sI S 0 11 (nI (0))) (nI (0)) (cps (S.2.1 7) (S.2.1 10) t) t 0) (nI (0)) d (0 + padL t / 64)
set_option maxHeartbeats 4000000 in
set_option maxRecDepth 100000 in
theorem k_X8_made0t (l : Launch) (D : va_G) (cy : Nat → ClassId) (ad : Nat → Nat) (S : wS) (d : Nat) (hd : S.1 0 16 = nI d) (hd2 : d < 60) (t : Nat) (ht : S.1 0 12 = nI t) (ht2 : t ≤ 200) : CtI l yX8_made (Cond.code yX8_made cX8_made 6 (some .int) :: wsG) 3 77 [.ref (ad (0)), .int (nI (0)), .int ((-1))] D (tyM cy) 31 cy ad skM E0 (S) (fun r S' => r = nI d ∧ S' = md0t S d t) := by
  refine CtI_of (by decide) (Nat.le_of_ble_eq_true rfl) ?_
  intro p e s m args below meth c A ls R Q hB hRf hRl hend
  obtain ⟨hx, hbc, hr, hg, hown, hml, hlk, w, hE, hl⟩ := hB
  have hl : lv_has ls 6 [(0, .ref (ad (0))), (1, .int (nI (0))), (2, .int ((-1)))] := hl
  refine lv_iload_n hx hbc dX8_made_0 rfl (lv_at hl 2 rfl) ?_
  refine lv_iconst (v := nI (1)) hx hbc dX8_made_1 (by decide) ?_
  refine lv_iadd hx hbc dX8_made_2 ?_
  refine lv_ri (y := nI (0)) (by decide) ?_
  refine lv_istore_n (lv' := [(3, .int (nI (0))), (0, .ref (ad (0))), (1, .int (nI (0))), (2, .int ((-1)))]) hx hbc dX8_made_3 rfl hl (by decide) rfl (fun ls hl => ?_)
  refine lv_iload_n hx hbc dX8_made_4 rfl (lv_at hl 3 rfl) ?_
  refine lv_if_ge (tgt := 15) hx hbc dX8_made_5 (by decide) (fun c_5 => ?_) (fun c_5 => ?_)
  · exact absurd c_5 (by decide)
  · refine lv_aload_n hx hbc dX8_made_8 rfl (lv_at hl 1 rfl) ?_
    refine wb_gi (v := nI (t)) hx hbc hg hown w inG_X8 0 (by decide) rfl rfl 12 (by decide) rfl wk_679 ht dX8_made_9 ?_
    refine lv_goto (tgt := 21) hx hbc dX8_made_12 (by decide) ?_
    refine lv_istore (lv' := [(4, .int (nI (t))), (3, .int (nI (0))), (0, .ref (ad (0))), (1, .int (nI (0))), (2, .int ((-1)))]) hx hbc dX8_made_21 hl (by decide) rfl (fun ls hl => ?_)
    refine lv_aload_n hx hbc dX8_made_23 rfl (lv_at hl 2 rfl) ?_
    refine lv_iload_n hx hbc dX8_made_24 rfl (lv_at hl 3 rfl) ?_
    refine lv_iconst (v := nI (2)) hx hbc dX8_made_25 (by decide) ?_
    refine n_cmp_ne (tgt := 38) (by omega) (by omega) hx hbc dX8_made_26 (by decide) (fun c_26 => ?_) (fun c_26 => ?_)
    · refine lv_iconst (v := nI (0)) hx hbc dX8_made_38 (by decide) ?_
      refine wb_pi (v := nI (0)) hx hbc hg hown w inG_X8 tyX8 tyX8_ok nmX8 0 (by decide) rfl rfl 11 (by decide) rfl wk_678 rfl rfl rfl rfl dX8_made_39 (fun H locs w => ?_)
      refine lv_aload_n hx hbc dX8_made_42 rfl (lv_at hl 2 rfl) ?_
      refine lv_iconst (v := nI (0)) hx hbc dX8_made_43 (by decide) ?_
      refine wb_pi (v := nI (0)) hx hbc hg hown w inG_X8 tyX8 tyX8_ok nmX8 0 (by decide) rfl rfl 8 (by decide) rfl wk_675 rfl rfl rfl rfl dX8_made_44 (fun H locs w => ?_)
      have w : WB D (tyM cy) 31 cy ad skM A s (pst (sI S 0 11 (nI (0))) (S.2.1 7) 0) H locs := WB_cast w (pst_0 _)
      refine lv_iconst (v := nI (0)) hx hbc dX8_made_47 (by decide) ?_
      refine lv_istore (lv' := [(5, .int (nI (0))), (4, .int (nI (t))), (3, .int (nI (0))), (0, .ref (ad (0))), (1, .int (nI (0))), (2, .int ((-1)))]) hx hbc dX8_made_48 hl (by decide) rfl (fun ls hl => ?_)
      refine lv_iload_n hx hbc dX8_made_50 rfl (lv_at hl 4 rfl) ?_
      refine lv_iconst (v := nI (2)) hx hbc dX8_made_51 (by decide) ?_
      refine n_cmp_ne (tgt := 87) (by omega) (by omega) hx hbc dX8_made_52 (by decide) (fun c_52 => ?_) (fun c_52 => ?_)
      · refine lv_iconst (v := nI (0)) hx hbc dX8_made_87 (by decide) ?_
        refine lv_istore (lv' := [(5, .int (nI (0))), (4, .int (nI (t))), (3, .int (nI (0))), (0, .ref (ad (0))), (1, .int (nI (0))), (2, .int ((-1)))]) hx hbc dX8_made_88 hl (by decide) rfl (fun ls hl => ?_)
        have lp_90 : ∀ (fu : Nat) (k : Nat) (H : Heap) (locs : List Loc) (ls : Array Slot), (t < k + fu) → (k ≤ t) → WB D (tyM cy) 31 cy ad skM A s (pst (sI S 0 11 (nI (0))) (cps (S.2.1 7) (S.2.1 10) k) k) H locs → lv_has ls 6 [(0, .ref (ad (0))), (1, .int (nI (0))), (2, .int ((-1))), (3, .int (nI (0))), (4, .int (nI (t))), (5, .int (nI (k)))] → W p l e R s m args below meth c H locs 0 0 Q (F0 m 90 ls []) := by
          intro fu
          induction fu with
          | zero =>
            intro k H locs ls h1 h2 w hl
            exact absurd h1 (by omega)
          | succ fu ih_90 =>
            intro k H locs ls h1 h2 w hl
            refine lv_iload hx hbc dX8_made_90 (lv_at hl 5 rfl) ?_
            refine lv_iload hx hbc dX8_made_92 (lv_at hl 4 rfl) ?_
            refine n_cmp_ge (tgt := 134) (by omega) (by omega) hx hbc dX8_made_94 (by decide) (fun c_94 => ?_) (fun c_94 => ?_)
            · obtain rfl : t = k := by omega
              refine lv_aload_n hx hbc dX8_made_134 rfl (lv_at hl 0 rfl) ?_
              refine lv_iload_n hx hbc dX8_made_135 rfl (lv_at hl 1 rfl) ?_
              refine lv_iconst (v := nI (1)) hx hbc dX8_made_136 (by decide) ?_
              refine n_cmp_ne (tgt := 144) (by omega) (by omega) hx hbc dX8_made_137 (by decide) (fun c_137 => ?_) (fun c_137 => ?_)
              · refine lv_iconst (v := nI (0)) hx hbc dX8_made_144 (by decide) ?_
                refine wb_Vv (na := 1) (As := [.int (nI (0))]) (rest := []) hx hbc hml hg hown w E0_ok trivial w.1 Sub.self 0 (by decide) rfl rfl (k_X8_work l D cy ad (sI S 0 11 (nI (0))) (cps (S.2.1 7) (S.2.1 10) t) (nI (0)) t 0 (by omega) rfl) wk_820 wk_9 wk_817 wk_819 ws_15 ⟨by decide, by decide, by decide⟩ ⟨by rw [hRf]; decide, by rw [hRl]; decide⟩ rfl hl.1 rfl (Nat.le_of_ble_eq_true rfl) dX8_made_145 ⟨Nat.zero_le _, Nat.zero_le _⟩ (fun S9 H locs hp w => ?_)
                subst hp
                have w : WB D (tyM cy) 31 cy ad skM A s (wrk (sI S 0 11 (nI (0))) (nI (0)) (cps (S.2.1 7) (S.2.1 10) t) t 0) H locs := w
                refine lv_iload_n hx hbc dX8_made_148 rfl (lv_at hl 1 rfl) ?_
                refine lv_iconst (v := nI (2)) hx hbc dX8_made_149 (by decide) ?_
                refine n_cmp_ne (tgt := 267) (by omega) (by omega) hx hbc dX8_made_150 (by decide) (fun c_150 => ?_) (fun c_150 => ?_)
                · refine lv_aload_n hx hbc dX8_made_267 rfl (lv_at hl 0 rfl) ?_
                  refine lv_iload_n hx hbc dX8_made_268 rfl (lv_at hl 1 rfl) ?_
                  refine wb_Vi (na := 1) (As := [.int (nI (0))]) (rest := []) hx hbc hml hg hown w E0_ok trivial w.1 Sub.self 0 (by decide) rfl rfl (k_X8_keepDigest l D cy ad (wrk (sI S 0 11 (nI (0))) (nI (0)) (cps (S.2.1 7) (S.2.1 10) t) t 0) (nI (0)) d (0 + padL t / 64) hd (by omega) rfl) wk_840 wk_9 wk_837 wk_839 ws_19 ⟨by decide, by decide, by decide⟩ ⟨by rw [hRf]; decide, by rw [hRl]; decide⟩ rfl hl.1 rfl (Nat.le_of_ble_eq_true rfl) dX8_made_269 ⟨Nat.zero_le _, Nat.zero_le _⟩ (fun r S9 H locs hp w => ?_)
                  obtain ⟨hp, rfl⟩ := hp
                  subst hp
                  have w : WB D (tyM cy) 31 cy ad skM A s (kst (wrk (sI S 0 11 (nI (0))) (nI (0)) (cps (S.2.1 7) (S.2.1 10) t) t 0) (nI (0)) d (0 + padL t / 64)) H locs := w
                  exact hend _ _ _ _ _ _ ⟨rfl, rfl⟩ rfl w dX8_made_272
                · exact absurd c_150 (by decide)
              · exact absurd c_137 (by decide)
            · refine lv_aload_n hx hbc dX8_made_97 rfl (lv_at hl 0 rfl) ?_
              refine lv_iload_n hx hbc dX8_made_98 rfl (lv_at hl 2 rfl) ?_
              refine lv_if_ge (tgt := 112) hx hbc dX8_made_99 (by decide) (fun c_99 => ?_) (fun c_99 => ?_)
              · exact absurd c_99 (by decide)
              · refine lv_aload_n hx hbc dX8_made_102 rfl (lv_at hl 0 rfl) ?_
                refine wb_gr (t := 10) hx hbc hg hown w inG_X8 0 (by decide) rfl rfl 13 (by decide) rfl wk_680 dX8_made_103 ?_
                refine lv_iload hx hbc dX8_made_106 (lv_at hl 5 rfl) ?_
                refine wb_iald (k := k) (v := (S.2.1 10) k) hx hbc w 10 (by decide) rfl 0 rfl rfl (by omega) (by decide) rfl dX8_made_108 ?_
                refine lv_goto (tgt := 125) hx hbc dX8_made_109 (by decide) ?_
                refine wb_Vv (na := 1) (As := [.int ((S.2.1 10) k)]) (rest := []) hx hbc hml hg hown w E0_ok trivial w.1 Sub.self 0 (by decide) rfl rfl (k_X8_put l D cy ad (pst (sI S 0 11 (nI (0))) (cps (S.2.1 7) (S.2.1 10) k) k) ((S.2.1 10) k) k rfl (by omega)) wk_816 wk_9 wk_813 wk_815 ws_14 ⟨by decide, by decide, by decide⟩ ⟨by rw [hRf]; decide, by rw [hRl]; decide⟩ rfl hl.1 rfl (Nat.le_of_ble_eq_true rfl) dX8_made_125 ⟨Nat.zero_le _, Nat.zero_le _⟩ (fun S9 H locs hp w => ?_)
                subst hp
                have w := WB_cast w (pst_pst _ _ _ _ _)
                have w : WB D (tyM cy) 31 cy ad skM A s (pst (sI S 0 11 (nI (0))) (upd (cps (S.2.1 7) (S.2.1 10) k) k ((S.2.1 10) k)) (k + 1)) H locs := w
                refine lv_iinc (v := nI (k + 1)) (lv' := [(5, .int (nI (k + 1))), (0, .ref (ad (0))), (1, .int (nI (0))), (2, .int ((-1))), (3, .int (nI (0))), (4, .int (nI (t)))]) hx hbc dX8_made_128 hl (k := 5) rfl (ni_inc _ _) (by decide) rfl (fun ls hl => ?_)
                refine lv_goto (tgt := 90) hx hbc dX8_made_131 (by decide) ?_
                exact ih_90 (k + 1) _ _ _ (by omega) (by omega) w (lv_sub hl [1, 2, 3, 4, 5, 0] rfl)
        exact lp_90 (t + 1) 0 _ _ _ (by omega) (by omega) w (lv_sub hl [3, 4, 5, 2, 1, 0] rfl)
      · exact absurd c_52 (by decide)
    · exact absurd c_26 (by decide)
def md0s (S : wS) (d j n : Nat) : wS := kst (wrk (sI S 0 11 (nI (0))) (nI (0)) (cps (S.2.1 7) ((fun i => S.2.1 18 (2000 * j + i))) n) n 0) (nI (0)) d (0 + padL n / 64)
set_option maxHeartbeats 4000000 in
set_option maxRecDepth 100000 in
theorem k_X8_made0s (l : Launch) (D : va_G) (cy : Nat → ClassId) (ad : Nat → Nat) (S : wS) (d : Nat) (hd : S.1 0 16 = nI d) (hd2 : d < 60) (j n : Nat) (hj : j < 4) (hn : S.2.1 19 j = nI n) (hn2 : n ≤ 2000) : CtI l yX8_made (Cond.code yX8_made cX8_made 6 (some .int) :: wsG) 3 77 [.ref (ad (0)), .int (nI (0)), .int (nI (j))] D (tyM cy) 31 cy ad skM E0 (S) (fun r S' => r = nI d ∧ S' = md0s S d j n) := by
  refine CtI_of (by decide) (Nat.le_of_ble_eq_true rfl) ?_
  intro p e s m args below meth c A ls R Q hB hRf hRl hend
  obtain ⟨hx, hbc, hr, hg, hown, hml, hlk, w, hE, hl⟩ := hB
  have hl : lv_has ls 6 [(0, .ref (ad (0))), (1, .int (nI (0))), (2, .int (nI (j)))] := hl
  refine lv_iload_n hx hbc dX8_made_0 rfl (lv_at hl 2 rfl) ?_
  refine lv_iconst (v := nI (1)) hx hbc dX8_made_1 (by decide) ?_
  refine n_iadd hx hbc dX8_made_2 ?_
  refine lv_istore_n (lv' := [(3, .int (nI (j + 1))), (0, .ref (ad (0))), (1, .int (nI (0))), (2, .int (nI (j)))]) hx hbc dX8_made_3 rfl hl (by decide) rfl (fun ls hl => ?_)
  refine lv_iload_n hx hbc dX8_made_4 rfl (lv_at hl 3 rfl) ?_
  refine lv_if_ge (tgt := 15) hx hbc dX8_made_5 (by decide) (fun c_5 => ?_) (fun c_5 => ?_)
  · refine lv_aload_n hx hbc dX8_made_15 rfl (lv_at hl 1 rfl) ?_
    refine wb_gr (t := 19) hx hbc hg hown w inG_X8 0 (by decide) rfl rfl 24 (by decide) rfl wk_691 dX8_made_16 ?_
    refine lv_iload_n hx hbc dX8_made_19 rfl (lv_at hl 3 rfl) ?_
    refine wb_iald (k := j) (v := nI (n)) hx hbc w 19 (by decide) rfl 0 rfl rfl (by omega) (by decide) hn dX8_made_20 ?_
    refine lv_istore (lv' := [(4, .int (nI (n))), (3, .int (nI (j + 1))), (0, .ref (ad (0))), (1, .int (nI (0))), (2, .int (nI (j)))]) hx hbc dX8_made_21 hl (by decide) rfl (fun ls hl => ?_)
    refine lv_aload_n hx hbc dX8_made_23 rfl (lv_at hl 2 rfl) ?_
    refine lv_iload_n hx hbc dX8_made_24 rfl (lv_at hl 3 rfl) ?_
    refine lv_iconst (v := nI (2)) hx hbc dX8_made_25 (by decide) ?_
    refine n_cmp_ne (tgt := 38) (by omega) (by omega) hx hbc dX8_made_26 (by decide) (fun c_26 => ?_) (fun c_26 => ?_)
    · refine lv_iconst (v := nI (0)) hx hbc dX8_made_38 (by decide) ?_
      refine wb_pi (v := nI (0)) hx hbc hg hown w inG_X8 tyX8 tyX8_ok nmX8 0 (by decide) rfl rfl 11 (by decide) rfl wk_678 rfl rfl rfl rfl dX8_made_39 (fun H locs w => ?_)
      refine lv_aload_n hx hbc dX8_made_42 rfl (lv_at hl 2 rfl) ?_
      refine lv_iconst (v := nI (0)) hx hbc dX8_made_43 (by decide) ?_
      refine wb_pi (v := nI (0)) hx hbc hg hown w inG_X8 tyX8 tyX8_ok nmX8 0 (by decide) rfl rfl 8 (by decide) rfl wk_675 rfl rfl rfl rfl dX8_made_44 (fun H locs w => ?_)
      have w : WB D (tyM cy) 31 cy ad skM A s (pst (sI S 0 11 (nI (0))) (S.2.1 7) 0) H locs := WB_cast w (pst_0 _)
      refine lv_iconst (v := nI (0)) hx hbc dX8_made_47 (by decide) ?_
      refine lv_istore (lv' := [(5, .int (nI (0))), (4, .int (nI (n))), (3, .int (nI (j + 1))), (0, .ref (ad (0))), (1, .int (nI (0))), (2, .int (nI (j)))]) hx hbc dX8_made_48 hl (by decide) rfl (fun ls hl => ?_)
      refine lv_iload_n hx hbc dX8_made_50 rfl (lv_at hl 4 rfl) ?_
      refine lv_iconst (v := nI (2)) hx hbc dX8_made_51 (by decide) ?_
      refine n_cmp_ne (tgt := 87) (by omega) (by omega) hx hbc dX8_made_52 (by decide) (fun c_52 => ?_) (fun c_52 => ?_)
      · refine lv_iconst (v := nI (0)) hx hbc dX8_made_87 (by decide) ?_
        refine lv_istore (lv' := [(5, .int (nI (0))), (4, .int (nI (n))), (3, .int (nI (j + 1))), (0, .ref (ad (0))), (1, .int (nI (0))), (2, .int (nI (j)))]) hx hbc dX8_made_88 hl (by decide) rfl (fun ls hl => ?_)
        have lp_90 : ∀ (fu : Nat) (k : Nat) (H : Heap) (locs : List Loc) (ls : Array Slot), (n < k + fu) → (k ≤ n) → WB D (tyM cy) 31 cy ad skM A s (pst (sI S 0 11 (nI (0))) (cps (S.2.1 7) ((fun i => S.2.1 18 (2000 * j + i))) k) k) H locs → lv_has ls 6 [(0, .ref (ad (0))), (1, .int (nI (0))), (2, .int (nI (j))), (3, .int (nI (j + 1))), (4, .int (nI (n))), (5, .int (nI (k)))] → W p l e R s m args below meth c H locs 0 0 Q (F0 m 90 ls []) := by
          intro fu
          induction fu with
          | zero =>
            intro k H locs ls h1 h2 w hl
            exact absurd h1 (by omega)
          | succ fu ih_90 =>
            intro k H locs ls h1 h2 w hl
            refine lv_iload hx hbc dX8_made_90 (lv_at hl 5 rfl) ?_
            refine lv_iload hx hbc dX8_made_92 (lv_at hl 4 rfl) ?_
            refine n_cmp_ge (tgt := 134) (by omega) (by omega) hx hbc dX8_made_94 (by decide) (fun c_94 => ?_) (fun c_94 => ?_)
            · obtain rfl : n = k := by omega
              refine lv_aload_n hx hbc dX8_made_134 rfl (lv_at hl 0 rfl) ?_
              refine lv_iload_n hx hbc dX8_made_135 rfl (lv_at hl 1 rfl) ?_
              refine lv_iconst (v := nI (1)) hx hbc dX8_made_136 (by decide) ?_
              refine n_cmp_ne (tgt := 144) (by omega) (by omega) hx hbc dX8_made_137 (by decide) (fun c_137 => ?_) (fun c_137 => ?_)
              · refine lv_iconst (v := nI (0)) hx hbc dX8_made_144 (by decide) ?_
                refine wb_Vv (na := 1) (As := [.int (nI (0))]) (rest := []) hx hbc hml hg hown w E0_ok trivial w.1 Sub.self 0 (by decide) rfl rfl (k_X8_work l D cy ad (sI S 0 11 (nI (0))) (cps (S.2.1 7) ((fun i => S.2.1 18 (2000 * j + i))) n) (nI (0)) n 0 (by omega) rfl) wk_820 wk_9 wk_817 wk_819 ws_15 ⟨by decide, by decide, by decide⟩ ⟨by rw [hRf]; decide, by rw [hRl]; decide⟩ rfl hl.1 rfl (Nat.le_of_ble_eq_true rfl) dX8_made_145 ⟨Nat.zero_le _, Nat.zero_le _⟩ (fun S9 H locs hp w => ?_)
                subst hp
                have w : WB D (tyM cy) 31 cy ad skM A s (wrk (sI S 0 11 (nI (0))) (nI (0)) (cps (S.2.1 7) ((fun i => S.2.1 18 (2000 * j + i))) n) n 0) H locs := w
                refine lv_iload_n hx hbc dX8_made_148 rfl (lv_at hl 1 rfl) ?_
                refine lv_iconst (v := nI (2)) hx hbc dX8_made_149 (by decide) ?_
                refine n_cmp_ne (tgt := 267) (by omega) (by omega) hx hbc dX8_made_150 (by decide) (fun c_150 => ?_) (fun c_150 => ?_)
                · refine lv_aload_n hx hbc dX8_made_267 rfl (lv_at hl 0 rfl) ?_
                  refine lv_iload_n hx hbc dX8_made_268 rfl (lv_at hl 1 rfl) ?_
                  refine wb_Vi (na := 1) (As := [.int (nI (0))]) (rest := []) hx hbc hml hg hown w E0_ok trivial w.1 Sub.self 0 (by decide) rfl rfl (k_X8_keepDigest l D cy ad (wrk (sI S 0 11 (nI (0))) (nI (0)) (cps (S.2.1 7) ((fun i => S.2.1 18 (2000 * j + i))) n) n 0) (nI (0)) d (0 + padL n / 64) hd (by omega) rfl) wk_840 wk_9 wk_837 wk_839 ws_19 ⟨by decide, by decide, by decide⟩ ⟨by rw [hRf]; decide, by rw [hRl]; decide⟩ rfl hl.1 rfl (Nat.le_of_ble_eq_true rfl) dX8_made_269 ⟨Nat.zero_le _, Nat.zero_le _⟩ (fun r S9 H locs hp w => ?_)
                  obtain ⟨hp, rfl⟩ := hp
                  subst hp
                  have w : WB D (tyM cy) 31 cy ad skM A s (kst (wrk (sI S 0 11 (nI (0))) (nI (0)) (cps (S.2.1 7) ((fun i => S.2.1 18 (2000 * j + i))) n) n 0) (nI (0)) d (0 + padL n / 64)) H locs := w
                  exact hend _ _ _ _ _ _ ⟨rfl, rfl⟩ rfl w dX8_made_272
                · exact absurd c_150 (by decide)
              · exact absurd c_137 (by decide)
            · refine lv_aload_n hx hbc dX8_made_97 rfl (lv_at hl 0 rfl) ?_
              refine lv_iload_n hx hbc dX8_made_98 rfl (lv_at hl 2 rfl) ?_
              refine lv_if_ge (tgt := 112) hx hbc dX8_made_99 (by decide) (fun c_99 => ?_) (fun c_99 => ?_)
              · refine lv_aload_n hx hbc dX8_made_112 rfl (lv_at hl 0 rfl) ?_
                refine wb_gr (t := 18) hx hbc hg hown w inG_X8 0 (by decide) rfl rfl 23 (by decide) rfl wk_690 dX8_made_113 ?_
                refine lv_sipush (v := nI (2000)) hx hbc dX8_made_116 (by decide) ?_
                refine lv_iload_n hx hbc dX8_made_119 rfl (lv_at hl 2 rfl) ?_
                refine n_imul hx hbc dX8_made_120 ?_
                refine lv_iload hx hbc dX8_made_121 (lv_at hl 5 rfl) ?_
                refine n_iadd hx hbc dX8_made_123 ?_
                refine wb_iald (k := (2000 * j) + k) (v := (S.2.1 18) ((2000 * j) + k)) hx hbc w 18 (by decide) rfl 0 rfl rfl (by omega) (by decide) rfl dX8_made_124 ?_
                refine wb_Vv (na := 1) (As := [.int ((S.2.1 18) ((2000 * j) + k))]) (rest := []) hx hbc hml hg hown w E0_ok trivial w.1 Sub.self 0 (by decide) rfl rfl (k_X8_put l D cy ad (pst (sI S 0 11 (nI (0))) (cps (S.2.1 7) ((fun i => S.2.1 18 (2000 * j + i))) k) k) ((S.2.1 18) ((2000 * j) + k)) k rfl (by omega)) wk_816 wk_9 wk_813 wk_815 ws_14 ⟨by decide, by decide, by decide⟩ ⟨by rw [hRf]; decide, by rw [hRl]; decide⟩ rfl hl.1 rfl (Nat.le_of_ble_eq_true rfl) dX8_made_125 ⟨Nat.zero_le _, Nat.zero_le _⟩ (fun S9 H locs hp w => ?_)
                subst hp
                have w := WB_cast w (pst_pst _ _ _ _ _)
                have w : WB D (tyM cy) 31 cy ad skM A s (pst (sI S 0 11 (nI (0))) (upd (cps (S.2.1 7) ((fun i => S.2.1 18 (2000 * j + i))) k) k ((S.2.1 18) ((2000 * j) + k))) (k + 1)) H locs := w
                refine lv_iinc (v := nI (k + 1)) (lv' := [(5, .int (nI (k + 1))), (0, .ref (ad (0))), (1, .int (nI (0))), (2, .int (nI (j))), (3, .int (nI (j + 1))), (4, .int (nI (n)))]) hx hbc dX8_made_128 hl (k := 5) rfl (ni_inc _ _) (by decide) rfl (fun ls hl => ?_)
                refine lv_goto (tgt := 90) hx hbc dX8_made_131 (by decide) ?_
                exact ih_90 (k + 1) _ _ _ (by omega) (by omega) w (lv_sub hl [1, 2, 3, 4, 5, 0] rfl)
              · exact absurd (nI_pos' (by omega)) c_99
        exact lp_90 (n + 1) 0 _ _ _ (by omega) (by omega) w (lv_sub hl [3, 4, 5, 2, 1, 0] rfl)
      · exact absurd c_52 (by decide)
    · exact absurd c_26 (by decide)
  · exact absurd (nI_pos' (by omega)) c_5
def md1t (S : wS) (d t : Nat) : wS := kst (wrk (sI S 0 11 (nI (0))) (nI (1)) (cps (S.2.1 7) (S.2.1 10) t) t 0) (nI (1)) d (0 + padL t / 64)
set_option maxHeartbeats 4000000 in
set_option maxRecDepth 100000 in
theorem k_X8_made1t (l : Launch) (D : va_G) (cy : Nat → ClassId) (ad : Nat → Nat) (S : wS) (d : Nat) (hd : S.1 0 16 = nI d) (hd2 : d < 60) (t : Nat) (ht : S.1 0 12 = nI t) (ht2 : t ≤ 200) : CtI l yX8_made (Cond.code yX8_made cX8_made 6 (some .int) :: wsG) 3 77 [.ref (ad (0)), .int (nI (1)), .int ((-1))] D (tyM cy) 31 cy ad skM E0 (S) (fun r S' => r = nI d ∧ S' = md1t S d t) := by
  refine CtI_of (by decide) (Nat.le_of_ble_eq_true rfl) ?_
  intro p e s m args below meth c A ls R Q hB hRf hRl hend
  obtain ⟨hx, hbc, hr, hg, hown, hml, hlk, w, hE, hl⟩ := hB
  have hl : lv_has ls 6 [(0, .ref (ad (0))), (1, .int (nI (1))), (2, .int ((-1)))] := hl
  refine lv_iload_n hx hbc dX8_made_0 rfl (lv_at hl 2 rfl) ?_
  refine lv_iconst (v := nI (1)) hx hbc dX8_made_1 (by decide) ?_
  refine lv_iadd hx hbc dX8_made_2 ?_
  refine lv_ri (y := nI (0)) (by decide) ?_
  refine lv_istore_n (lv' := [(3, .int (nI (0))), (0, .ref (ad (0))), (1, .int (nI (1))), (2, .int ((-1)))]) hx hbc dX8_made_3 rfl hl (by decide) rfl (fun ls hl => ?_)
  refine lv_iload_n hx hbc dX8_made_4 rfl (lv_at hl 3 rfl) ?_
  refine lv_if_ge (tgt := 15) hx hbc dX8_made_5 (by decide) (fun c_5 => ?_) (fun c_5 => ?_)
  · exact absurd c_5 (by decide)
  · refine lv_aload_n hx hbc dX8_made_8 rfl (lv_at hl 1 rfl) ?_
    refine wb_gi (v := nI (t)) hx hbc hg hown w inG_X8 0 (by decide) rfl rfl 12 (by decide) rfl wk_679 ht dX8_made_9 ?_
    refine lv_goto (tgt := 21) hx hbc dX8_made_12 (by decide) ?_
    refine lv_istore (lv' := [(4, .int (nI (t))), (3, .int (nI (0))), (0, .ref (ad (0))), (1, .int (nI (1))), (2, .int ((-1)))]) hx hbc dX8_made_21 hl (by decide) rfl (fun ls hl => ?_)
    refine lv_aload_n hx hbc dX8_made_23 rfl (lv_at hl 2 rfl) ?_
    refine lv_iload_n hx hbc dX8_made_24 rfl (lv_at hl 3 rfl) ?_
    refine lv_iconst (v := nI (2)) hx hbc dX8_made_25 (by decide) ?_
    refine n_cmp_ne (tgt := 38) (by omega) (by omega) hx hbc dX8_made_26 (by decide) (fun c_26 => ?_) (fun c_26 => ?_)
    · refine lv_iconst (v := nI (0)) hx hbc dX8_made_38 (by decide) ?_
      refine wb_pi (v := nI (0)) hx hbc hg hown w inG_X8 tyX8 tyX8_ok nmX8 0 (by decide) rfl rfl 11 (by decide) rfl wk_678 rfl rfl rfl rfl dX8_made_39 (fun H locs w => ?_)
      refine lv_aload_n hx hbc dX8_made_42 rfl (lv_at hl 2 rfl) ?_
      refine lv_iconst (v := nI (0)) hx hbc dX8_made_43 (by decide) ?_
      refine wb_pi (v := nI (0)) hx hbc hg hown w inG_X8 tyX8 tyX8_ok nmX8 0 (by decide) rfl rfl 8 (by decide) rfl wk_675 rfl rfl rfl rfl dX8_made_44 (fun H locs w => ?_)
      have w : WB D (tyM cy) 31 cy ad skM A s (pst (sI S 0 11 (nI (0))) (S.2.1 7) 0) H locs := WB_cast w (pst_0 _)
      refine lv_iconst (v := nI (0)) hx hbc dX8_made_47 (by decide) ?_
      refine lv_istore (lv' := [(5, .int (nI (0))), (4, .int (nI (t))), (3, .int (nI (0))), (0, .ref (ad (0))), (1, .int (nI (1))), (2, .int ((-1)))]) hx hbc dX8_made_48 hl (by decide) rfl (fun ls hl => ?_)
      refine lv_iload_n hx hbc dX8_made_50 rfl (lv_at hl 4 rfl) ?_
      refine lv_iconst (v := nI (2)) hx hbc dX8_made_51 (by decide) ?_
      refine n_cmp_ne (tgt := 87) (by omega) (by omega) hx hbc dX8_made_52 (by decide) (fun c_52 => ?_) (fun c_52 => ?_)
      · refine lv_iconst (v := nI (0)) hx hbc dX8_made_87 (by decide) ?_
        refine lv_istore (lv' := [(5, .int (nI (0))), (4, .int (nI (t))), (3, .int (nI (0))), (0, .ref (ad (0))), (1, .int (nI (1))), (2, .int ((-1)))]) hx hbc dX8_made_88 hl (by decide) rfl (fun ls hl => ?_)
        have lp_90 : ∀ (fu : Nat) (k : Nat) (H : Heap) (locs : List Loc) (ls : Array Slot), (t < k + fu) → (k ≤ t) → WB D (tyM cy) 31 cy ad skM A s (pst (sI S 0 11 (nI (0))) (cps (S.2.1 7) (S.2.1 10) k) k) H locs → lv_has ls 6 [(0, .ref (ad (0))), (1, .int (nI (1))), (2, .int ((-1))), (3, .int (nI (0))), (4, .int (nI (t))), (5, .int (nI (k)))] → W p l e R s m args below meth c H locs 0 0 Q (F0 m 90 ls []) := by
          intro fu
          induction fu with
          | zero =>
            intro k H locs ls h1 h2 w hl
            exact absurd h1 (by omega)
          | succ fu ih_90 =>
            intro k H locs ls h1 h2 w hl
            refine lv_iload hx hbc dX8_made_90 (lv_at hl 5 rfl) ?_
            refine lv_iload hx hbc dX8_made_92 (lv_at hl 4 rfl) ?_
            refine n_cmp_ge (tgt := 134) (by omega) (by omega) hx hbc dX8_made_94 (by decide) (fun c_94 => ?_) (fun c_94 => ?_)
            · obtain rfl : t = k := by omega
              refine lv_aload_n hx hbc dX8_made_134 rfl (lv_at hl 0 rfl) ?_
              refine lv_iload_n hx hbc dX8_made_135 rfl (lv_at hl 1 rfl) ?_
              refine lv_iconst (v := nI (1)) hx hbc dX8_made_136 (by decide) ?_
              refine n_cmp_ne (tgt := 144) (by omega) (by omega) hx hbc dX8_made_137 (by decide) (fun c_137 => ?_) (fun c_137 => ?_)
              · exact absurd c_137 (by decide)
              · refine lv_iconst (v := nI (1)) hx hbc dX8_made_140 (by decide) ?_
                refine lv_goto (tgt := 145) hx hbc dX8_made_141 (by decide) ?_
                refine wb_Vv (na := 1) (As := [.int (nI (1))]) (rest := []) hx hbc hml hg hown w E0_ok trivial w.1 Sub.self 0 (by decide) rfl rfl (k_X8_work l D cy ad (sI S 0 11 (nI (0))) (cps (S.2.1 7) (S.2.1 10) t) (nI (1)) t 0 (by omega) rfl) wk_820 wk_9 wk_817 wk_819 ws_15 ⟨by decide, by decide, by decide⟩ ⟨by rw [hRf]; decide, by rw [hRl]; decide⟩ rfl hl.1 rfl (Nat.le_of_ble_eq_true rfl) dX8_made_145 ⟨Nat.zero_le _, Nat.zero_le _⟩ (fun S9 H locs hp w => ?_)
                subst hp
                have w : WB D (tyM cy) 31 cy ad skM A s (wrk (sI S 0 11 (nI (0))) (nI (1)) (cps (S.2.1 7) (S.2.1 10) t) t 0) H locs := w
                refine lv_iload_n hx hbc dX8_made_148 rfl (lv_at hl 1 rfl) ?_
                refine lv_iconst (v := nI (2)) hx hbc dX8_made_149 (by decide) ?_
                refine n_cmp_ne (tgt := 267) (by omega) (by omega) hx hbc dX8_made_150 (by decide) (fun c_150 => ?_) (fun c_150 => ?_)
                · refine lv_aload_n hx hbc dX8_made_267 rfl (lv_at hl 0 rfl) ?_
                  refine lv_iload_n hx hbc dX8_made_268 rfl (lv_at hl 1 rfl) ?_
                  refine wb_Vi (na := 1) (As := [.int (nI (1))]) (rest := []) hx hbc hml hg hown w E0_ok trivial w.1 Sub.self 0 (by decide) rfl rfl (k_X8_keepDigest l D cy ad (wrk (sI S 0 11 (nI (0))) (nI (1)) (cps (S.2.1 7) (S.2.1 10) t) t 0) (nI (1)) d (0 + padL t / 64) hd (by omega) rfl) wk_840 wk_9 wk_837 wk_839 ws_19 ⟨by decide, by decide, by decide⟩ ⟨by rw [hRf]; decide, by rw [hRl]; decide⟩ rfl hl.1 rfl (Nat.le_of_ble_eq_true rfl) dX8_made_269 ⟨Nat.zero_le _, Nat.zero_le _⟩ (fun r S9 H locs hp w => ?_)
                  obtain ⟨hp, rfl⟩ := hp
                  subst hp
                  have w : WB D (tyM cy) 31 cy ad skM A s (kst (wrk (sI S 0 11 (nI (0))) (nI (1)) (cps (S.2.1 7) (S.2.1 10) t) t 0) (nI (1)) d (0 + padL t / 64)) H locs := w
                  exact hend _ _ _ _ _ _ ⟨rfl, rfl⟩ rfl w dX8_made_272
                · exact absurd c_150 (by decide)
            · refine lv_aload_n hx hbc dX8_made_97 rfl (lv_at hl 0 rfl) ?_
              refine lv_iload_n hx hbc dX8_made_98 rfl (lv_at hl 2 rfl) ?_
              refine lv_if_ge (tgt := 112) hx hbc dX8_made_99 (by decide) (fun c_99 => ?_) (fun c_99 => ?_)
              · exact absurd c_99 (by decide)
              · refine lv_aload_n hx hbc dX8_made_102 rfl (lv_at hl 0 rfl) ?_
                refine wb_gr (t := 10) hx hbc hg hown w inG_X8 0 (by decide) rfl rfl 13 (by decide) rfl wk_680 dX8_made_103 ?_
                refine lv_iload hx hbc dX8_made_106 (lv_at hl 5 rfl) ?_
                refine wb_iald (k := k) (v := (S.2.1 10) k) hx hbc w 10 (by decide) rfl 0 rfl rfl (by omega) (by decide) rfl dX8_made_108 ?_
                refine lv_goto (tgt := 125) hx hbc dX8_made_109 (by decide) ?_
                refine wb_Vv (na := 1) (As := [.int ((S.2.1 10) k)]) (rest := []) hx hbc hml hg hown w E0_ok trivial w.1 Sub.self 0 (by decide) rfl rfl (k_X8_put l D cy ad (pst (sI S 0 11 (nI (0))) (cps (S.2.1 7) (S.2.1 10) k) k) ((S.2.1 10) k) k rfl (by omega)) wk_816 wk_9 wk_813 wk_815 ws_14 ⟨by decide, by decide, by decide⟩ ⟨by rw [hRf]; decide, by rw [hRl]; decide⟩ rfl hl.1 rfl (Nat.le_of_ble_eq_true rfl) dX8_made_125 ⟨Nat.zero_le _, Nat.zero_le _⟩ (fun S9 H locs hp w => ?_)
                subst hp
                have w := WB_cast w (pst_pst _ _ _ _ _)
                have w : WB D (tyM cy) 31 cy ad skM A s (pst (sI S 0 11 (nI (0))) (upd (cps (S.2.1 7) (S.2.1 10) k) k ((S.2.1 10) k)) (k + 1)) H locs := w
                refine lv_iinc (v := nI (k + 1)) (lv' := [(5, .int (nI (k + 1))), (0, .ref (ad (0))), (1, .int (nI (1))), (2, .int ((-1))), (3, .int (nI (0))), (4, .int (nI (t)))]) hx hbc dX8_made_128 hl (k := 5) rfl (ni_inc _ _) (by decide) rfl (fun ls hl => ?_)
                refine lv_goto (tgt := 90) hx hbc dX8_made_131 (by decide) ?_
                exact ih_90 (k + 1) _ _ _ (by omega) (by omega) w (lv_sub hl [1, 2, 3, 4, 5, 0] rfl)
        exact lp_90 (t + 1) 0 _ _ _ (by omega) (by omega) w (lv_sub hl [3, 4, 5, 2, 1, 0] rfl)
      · exact absurd c_52 (by decide)
    · exact absurd c_26 (by decide)
def md1s (S : wS) (d j n : Nat) : wS := kst (wrk (sI S 0 11 (nI (0))) (nI (1)) (cps (S.2.1 7) ((fun i => S.2.1 18 (2000 * j + i))) n) n 0) (nI (1)) d (0 + padL n / 64)
set_option maxHeartbeats 4000000 in
set_option maxRecDepth 100000 in
theorem k_X8_made1s (l : Launch) (D : va_G) (cy : Nat → ClassId) (ad : Nat → Nat) (S : wS) (d : Nat) (hd : S.1 0 16 = nI d) (hd2 : d < 60) (j n : Nat) (hj : j < 4) (hn : S.2.1 19 j = nI n) (hn2 : n ≤ 2000) : CtI l yX8_made (Cond.code yX8_made cX8_made 6 (some .int) :: wsG) 3 77 [.ref (ad (0)), .int (nI (1)), .int (nI (j))] D (tyM cy) 31 cy ad skM E0 (S) (fun r S' => r = nI d ∧ S' = md1s S d j n) := by
  refine CtI_of (by decide) (Nat.le_of_ble_eq_true rfl) ?_
  intro p e s m args below meth c A ls R Q hB hRf hRl hend
  obtain ⟨hx, hbc, hr, hg, hown, hml, hlk, w, hE, hl⟩ := hB
  have hl : lv_has ls 6 [(0, .ref (ad (0))), (1, .int (nI (1))), (2, .int (nI (j)))] := hl
  refine lv_iload_n hx hbc dX8_made_0 rfl (lv_at hl 2 rfl) ?_
  refine lv_iconst (v := nI (1)) hx hbc dX8_made_1 (by decide) ?_
  refine n_iadd hx hbc dX8_made_2 ?_
  refine lv_istore_n (lv' := [(3, .int (nI (j + 1))), (0, .ref (ad (0))), (1, .int (nI (1))), (2, .int (nI (j)))]) hx hbc dX8_made_3 rfl hl (by decide) rfl (fun ls hl => ?_)
  refine lv_iload_n hx hbc dX8_made_4 rfl (lv_at hl 3 rfl) ?_
  refine lv_if_ge (tgt := 15) hx hbc dX8_made_5 (by decide) (fun c_5 => ?_) (fun c_5 => ?_)
  · refine lv_aload_n hx hbc dX8_made_15 rfl (lv_at hl 1 rfl) ?_
    refine wb_gr (t := 19) hx hbc hg hown w inG_X8 0 (by decide) rfl rfl 24 (by decide) rfl wk_691 dX8_made_16 ?_
    refine lv_iload_n hx hbc dX8_made_19 rfl (lv_at hl 3 rfl) ?_
    refine wb_iald (k := j) (v := nI (n)) hx hbc w 19 (by decide) rfl 0 rfl rfl (by omega) (by decide) hn dX8_made_20 ?_
    refine lv_istore (lv' := [(4, .int (nI (n))), (3, .int (nI (j + 1))), (0, .ref (ad (0))), (1, .int (nI (1))), (2, .int (nI (j)))]) hx hbc dX8_made_21 hl (by decide) rfl (fun ls hl => ?_)
    refine lv_aload_n hx hbc dX8_made_23 rfl (lv_at hl 2 rfl) ?_
    refine lv_iload_n hx hbc dX8_made_24 rfl (lv_at hl 3 rfl) ?_
    refine lv_iconst (v := nI (2)) hx hbc dX8_made_25 (by decide) ?_
    refine n_cmp_ne (tgt := 38) (by omega) (by omega) hx hbc dX8_made_26 (by decide) (fun c_26 => ?_) (fun c_26 => ?_)
    · refine lv_iconst (v := nI (0)) hx hbc dX8_made_38 (by decide) ?_
      refine wb_pi (v := nI (0)) hx hbc hg hown w inG_X8 tyX8 tyX8_ok nmX8 0 (by decide) rfl rfl 11 (by decide) rfl wk_678 rfl rfl rfl rfl dX8_made_39 (fun H locs w => ?_)
      refine lv_aload_n hx hbc dX8_made_42 rfl (lv_at hl 2 rfl) ?_
      refine lv_iconst (v := nI (0)) hx hbc dX8_made_43 (by decide) ?_
      refine wb_pi (v := nI (0)) hx hbc hg hown w inG_X8 tyX8 tyX8_ok nmX8 0 (by decide) rfl rfl 8 (by decide) rfl wk_675 rfl rfl rfl rfl dX8_made_44 (fun H locs w => ?_)
      have w : WB D (tyM cy) 31 cy ad skM A s (pst (sI S 0 11 (nI (0))) (S.2.1 7) 0) H locs := WB_cast w (pst_0 _)
      refine lv_iconst (v := nI (0)) hx hbc dX8_made_47 (by decide) ?_
      refine lv_istore (lv' := [(5, .int (nI (0))), (4, .int (nI (n))), (3, .int (nI (j + 1))), (0, .ref (ad (0))), (1, .int (nI (1))), (2, .int (nI (j)))]) hx hbc dX8_made_48 hl (by decide) rfl (fun ls hl => ?_)
      refine lv_iload_n hx hbc dX8_made_50 rfl (lv_at hl 4 rfl) ?_
      refine lv_iconst (v := nI (2)) hx hbc dX8_made_51 (by decide) ?_
      refine n_cmp_ne (tgt := 87) (by omega) (by omega) hx hbc dX8_made_52 (by decide) (fun c_52 => ?_) (fun c_52 => ?_)
      · refine lv_iconst (v := nI (0)) hx hbc dX8_made_87 (by decide) ?_
        refine lv_istore (lv' := [(5, .int (nI (0))), (4, .int (nI (n))), (3, .int (nI (j + 1))), (0, .ref (ad (0))), (1, .int (nI (1))), (2, .int (nI (j)))]) hx hbc dX8_made_88 hl (by decide) rfl (fun ls hl => ?_)
        have lp_90 : ∀ (fu : Nat) (k : Nat) (H : Heap) (locs : List Loc) (ls : Array Slot), (n < k + fu) → (k ≤ n) → WB D (tyM cy) 31 cy ad skM A s (pst (sI S 0 11 (nI (0))) (cps (S.2.1 7) ((fun i => S.2.1 18 (2000 * j + i))) k) k) H locs → lv_has ls 6 [(0, .ref (ad (0))), (1, .int (nI (1))), (2, .int (nI (j))), (3, .int (nI (j + 1))), (4, .int (nI (n))), (5, .int (nI (k)))] → W p l e R s m args below meth c H locs 0 0 Q (F0 m 90 ls []) := by
          intro fu
          induction fu with
          | zero =>
            intro k H locs ls h1 h2 w hl
            exact absurd h1 (by omega)
          | succ fu ih_90 =>
            intro k H locs ls h1 h2 w hl
            refine lv_iload hx hbc dX8_made_90 (lv_at hl 5 rfl) ?_
            refine lv_iload hx hbc dX8_made_92 (lv_at hl 4 rfl) ?_
            refine n_cmp_ge (tgt := 134) (by omega) (by omega) hx hbc dX8_made_94 (by decide) (fun c_94 => ?_) (fun c_94 => ?_)
            · obtain rfl : n = k := by omega
              refine lv_aload_n hx hbc dX8_made_134 rfl (lv_at hl 0 rfl) ?_
              refine lv_iload_n hx hbc dX8_made_135 rfl (lv_at hl 1 rfl) ?_
              refine lv_iconst (v := nI (1)) hx hbc dX8_made_136 (by decide) ?_
              refine n_cmp_ne (tgt := 144) (by omega) (by omega) hx hbc dX8_made_137 (by decide) (fun c_137 => ?_) (fun c_137 => ?_)
              · exact absurd c_137 (by decide)
              · refine lv_iconst (v := nI (1)) hx hbc dX8_made_140 (by decide) ?_
                refine lv_goto (tgt := 145) hx hbc dX8_made_141 (by decide) ?_
                refine wb_Vv (na := 1) (As := [.int (nI (1))]) (rest := []) hx hbc hml hg hown w E0_ok trivial w.1 Sub.self 0 (by decide) rfl rfl (k_X8_work l D cy ad (sI S 0 11 (nI (0))) (cps (S.2.1 7) ((fun i => S.2.1 18 (2000 * j + i))) n) (nI (1)) n 0 (by omega) rfl) wk_820 wk_9 wk_817 wk_819 ws_15 ⟨by decide, by decide, by decide⟩ ⟨by rw [hRf]; decide, by rw [hRl]; decide⟩ rfl hl.1 rfl (Nat.le_of_ble_eq_true rfl) dX8_made_145 ⟨Nat.zero_le _, Nat.zero_le _⟩ (fun S9 H locs hp w => ?_)
                subst hp
                have w : WB D (tyM cy) 31 cy ad skM A s (wrk (sI S 0 11 (nI (0))) (nI (1)) (cps (S.2.1 7) ((fun i => S.2.1 18 (2000 * j + i))) n) n 0) H locs := w
                refine lv_iload_n hx hbc dX8_made_148 rfl (lv_at hl 1 rfl) ?_
                refine lv_iconst (v := nI (2)) hx hbc dX8_made_149 (by decide) ?_
                refine n_cmp_ne (tgt := 267) (by omega) (by omega) hx hbc dX8_made_150 (by decide) (fun c_150 => ?_) (fun c_150 => ?_)
                · refine lv_aload_n hx hbc dX8_made_267 rfl (lv_at hl 0 rfl) ?_
                  refine lv_iload_n hx hbc dX8_made_268 rfl (lv_at hl 1 rfl) ?_
                  refine wb_Vi (na := 1) (As := [.int (nI (1))]) (rest := []) hx hbc hml hg hown w E0_ok trivial w.1 Sub.self 0 (by decide) rfl rfl (k_X8_keepDigest l D cy ad (wrk (sI S 0 11 (nI (0))) (nI (1)) (cps (S.2.1 7) ((fun i => S.2.1 18 (2000 * j + i))) n) n 0) (nI (1)) d (0 + padL n / 64) hd (by omega) rfl) wk_840 wk_9 wk_837 wk_839 ws_19 ⟨by decide, by decide, by decide⟩ ⟨by rw [hRf]; decide, by rw [hRl]; decide⟩ rfl hl.1 rfl (Nat.le_of_ble_eq_true rfl) dX8_made_269 ⟨Nat.zero_le _, Nat.zero_le _⟩ (fun r S9 H locs hp w => ?_)
                  obtain ⟨hp, rfl⟩ := hp
                  subst hp
                  have w : WB D (tyM cy) 31 cy ad skM A s (kst (wrk (sI S 0 11 (nI (0))) (nI (1)) (cps (S.2.1 7) ((fun i => S.2.1 18 (2000 * j + i))) n) n 0) (nI (1)) d (0 + padL n / 64)) H locs := w
                  exact hend _ _ _ _ _ _ ⟨rfl, rfl⟩ rfl w dX8_made_272
                · exact absurd c_150 (by decide)
            · refine lv_aload_n hx hbc dX8_made_97 rfl (lv_at hl 0 rfl) ?_
              refine lv_iload_n hx hbc dX8_made_98 rfl (lv_at hl 2 rfl) ?_
              refine lv_if_ge (tgt := 112) hx hbc dX8_made_99 (by decide) (fun c_99 => ?_) (fun c_99 => ?_)
              · refine lv_aload_n hx hbc dX8_made_112 rfl (lv_at hl 0 rfl) ?_
                refine wb_gr (t := 18) hx hbc hg hown w inG_X8 0 (by decide) rfl rfl 23 (by decide) rfl wk_690 dX8_made_113 ?_
                refine lv_sipush (v := nI (2000)) hx hbc dX8_made_116 (by decide) ?_
                refine lv_iload_n hx hbc dX8_made_119 rfl (lv_at hl 2 rfl) ?_
                refine n_imul hx hbc dX8_made_120 ?_
                refine lv_iload hx hbc dX8_made_121 (lv_at hl 5 rfl) ?_
                refine n_iadd hx hbc dX8_made_123 ?_
                refine wb_iald (k := (2000 * j) + k) (v := (S.2.1 18) ((2000 * j) + k)) hx hbc w 18 (by decide) rfl 0 rfl rfl (by omega) (by decide) rfl dX8_made_124 ?_
                refine wb_Vv (na := 1) (As := [.int ((S.2.1 18) ((2000 * j) + k))]) (rest := []) hx hbc hml hg hown w E0_ok trivial w.1 Sub.self 0 (by decide) rfl rfl (k_X8_put l D cy ad (pst (sI S 0 11 (nI (0))) (cps (S.2.1 7) ((fun i => S.2.1 18 (2000 * j + i))) k) k) ((S.2.1 18) ((2000 * j) + k)) k rfl (by omega)) wk_816 wk_9 wk_813 wk_815 ws_14 ⟨by decide, by decide, by decide⟩ ⟨by rw [hRf]; decide, by rw [hRl]; decide⟩ rfl hl.1 rfl (Nat.le_of_ble_eq_true rfl) dX8_made_125 ⟨Nat.zero_le _, Nat.zero_le _⟩ (fun S9 H locs hp w => ?_)
                subst hp
                have w := WB_cast w (pst_pst _ _ _ _ _)
                have w : WB D (tyM cy) 31 cy ad skM A s (pst (sI S 0 11 (nI (0))) (upd (cps (S.2.1 7) ((fun i => S.2.1 18 (2000 * j + i))) k) k ((S.2.1 18) ((2000 * j) + k))) (k + 1)) H locs := w
                refine lv_iinc (v := nI (k + 1)) (lv' := [(5, .int (nI (k + 1))), (0, .ref (ad (0))), (1, .int (nI (1))), (2, .int (nI (j))), (3, .int (nI (j + 1))), (4, .int (nI (n)))]) hx hbc dX8_made_128 hl (k := 5) rfl (ni_inc _ _) (by decide) rfl (fun ls hl => ?_)
                refine lv_goto (tgt := 90) hx hbc dX8_made_131 (by decide) ?_
                exact ih_90 (k + 1) _ _ _ (by omega) (by omega) w (lv_sub hl [1, 2, 3, 4, 5, 0] rfl)
              · exact absurd (nI_pos' (by omega)) c_99
        exact lp_90 (n + 1) 0 _ _ _ (by omega) (by omega) w (lv_sub hl [3, 4, 5, 2, 1, 0] rfl)
      · exact absurd c_52 (by decide)
    · exact absurd c_26 (by decide)
  · exact absurd (nI_pos' (by omega)) c_5
def md2t (S : wS) (d t : Nat) (kb : Nat) : wS := kst (wrk (sB (wrk (sI S 0 11 (nI (kb))) (nI (0)) (pts (cps (S.2.1 7) ((fun i => S.2.1 16 (64 * 0 + i) ^^^ nI 54)) 64) 64 (S.2.1 10) t) (64 + t) kb) 21 (cps (S.2.1 21) ((wrk (sI S 0 11 (nI (kb))) (nI (0)) (pts (cps (S.2.1 7) ((fun i => S.2.1 16 (64 * 0 + i) ^^^ nI 54)) 64) 64 (S.2.1 10) t) (64 + t) kb).2.1 8) 8)) (nI (0)) (pts (cps (padM (pts (cps (S.2.1 7) ((fun i => S.2.1 16 (64 * 0 + i) ^^^ nI 54)) 64) 64 (S.2.1 10) t) (64 + t)) ((fun i => S.2.1 16 (64 * 0 + i) ^^^ nI 92)) 64) 64 (byH (cps (S.2.1 21) ((wrk (sI S 0 11 (nI (kb))) (nI (0)) (pts (cps (S.2.1 7) ((fun i => S.2.1 16 (64 * 0 + i) ^^^ nI 54)) 64) 64 (S.2.1 10) t) (64 + t) kb).2.1 8) 8)) 32) (64 + 32) (kb + padL (64 + t) / 64)) (nI (2)) d (kb + padL (64 + t) / 64 + padL (64 + 32) / 64)
set_option maxHeartbeats 4000000 in
set_option maxRecDepth 100000 in
theorem k_X8_made2t (l : Launch) (D : va_G) (cy : Nat → ClassId) (ad : Nat → Nat) (S : wS) (d : Nat) (hd : S.1 0 16 = nI d) (hd2 : d < 60) (t : Nat) (ht : S.1 0 12 = nI t) (ht2 : t ≤ 200) (kb : Nat) (hkb : S.2.1 17 0 = nI kb) : CtI l yX8_made (Cond.code yX8_made cX8_made 6 (some .int) :: wsG) 3 77 [.ref (ad (0)), .int (nI (2)), .int ((-1))] D (tyM cy) 31 cy ad skM E0 (S) (fun r S' => r = nI d ∧ S' = md2t S d t kb) := by
  refine CtI_of (by decide) (Nat.le_of_ble_eq_true rfl) ?_
  intro p e s m args below meth c A ls R Q hB hRf hRl hend
  obtain ⟨hx, hbc, hr, hg, hown, hml, hlk, w, hE, hl⟩ := hB
  have hl : lv_has ls 6 [(0, .ref (ad (0))), (1, .int (nI (2))), (2, .int ((-1)))] := hl
  refine lv_iload_n hx hbc dX8_made_0 rfl (lv_at hl 2 rfl) ?_
  refine lv_iconst (v := nI (1)) hx hbc dX8_made_1 (by decide) ?_
  refine lv_iadd hx hbc dX8_made_2 ?_
  refine lv_ri (y := nI (0)) (by decide) ?_
  refine lv_istore_n (lv' := [(3, .int (nI (0))), (0, .ref (ad (0))), (1, .int (nI (2))), (2, .int ((-1)))]) hx hbc dX8_made_3 rfl hl (by decide) rfl (fun ls hl => ?_)
  refine lv_iload_n hx hbc dX8_made_4 rfl (lv_at hl 3 rfl) ?_
  refine lv_if_ge (tgt := 15) hx hbc dX8_made_5 (by decide) (fun c_5 => ?_) (fun c_5 => ?_)
  · exact absurd c_5 (by decide)
  · refine lv_aload_n hx hbc dX8_made_8 rfl (lv_at hl 1 rfl) ?_
    refine wb_gi (v := nI (t)) hx hbc hg hown w inG_X8 0 (by decide) rfl rfl 12 (by decide) rfl wk_679 ht dX8_made_9 ?_
    refine lv_goto (tgt := 21) hx hbc dX8_made_12 (by decide) ?_
    refine lv_istore (lv' := [(4, .int (nI (t))), (3, .int (nI (0))), (0, .ref (ad (0))), (1, .int (nI (2))), (2, .int ((-1)))]) hx hbc dX8_made_21 hl (by decide) rfl (fun ls hl => ?_)
    refine lv_aload_n hx hbc dX8_made_23 rfl (lv_at hl 2 rfl) ?_
    refine lv_iload_n hx hbc dX8_made_24 rfl (lv_at hl 3 rfl) ?_
    refine lv_iconst (v := nI (2)) hx hbc dX8_made_25 (by decide) ?_
    refine n_cmp_ne (tgt := 38) (by omega) (by omega) hx hbc dX8_made_26 (by decide) (fun c_26 => ?_) (fun c_26 => ?_)
    · exact absurd c_26 (by decide)
    · refine lv_aload_n hx hbc dX8_made_29 rfl (lv_at hl 2 rfl) ?_
      refine wb_gr (t := 17) hx hbc hg hown w inG_X8 0 (by decide) rfl rfl 22 (by decide) rfl wk_689 dX8_made_30 ?_
      refine lv_iload_n hx hbc dX8_made_33 rfl (lv_at hl 1 rfl) ?_
      refine wb_iald (k := 0) (v := nI (kb)) hx hbc w 17 (by decide) rfl 0 rfl rfl (by omega) (by decide) hkb dX8_made_34 ?_
      refine lv_goto (tgt := 39) hx hbc dX8_made_35 (by decide) ?_
      refine wb_pi (v := nI (kb)) hx hbc hg hown w inG_X8 tyX8 tyX8_ok nmX8 0 (by decide) rfl rfl 11 (by decide) rfl wk_678 rfl rfl rfl rfl dX8_made_39 (fun H locs w => ?_)
      refine lv_aload_n hx hbc dX8_made_42 rfl (lv_at hl 2 rfl) ?_
      refine lv_iconst (v := nI (0)) hx hbc dX8_made_43 (by decide) ?_
      refine wb_pi (v := nI (0)) hx hbc hg hown w inG_X8 tyX8 tyX8_ok nmX8 0 (by decide) rfl rfl 8 (by decide) rfl wk_675 rfl rfl rfl rfl dX8_made_44 (fun H locs w => ?_)
      have w : WB D (tyM cy) 31 cy ad skM A s (pst (sI S 0 11 (nI (kb))) (S.2.1 7) 0) H locs := WB_cast w (pst_0 _)
      refine lv_iconst (v := nI (0)) hx hbc dX8_made_47 (by decide) ?_
      refine lv_istore (lv' := [(5, .int (nI (0))), (4, .int (nI (t))), (3, .int (nI (0))), (0, .ref (ad (0))), (1, .int (nI (2))), (2, .int ((-1)))]) hx hbc dX8_made_48 hl (by decide) rfl (fun ls hl => ?_)
      have lp_50 : ∀ (fu : Nat) (k : Nat) (H : Heap) (locs : List Loc) (ls : Array Slot), (64 < k + fu) → (k ≤ 64) → WB D (tyM cy) 31 cy ad skM A s (pst (sI S 0 11 (nI (kb))) (cps (S.2.1 7) ((fun i => S.2.1 16 (64 * 0 + i) ^^^ nI 54)) k) k) H locs → lv_has ls 6 [(0, .ref (ad (0))), (1, .int (nI (2))), (2, .int ((-1))), (3, .int (nI (0))), (4, .int (nI (t))), (5, .int (nI (k)))] → W p l e R s m args below meth c H locs 0 0 Q (F0 m 50 ls []) := by
        intro fu
        induction fu with
        | zero =>
          intro k H locs ls h1 h2 w hl
          exact absurd h1 (by omega)
        | succ fu ih_50 =>
          intro k H locs ls h1 h2 w hl
          refine lv_iload_n hx hbc dX8_made_50 rfl (lv_at hl 1 rfl) ?_
          refine lv_iconst (v := nI (2)) hx hbc dX8_made_51 (by decide) ?_
          refine n_cmp_ne (tgt := 87) (by omega) (by omega) hx hbc dX8_made_52 (by decide) (fun c_52 => ?_) (fun c_52 => ?_)
          · exact absurd c_52 (by decide)
          · refine lv_iload hx hbc dX8_made_55 (lv_at hl 5 rfl) ?_
            refine lv_bipush (v := nI (64)) hx hbc dX8_made_57 (by decide) ?_
            refine n_cmp_ge (tgt := 87) (by omega) (by omega) hx hbc dX8_made_59 (by decide) (fun c_59 => ?_) (fun c_59 => ?_)
            · obtain rfl : k = 64 := by omega
              refine lv_iconst (v := nI (0)) hx hbc dX8_made_87 (by decide) ?_
              refine lv_istore (lv' := [(5, .int (nI (0))), (0, .ref (ad (0))), (1, .int (nI (2))), (2, .int ((-1))), (3, .int (nI (0))), (4, .int (nI (t)))]) hx hbc dX8_made_88 hl (by decide) rfl (fun ls hl => ?_)
              have lp_90 : ∀ (fu : Nat) (k : Nat) (H : Heap) (locs : List Loc) (ls : Array Slot), (t < k + fu) → (k ≤ t) → WB D (tyM cy) 31 cy ad skM A s (pst (sI S 0 11 (nI (kb))) (pts (cps (S.2.1 7) ((fun i => S.2.1 16 (64 * 0 + i) ^^^ nI 54)) 64) 64 (S.2.1 10) k) (64 + k)) H locs → lv_has ls 6 [(0, .ref (ad (0))), (1, .int (nI (2))), (2, .int ((-1))), (3, .int (nI (0))), (4, .int (nI (t))), (5, .int (nI (k)))] → W p l e R s m args below meth c H locs 0 0 Q (F0 m 90 ls []) := by
                intro fu
                induction fu with
                | zero =>
                  intro k H locs ls h1 h2 w hl
                  exact absurd h1 (by omega)
                | succ fu ih_90 =>
                  intro k H locs ls h1 h2 w hl
                  refine lv_iload hx hbc dX8_made_90 (lv_at hl 5 rfl) ?_
                  refine lv_iload hx hbc dX8_made_92 (lv_at hl 4 rfl) ?_
                  refine n_cmp_ge (tgt := 134) (by omega) (by omega) hx hbc dX8_made_94 (by decide) (fun c_94 => ?_) (fun c_94 => ?_)
                  · obtain rfl : t = k := by omega
                    refine lv_aload_n hx hbc dX8_made_134 rfl (lv_at hl 0 rfl) ?_
                    refine lv_iload_n hx hbc dX8_made_135 rfl (lv_at hl 1 rfl) ?_
                    refine lv_iconst (v := nI (1)) hx hbc dX8_made_136 (by decide) ?_
                    refine n_cmp_ne (tgt := 144) (by omega) (by omega) hx hbc dX8_made_137 (by decide) (fun c_137 => ?_) (fun c_137 => ?_)
                    · refine lv_iconst (v := nI (0)) hx hbc dX8_made_144 (by decide) ?_
                      refine wb_Vv (na := 1) (As := [.int (nI (0))]) (rest := []) hx hbc hml hg hown w E0_ok trivial w.1 Sub.self 0 (by decide) rfl rfl (k_X8_work l D cy ad (sI S 0 11 (nI (kb))) (pts (cps (S.2.1 7) ((fun i => S.2.1 16 (64 * 0 + i) ^^^ nI 54)) 64) 64 (S.2.1 10) t) (nI (0)) (64 + t) kb (by omega) rfl) wk_820 wk_9 wk_817 wk_819 ws_15 ⟨by decide, by decide, by decide⟩ ⟨by rw [hRf]; decide, by rw [hRl]; decide⟩ rfl hl.1 rfl (Nat.le_of_ble_eq_true rfl) dX8_made_145 ⟨Nat.zero_le _, Nat.zero_le _⟩ (fun S9 H locs hp w => ?_)
                      subst hp
                      have w : WB D (tyM cy) 31 cy ad skM A s (wrk (sI S 0 11 (nI (kb))) (nI (0)) (pts (cps (S.2.1 7) ((fun i => S.2.1 16 (64 * 0 + i) ^^^ nI 54)) 64) 64 (S.2.1 10) t) (64 + t) kb) H locs := w
                      refine lv_iload_n hx hbc dX8_made_148 rfl (lv_at hl 1 rfl) ?_
                      refine lv_iconst (v := nI (2)) hx hbc dX8_made_149 (by decide) ?_
                      refine n_cmp_ne (tgt := 267) (by omega) (by omega) hx hbc dX8_made_150 (by decide) (fun c_150 => ?_) (fun c_150 => ?_)
                      · exact absurd c_150 (by decide)
                      · refine lv_iconst (v := nI (0)) hx hbc dX8_made_153 (by decide) ?_
                        refine lv_istore (lv' := [(5, .int (nI (0))), (0, .ref (ad (0))), (1, .int (nI (2))), (2, .int ((-1))), (3, .int (nI (0))), (4, .int (nI (t)))]) hx hbc dX8_made_154 hl (by decide) rfl (fun ls hl => ?_)
                        have w : WB D (tyM cy) 31 cy ad skM A s (wrk (sI S 0 11 (nI (kb))) (nI (0)) (pts (cps (S.2.1 7) ((fun i => S.2.1 16 (64 * 0 + i) ^^^ nI 54)) 64) 64 (S.2.1 10) t) (64 + t) kb) H locs := w
                        have lp_156 : ∀ (fu : Nat) (k : Nat) (H : Heap) (locs : List Loc) (ls : Array Slot), (8 < k + fu) → (k ≤ 8) → WB D (tyM cy) 31 cy ad skM A s (sB (wrk (sI S 0 11 (nI (kb))) (nI (0)) (pts (cps (S.2.1 7) ((fun i => S.2.1 16 (64 * 0 + i) ^^^ nI 54)) 64) 64 (S.2.1 10) t) (64 + t) kb) 21 (cps (S.2.1 21) ((wrk (sI S 0 11 (nI (kb))) (nI (0)) (pts (cps (S.2.1 7) ((fun i => S.2.1 16 (64 * 0 + i) ^^^ nI 54)) 64) 64 (S.2.1 10) t) (64 + t) kb).2.1 8) k)) H locs → lv_has ls 6 [(0, .ref (ad (0))), (1, .int (nI (2))), (2, .int ((-1))), (3, .int (nI (0))), (4, .int (nI (t))), (5, .int (nI (k)))] → W p l e R s m args below meth c H locs 0 0 Q (F0 m 156 ls []) := by
                          intro fu
                          induction fu with
                          | zero =>
                            intro k H locs ls h1 h2 w hl
                            exact absurd h1 (by omega)
                          | succ fu ih_156 =>
                            intro k H locs ls h1 h2 w hl
                            refine lv_iload hx hbc dX8_made_156 (lv_at hl 5 rfl) ?_
                            refine lv_bipush (v := nI (8)) hx hbc dX8_made_158 (by decide) ?_
                            refine n_cmp_ge (tgt := 183) (by omega) (by omega) hx hbc dX8_made_160 (by decide) (fun c_160 => ?_) (fun c_160 => ?_)
                            · obtain rfl : k = 8 := by omega
                              have w : WB D (tyM cy) 31 cy ad skM A s (pst (sB (wrk (sI S 0 11 (nI (kb))) (nI (0)) (pts (cps (S.2.1 7) ((fun i => S.2.1 16 (64 * 0 + i) ^^^ nI 54)) 64) 64 (S.2.1 10) t) (64 + t) kb) 21 (cps (S.2.1 21) ((wrk (sI S 0 11 (nI (kb))) (nI (0)) (pts (cps (S.2.1 7) ((fun i => S.2.1 16 (64 * 0 + i) ^^^ nI 54)) 64) 64 (S.2.1 10) t) (64 + t) kb).2.1 8) 8)) (padM (pts (cps (S.2.1 7) ((fun i => S.2.1 16 (64 * 0 + i) ^^^ nI 54)) 64) 64 (S.2.1 10) t) (64 + t)) 0) H locs := WB_cast w (pst_id _ _ 0 rfl rfl)
                              refine lv_iconst (v := nI (0)) hx hbc dX8_made_183 (by decide) ?_
                              refine lv_istore (lv' := [(5, .int (nI (0))), (0, .ref (ad (0))), (1, .int (nI (2))), (2, .int ((-1))), (3, .int (nI (0))), (4, .int (nI (t)))]) hx hbc dX8_made_184 hl (by decide) rfl (fun ls hl => ?_)
                              have lp_186 : ∀ (fu : Nat) (k : Nat) (H : Heap) (locs : List Loc) (ls : Array Slot), (64 < k + fu) → (k ≤ 64) → WB D (tyM cy) 31 cy ad skM A s (pst (sB (wrk (sI S 0 11 (nI (kb))) (nI (0)) (pts (cps (S.2.1 7) ((fun i => S.2.1 16 (64 * 0 + i) ^^^ nI 54)) 64) 64 (S.2.1 10) t) (64 + t) kb) 21 (cps (S.2.1 21) ((wrk (sI S 0 11 (nI (kb))) (nI (0)) (pts (cps (S.2.1 7) ((fun i => S.2.1 16 (64 * 0 + i) ^^^ nI 54)) 64) 64 (S.2.1 10) t) (64 + t) kb).2.1 8) 8)) (cps (padM (pts (cps (S.2.1 7) ((fun i => S.2.1 16 (64 * 0 + i) ^^^ nI 54)) 64) 64 (S.2.1 10) t) (64 + t)) ((fun i => S.2.1 16 (64 * 0 + i) ^^^ nI 92)) k) k) H locs → lv_has ls 6 [(0, .ref (ad (0))), (1, .int (nI (2))), (2, .int ((-1))), (3, .int (nI (0))), (4, .int (nI (t))), (5, .int (nI (k)))] → W p l e R s m args below meth c H locs 0 0 Q (F0 m 186 ls []) := by
                                intro fu
                                induction fu with
                                | zero =>
                                  intro k H locs ls h1 h2 w hl
                                  exact absurd h1 (by omega)
                                | succ fu ih_186 =>
                                  intro k H locs ls h1 h2 w hl
                                  refine lv_iload hx hbc dX8_made_186 (lv_at hl 5 rfl) ?_
                                  refine lv_bipush (v := nI (64)) hx hbc dX8_made_188 (by decide) ?_
                                  refine n_cmp_ge (tgt := 218) (by omega) (by omega) hx hbc dX8_made_190 (by decide) (fun c_190 => ?_) (fun c_190 => ?_)
                                  · obtain rfl : k = 64 := by omega
                                    refine lv_iconst (v := nI (0)) hx hbc dX8_made_218 (by decide) ?_
                                    refine lv_istore (lv' := [(5, .int (nI (0))), (0, .ref (ad (0))), (1, .int (nI (2))), (2, .int ((-1))), (3, .int (nI (0))), (4, .int (nI (t)))]) hx hbc dX8_made_219 hl (by decide) rfl (fun ls hl => ?_)
                                    have lp_221 : ∀ (fu : Nat) (k : Nat) (H : Heap) (locs : List Loc) (ls : Array Slot), (32 < k + fu) → (k ≤ 32) → WB D (tyM cy) 31 cy ad skM A s (pst (sB (wrk (sI S 0 11 (nI (kb))) (nI (0)) (pts (cps (S.2.1 7) ((fun i => S.2.1 16 (64 * 0 + i) ^^^ nI 54)) 64) 64 (S.2.1 10) t) (64 + t) kb) 21 (cps (S.2.1 21) ((wrk (sI S 0 11 (nI (kb))) (nI (0)) (pts (cps (S.2.1 7) ((fun i => S.2.1 16 (64 * 0 + i) ^^^ nI 54)) 64) 64 (S.2.1 10) t) (64 + t) kb).2.1 8) 8)) (pts (cps (padM (pts (cps (S.2.1 7) ((fun i => S.2.1 16 (64 * 0 + i) ^^^ nI 54)) 64) 64 (S.2.1 10) t) (64 + t)) ((fun i => S.2.1 16 (64 * 0 + i) ^^^ nI 92)) 64) 64 (byH (cps (S.2.1 21) ((wrk (sI S 0 11 (nI (kb))) (nI (0)) (pts (cps (S.2.1 7) ((fun i => S.2.1 16 (64 * 0 + i) ^^^ nI 54)) 64) 64 (S.2.1 10) t) (64 + t) kb).2.1 8) 8)) k) (64 + k)) H locs → lv_has ls 6 [(0, .ref (ad (0))), (1, .int (nI (2))), (2, .int ((-1))), (3, .int (nI (0))), (4, .int (nI (t))), (5, .int (nI (k)))] → W p l e R s m args below meth c H locs 0 0 Q (F0 m 221 ls []) := by
                                      intro fu
                                      induction fu with
                                      | zero =>
                                        intro k H locs ls h1 h2 w hl
                                        exact absurd h1 (by omega)
                                      | succ fu ih_221 =>
                                        intro k H locs ls h1 h2 w hl
                                        refine lv_iload hx hbc dX8_made_221 (lv_at hl 5 rfl) ?_
                                        refine lv_bipush (v := nI (32)) hx hbc dX8_made_223 (by decide) ?_
                                        refine n_cmp_ge (tgt := 262) (by omega) (by omega) hx hbc dX8_made_225 (by decide) (fun c_225 => ?_) (fun c_225 => ?_)
                                        · obtain rfl : k = 32 := by omega
                                          refine lv_aload_n hx hbc dX8_made_262 rfl (lv_at hl 0 rfl) ?_
                                          refine lv_iconst (v := nI (0)) hx hbc dX8_made_263 (by decide) ?_
                                          refine wb_Vv (na := 1) (As := [.int (nI (0))]) (rest := []) hx hbc hml hg hown w E0_ok trivial w.1 Sub.self 0 (by decide) rfl rfl (k_X8_work l D cy ad (sB (wrk (sI S 0 11 (nI (kb))) (nI (0)) (pts (cps (S.2.1 7) ((fun i => S.2.1 16 (64 * 0 + i) ^^^ nI 54)) 64) 64 (S.2.1 10) t) (64 + t) kb) 21 (cps (S.2.1 21) ((wrk (sI S 0 11 (nI (kb))) (nI (0)) (pts (cps (S.2.1 7) ((fun i => S.2.1 16 (64 * 0 + i) ^^^ nI 54)) 64) 64 (S.2.1 10) t) (64 + t) kb).2.1 8) 8)) (pts (cps (padM (pts (cps (S.2.1 7) ((fun i => S.2.1 16 (64 * 0 + i) ^^^ nI 54)) 64) 64 (S.2.1 10) t) (64 + t)) ((fun i => S.2.1 16 (64 * 0 + i) ^^^ nI 92)) 64) 64 (byH (cps (S.2.1 21) ((wrk (sI S 0 11 (nI (kb))) (nI (0)) (pts (cps (S.2.1 7) ((fun i => S.2.1 16 (64 * 0 + i) ^^^ nI 54)) 64) 64 (S.2.1 10) t) (64 + t) kb).2.1 8) 8)) 32) (nI (0)) (64 + 32) (kb + padL (64 + t) / 64) (by omega) rfl) wk_820 wk_9 wk_817 wk_819 ws_15 ⟨by decide, by decide, by decide⟩ ⟨by rw [hRf]; decide, by rw [hRl]; decide⟩ rfl hl.1 rfl (Nat.le_of_ble_eq_true rfl) dX8_made_264 ⟨Nat.zero_le _, Nat.zero_le _⟩ (fun S9 H locs hp w => ?_)
                                          subst hp
                                          have w : WB D (tyM cy) 31 cy ad skM A s (wrk (sB (wrk (sI S 0 11 (nI (kb))) (nI (0)) (pts (cps (S.2.1 7) ((fun i => S.2.1 16 (64 * 0 + i) ^^^ nI 54)) 64) 64 (S.2.1 10) t) (64 + t) kb) 21 (cps (S.2.1 21) ((wrk (sI S 0 11 (nI (kb))) (nI (0)) (pts (cps (S.2.1 7) ((fun i => S.2.1 16 (64 * 0 + i) ^^^ nI 54)) 64) 64 (S.2.1 10) t) (64 + t) kb).2.1 8) 8)) (nI (0)) (pts (cps (padM (pts (cps (S.2.1 7) ((fun i => S.2.1 16 (64 * 0 + i) ^^^ nI 54)) 64) 64 (S.2.1 10) t) (64 + t)) ((fun i => S.2.1 16 (64 * 0 + i) ^^^ nI 92)) 64) 64 (byH (cps (S.2.1 21) ((wrk (sI S 0 11 (nI (kb))) (nI (0)) (pts (cps (S.2.1 7) ((fun i => S.2.1 16 (64 * 0 + i) ^^^ nI 54)) 64) 64 (S.2.1 10) t) (64 + t) kb).2.1 8) 8)) 32) (64 + 32) (kb + padL (64 + t) / 64)) H locs := w
                                          refine lv_aload_n hx hbc dX8_made_267 rfl (lv_at hl 0 rfl) ?_
                                          refine lv_iload_n hx hbc dX8_made_268 rfl (lv_at hl 1 rfl) ?_
                                          refine wb_Vi (na := 1) (As := [.int (nI (2))]) (rest := []) hx hbc hml hg hown w E0_ok trivial w.1 Sub.self 0 (by decide) rfl rfl (k_X8_keepDigest l D cy ad (wrk (sB (wrk (sI S 0 11 (nI (kb))) (nI (0)) (pts (cps (S.2.1 7) ((fun i => S.2.1 16 (64 * 0 + i) ^^^ nI 54)) 64) 64 (S.2.1 10) t) (64 + t) kb) 21 (cps (S.2.1 21) ((wrk (sI S 0 11 (nI (kb))) (nI (0)) (pts (cps (S.2.1 7) ((fun i => S.2.1 16 (64 * 0 + i) ^^^ nI 54)) 64) 64 (S.2.1 10) t) (64 + t) kb).2.1 8) 8)) (nI (0)) (pts (cps (padM (pts (cps (S.2.1 7) ((fun i => S.2.1 16 (64 * 0 + i) ^^^ nI 54)) 64) 64 (S.2.1 10) t) (64 + t)) ((fun i => S.2.1 16 (64 * 0 + i) ^^^ nI 92)) 64) 64 (byH (cps (S.2.1 21) ((wrk (sI S 0 11 (nI (kb))) (nI (0)) (pts (cps (S.2.1 7) ((fun i => S.2.1 16 (64 * 0 + i) ^^^ nI 54)) 64) 64 (S.2.1 10) t) (64 + t) kb).2.1 8) 8)) 32) (64 + 32) (kb + padL (64 + t) / 64)) (nI (2)) d (kb + padL (64 + t) / 64 + padL (64 + 32) / 64) hd (by omega) rfl) wk_840 wk_9 wk_837 wk_839 ws_19 ⟨by decide, by decide, by decide⟩ ⟨by rw [hRf]; decide, by rw [hRl]; decide⟩ rfl hl.1 rfl (Nat.le_of_ble_eq_true rfl) dX8_made_269 ⟨Nat.zero_le _, Nat.zero_le _⟩ (fun r S9 H locs hp w => ?_)
                                          obtain ⟨hp, rfl⟩ := hp
                                          subst hp
                                          have w : WB D (tyM cy) 31 cy ad skM A s (kst (wrk (sB (wrk (sI S 0 11 (nI (kb))) (nI (0)) (pts (cps (S.2.1 7) ((fun i => S.2.1 16 (64 * 0 + i) ^^^ nI 54)) 64) 64 (S.2.1 10) t) (64 + t) kb) 21 (cps (S.2.1 21) ((wrk (sI S 0 11 (nI (kb))) (nI (0)) (pts (cps (S.2.1 7) ((fun i => S.2.1 16 (64 * 0 + i) ^^^ nI 54)) 64) 64 (S.2.1 10) t) (64 + t) kb).2.1 8) 8)) (nI (0)) (pts (cps (padM (pts (cps (S.2.1 7) ((fun i => S.2.1 16 (64 * 0 + i) ^^^ nI 54)) 64) 64 (S.2.1 10) t) (64 + t)) ((fun i => S.2.1 16 (64 * 0 + i) ^^^ nI 92)) 64) 64 (byH (cps (S.2.1 21) ((wrk (sI S 0 11 (nI (kb))) (nI (0)) (pts (cps (S.2.1 7) ((fun i => S.2.1 16 (64 * 0 + i) ^^^ nI 54)) 64) 64 (S.2.1 10) t) (64 + t) kb).2.1 8) 8)) 32) (64 + 32) (kb + padL (64 + t) / 64)) (nI (2)) d (kb + padL (64 + t) / 64 + padL (64 + 32) / 64)) H locs := w
                                          exact hend _ _ _ _ _ _ ⟨rfl, rfl⟩ rfl w dX8_made_272
                                        · refine lv_aload_n hx hbc dX8_made_228 rfl (lv_at hl 0 rfl) ?_
                                          refine lv_aload_n hx hbc dX8_made_229 rfl (lv_at hl 0 rfl) ?_
                                          refine wb_gr (t := 21) hx hbc hg hown w inG_X8 0 (by decide) rfl rfl 26 (by decide) rfl wk_693 dX8_made_230 ?_
                                          refine lv_iload hx hbc dX8_made_233 (lv_at hl 5 rfl) ?_
                                          refine lv_iconst (v := nI (4)) hx hbc dX8_made_235 (by decide) ?_
                                          refine n_idiv (by omega) (by omega) (by omega) hx hbc dX8_made_236 ?_
                                          refine wb_iald (k := k / 4) (v := (cps (S.2.1 21) ((wrk (sI S 0 11 (nI (kb))) (nI (0)) (pts (cps (S.2.1 7) ((fun i => S.2.1 16 (64 * 0 + i) ^^^ nI 54)) 64) 64 (S.2.1 10) t) (64 + t) kb).2.1 8) 8) (k / 4)) hx hbc w 21 (by decide) rfl 0 rfl rfl (by omega) (by decide) rfl dX8_made_237 ?_
                                          refine lv_bipush (v := nI (24)) hx hbc dX8_made_238 (by decide) ?_
                                          refine lv_bipush (v := nI (8)) hx hbc dX8_made_240 (by decide) ?_
                                          refine lv_iload hx hbc dX8_made_242 (lv_at hl 5 rfl) ?_
                                          refine lv_iconst (v := nI (4)) hx hbc dX8_made_244 (by decide) ?_
                                          refine n_irem (by omega) (by omega) (by omega) hx hbc dX8_made_245 ?_
                                          refine n_imul hx hbc dX8_made_246 ?_
                                          refine n_isub (by omega) hx hbc dX8_made_247 ?_
                                          refine lv_iushr hx hbc dX8_made_248 rfl ?_
                                          refine lv_sipush (v := nI (255)) hx hbc dX8_made_249 (by decide) ?_
                                          refine lv_iand hx hbc dX8_made_252 ?_
                                          refine wb_Vv (na := 1) (As := [.int (((((cps (S.2.1 21) ((wrk (sI S 0 11 (nI (kb))) (nI (0)) (pts (cps (S.2.1 7) ((fun i => S.2.1 16 (64 * 0 + i) ^^^ nI 54)) 64) 64 (S.2.1 10) t) (64 + t) kb).2.1 8) 8) (k / 4)).toUInt32 >>> ((nI (24 - (8 * (k % 4)))).toUInt32 &&& Int32.toUInt32 31)).toInt32) &&& (nI (255)))]) (rest := []) hx hbc hml hg hown w E0_ok trivial w.1 Sub.self 0 (by decide) rfl rfl (k_X8_put l D cy ad (pst (sB (wrk (sI S 0 11 (nI (kb))) (nI (0)) (pts (cps (S.2.1 7) ((fun i => S.2.1 16 (64 * 0 + i) ^^^ nI 54)) 64) 64 (S.2.1 10) t) (64 + t) kb) 21 (cps (S.2.1 21) ((wrk (sI S 0 11 (nI (kb))) (nI (0)) (pts (cps (S.2.1 7) ((fun i => S.2.1 16 (64 * 0 + i) ^^^ nI 54)) 64) 64 (S.2.1 10) t) (64 + t) kb).2.1 8) 8)) (pts (cps (padM (pts (cps (S.2.1 7) ((fun i => S.2.1 16 (64 * 0 + i) ^^^ nI 54)) 64) 64 (S.2.1 10) t) (64 + t)) ((fun i => S.2.1 16 (64 * 0 + i) ^^^ nI 92)) 64) 64 (byH (cps (S.2.1 21) ((wrk (sI S 0 11 (nI (kb))) (nI (0)) (pts (cps (S.2.1 7) ((fun i => S.2.1 16 (64 * 0 + i) ^^^ nI 54)) 64) 64 (S.2.1 10) t) (64 + t) kb).2.1 8) 8)) k) (64 + k)) (((((cps (S.2.1 21) ((wrk (sI S 0 11 (nI (kb))) (nI (0)) (pts (cps (S.2.1 7) ((fun i => S.2.1 16 (64 * 0 + i) ^^^ nI 54)) 64) 64 (S.2.1 10) t) (64 + t) kb).2.1 8) 8) (k / 4)).toUInt32 >>> ((nI (24 - (8 * (k % 4)))).toUInt32 &&& Int32.toUInt32 31)).toInt32) &&& (nI (255))) (64 + k) rfl (by omega)) wk_816 wk_9 wk_813 wk_815 ws_14 ⟨by decide, by decide, by decide⟩ ⟨by rw [hRf]; decide, by rw [hRl]; decide⟩ rfl hl.1 rfl (Nat.le_of_ble_eq_true rfl) dX8_made_253 ⟨Nat.zero_le _, Nat.zero_le _⟩ (fun S9 H locs hp w => ?_)
                                          subst hp
                                          have w := WB_cast w (pst_pst _ _ _ _ _)
                                          have w : WB D (tyM cy) 31 cy ad skM A s (pst (sB (wrk (sI S 0 11 (nI (kb))) (nI (0)) (pts (cps (S.2.1 7) ((fun i => S.2.1 16 (64 * 0 + i) ^^^ nI 54)) 64) 64 (S.2.1 10) t) (64 + t) kb) 21 (cps (S.2.1 21) ((wrk (sI S 0 11 (nI (kb))) (nI (0)) (pts (cps (S.2.1 7) ((fun i => S.2.1 16 (64 * 0 + i) ^^^ nI 54)) 64) 64 (S.2.1 10) t) (64 + t) kb).2.1 8) 8)) (upd (pts (cps (padM (pts (cps (S.2.1 7) ((fun i => S.2.1 16 (64 * 0 + i) ^^^ nI 54)) 64) 64 (S.2.1 10) t) (64 + t)) ((fun i => S.2.1 16 (64 * 0 + i) ^^^ nI 92)) 64) 64 (byH (cps (S.2.1 21) ((wrk (sI S 0 11 (nI (kb))) (nI (0)) (pts (cps (S.2.1 7) ((fun i => S.2.1 16 (64 * 0 + i) ^^^ nI 54)) 64) 64 (S.2.1 10) t) (64 + t) kb).2.1 8) 8)) k) (64 + k) (((((cps (S.2.1 21) ((wrk (sI S 0 11 (nI (kb))) (nI (0)) (pts (cps (S.2.1 7) ((fun i => S.2.1 16 (64 * 0 + i) ^^^ nI 54)) 64) 64 (S.2.1 10) t) (64 + t) kb).2.1 8) 8) (k / 4)).toUInt32 >>> ((nI (24 - (8 * (k % 4)))).toUInt32 &&& Int32.toUInt32 31)).toInt32) &&& (nI (255)))) (64 + k + 1)) H locs := w
                                          refine lv_iinc (v := nI (k + 1)) (lv' := [(5, .int (nI (k + 1))), (0, .ref (ad (0))), (1, .int (nI (2))), (2, .int ((-1))), (3, .int (nI (0))), (4, .int (nI (t)))]) hx hbc dX8_made_256 hl (k := 5) rfl (ni_inc _ _) (by decide) rfl (fun ls hl => ?_)
                                          refine lv_goto (tgt := 221) hx hbc dX8_made_259 (by decide) ?_
                                          exact ih_221 (k + 1) _ _ _ (by omega) (by omega) w (lv_sub hl [1, 2, 3, 4, 5, 0] rfl)
                                    exact lp_221 33 0 _ _ _ (by omega) (by omega) w (lv_sub hl [1, 2, 3, 4, 5, 0] rfl)
                                  · refine lv_aload_n hx hbc dX8_made_193 rfl (lv_at hl 0 rfl) ?_
                                    refine lv_aload_n hx hbc dX8_made_194 rfl (lv_at hl 0 rfl) ?_
                                    refine wb_gr (t := 16) hx hbc hg hown w inG_X8 0 (by decide) rfl rfl 21 (by decide) rfl wk_688 dX8_made_195 ?_
                                    refine lv_bipush (v := nI (64)) hx hbc dX8_made_198 (by decide) ?_
                                    refine lv_iload_n hx hbc dX8_made_200 rfl (lv_at hl 3 rfl) ?_
                                    refine n_imul hx hbc dX8_made_201 ?_
                                    refine lv_iload hx hbc dX8_made_202 (lv_at hl 5 rfl) ?_
                                    refine n_iadd hx hbc dX8_made_204 ?_
                                    refine wb_iald (k := 0 + k) (v := (S.2.1 16) (0 + k)) hx hbc w 16 (by decide) rfl 0 rfl rfl (by omega) (by decide) rfl dX8_made_205 ?_
                                    refine lv_bipush (v := nI (92)) hx hbc dX8_made_206 (by decide) ?_
                                    refine lv_ixor hx hbc dX8_made_208 ?_
                                    refine wb_Vv (na := 1) (As := [.int (((S.2.1 16) (0 + k)) ^^^ (nI (92)))]) (rest := []) hx hbc hml hg hown w E0_ok trivial w.1 Sub.self 0 (by decide) rfl rfl (k_X8_put l D cy ad (pst (sB (wrk (sI S 0 11 (nI (kb))) (nI (0)) (pts (cps (S.2.1 7) ((fun i => S.2.1 16 (64 * 0 + i) ^^^ nI 54)) 64) 64 (S.2.1 10) t) (64 + t) kb) 21 (cps (S.2.1 21) ((wrk (sI S 0 11 (nI (kb))) (nI (0)) (pts (cps (S.2.1 7) ((fun i => S.2.1 16 (64 * 0 + i) ^^^ nI 54)) 64) 64 (S.2.1 10) t) (64 + t) kb).2.1 8) 8)) (cps (padM (pts (cps (S.2.1 7) ((fun i => S.2.1 16 (64 * 0 + i) ^^^ nI 54)) 64) 64 (S.2.1 10) t) (64 + t)) ((fun i => S.2.1 16 (64 * 0 + i) ^^^ nI 92)) k) k) (((S.2.1 16) (0 + k)) ^^^ (nI (92))) k rfl (by omega)) wk_816 wk_9 wk_813 wk_815 ws_14 ⟨by decide, by decide, by decide⟩ ⟨by rw [hRf]; decide, by rw [hRl]; decide⟩ rfl hl.1 rfl (Nat.le_of_ble_eq_true rfl) dX8_made_209 ⟨Nat.zero_le _, Nat.zero_le _⟩ (fun S9 H locs hp w => ?_)
                                    subst hp
                                    have w := WB_cast w (pst_pst _ _ _ _ _)
                                    have w : WB D (tyM cy) 31 cy ad skM A s (pst (sB (wrk (sI S 0 11 (nI (kb))) (nI (0)) (pts (cps (S.2.1 7) ((fun i => S.2.1 16 (64 * 0 + i) ^^^ nI 54)) 64) 64 (S.2.1 10) t) (64 + t) kb) 21 (cps (S.2.1 21) ((wrk (sI S 0 11 (nI (kb))) (nI (0)) (pts (cps (S.2.1 7) ((fun i => S.2.1 16 (64 * 0 + i) ^^^ nI 54)) 64) 64 (S.2.1 10) t) (64 + t) kb).2.1 8) 8)) (upd (cps (padM (pts (cps (S.2.1 7) ((fun i => S.2.1 16 (64 * 0 + i) ^^^ nI 54)) 64) 64 (S.2.1 10) t) (64 + t)) ((fun i => S.2.1 16 (64 * 0 + i) ^^^ nI 92)) k) k (((S.2.1 16) (0 + k)) ^^^ (nI (92)))) (k + 1)) H locs := w
                                    refine lv_iinc (v := nI (k + 1)) (lv' := [(5, .int (nI (k + 1))), (0, .ref (ad (0))), (1, .int (nI (2))), (2, .int ((-1))), (3, .int (nI (0))), (4, .int (nI (t)))]) hx hbc dX8_made_212 hl (k := 5) rfl (ni_inc _ _) (by decide) rfl (fun ls hl => ?_)
                                    refine lv_goto (tgt := 186) hx hbc dX8_made_215 (by decide) ?_
                                    exact ih_186 (k + 1) _ _ _ (by omega) (by omega) w (lv_sub hl [1, 2, 3, 4, 5, 0] rfl)
                              exact lp_186 65 0 _ _ _ (by omega) (by omega) w (lv_sub hl [1, 2, 3, 4, 5, 0] rfl)
                            · refine lv_aload_n hx hbc dX8_made_163 rfl (lv_at hl 0 rfl) ?_
                              refine wb_gr (t := 21) hx hbc hg hown w inG_X8 0 (by decide) rfl rfl 26 (by decide) rfl wk_693 dX8_made_164 ?_
                              refine lv_iload hx hbc dX8_made_167 (lv_at hl 5 rfl) ?_
                              refine lv_aload_n hx hbc dX8_made_169 rfl (lv_at hl 0 rfl) ?_
                              refine wb_gr (t := 8) hx hbc hg hown w inG_X8 0 (by decide) rfl rfl 9 (by decide) rfl wk_676 dX8_made_170 ?_
                              refine lv_iload hx hbc dX8_made_173 (lv_at hl 5 rfl) ?_
                              refine wb_iald (k := k) (v := ((wrk (sI S 0 11 (nI (kb))) (nI (0)) (pts (cps (S.2.1 7) ((fun i => S.2.1 16 (64 * 0 + i) ^^^ nI 54)) 64) 64 (S.2.1 10) t) (64 + t) kb).2.1 8) k) hx hbc w 8 (by decide) rfl 0 rfl rfl (by omega) (by decide) rfl dX8_made_175 ?_
                              refine wb_iast (k := k) (f := cps (S.2.1 21) ((wrk (sI S 0 11 (nI (kb))) (nI (0)) (pts (cps (S.2.1 7) ((fun i => S.2.1 16 (64 * 0 + i) ^^^ nI 54)) 64) 64 (S.2.1 10) t) (64 + t) kb).2.1 8) k) hx hbc w 21 (by decide) rfl 0 rfl rfl (by omega) (by decide) rfl rfl dX8_made_176 (fun H locs w => ?_)
                              refine lv_iinc (v := nI (k + 1)) (lv' := [(5, .int (nI (k + 1))), (0, .ref (ad (0))), (1, .int (nI (2))), (2, .int ((-1))), (3, .int (nI (0))), (4, .int (nI (t)))]) hx hbc dX8_made_177 hl (k := 5) rfl (ni_inc _ _) (by decide) rfl (fun ls hl => ?_)
                              refine lv_goto (tgt := 156) hx hbc dX8_made_180 (by decide) ?_
                              exact ih_156 (k + 1) _ _ _ (by omega) (by omega) (WB_cast w (by rw [sB_sB]; rfl)) (lv_sub hl [1, 2, 3, 4, 5, 0] rfl)
                        exact lp_156 9 0 _ _ _ (by omega) (by omega) (WB_cast w (sB_beg _ _ _ rfl)) (lv_sub hl [1, 2, 3, 4, 5, 0] rfl)
                    · exact absurd c_137 (by decide)
                  · refine lv_aload_n hx hbc dX8_made_97 rfl (lv_at hl 0 rfl) ?_
                    refine lv_iload_n hx hbc dX8_made_98 rfl (lv_at hl 2 rfl) ?_
                    refine lv_if_ge (tgt := 112) hx hbc dX8_made_99 (by decide) (fun c_99 => ?_) (fun c_99 => ?_)
                    · exact absurd c_99 (by decide)
                    · refine lv_aload_n hx hbc dX8_made_102 rfl (lv_at hl 0 rfl) ?_
                      refine wb_gr (t := 10) hx hbc hg hown w inG_X8 0 (by decide) rfl rfl 13 (by decide) rfl wk_680 dX8_made_103 ?_
                      refine lv_iload hx hbc dX8_made_106 (lv_at hl 5 rfl) ?_
                      refine wb_iald (k := k) (v := (S.2.1 10) k) hx hbc w 10 (by decide) rfl 0 rfl rfl (by omega) (by decide) rfl dX8_made_108 ?_
                      refine lv_goto (tgt := 125) hx hbc dX8_made_109 (by decide) ?_
                      refine wb_Vv (na := 1) (As := [.int ((S.2.1 10) k)]) (rest := []) hx hbc hml hg hown w E0_ok trivial w.1 Sub.self 0 (by decide) rfl rfl (k_X8_put l D cy ad (pst (sI S 0 11 (nI (kb))) (pts (cps (S.2.1 7) ((fun i => S.2.1 16 (64 * 0 + i) ^^^ nI 54)) 64) 64 (S.2.1 10) k) (64 + k)) ((S.2.1 10) k) (64 + k) rfl (by omega)) wk_816 wk_9 wk_813 wk_815 ws_14 ⟨by decide, by decide, by decide⟩ ⟨by rw [hRf]; decide, by rw [hRl]; decide⟩ rfl hl.1 rfl (Nat.le_of_ble_eq_true rfl) dX8_made_125 ⟨Nat.zero_le _, Nat.zero_le _⟩ (fun S9 H locs hp w => ?_)
                      subst hp
                      have w := WB_cast w (pst_pst _ _ _ _ _)
                      have w : WB D (tyM cy) 31 cy ad skM A s (pst (sI S 0 11 (nI (kb))) (upd (pts (cps (S.2.1 7) ((fun i => S.2.1 16 (64 * 0 + i) ^^^ nI 54)) 64) 64 (S.2.1 10) k) (64 + k) ((S.2.1 10) k)) (64 + k + 1)) H locs := w
                      refine lv_iinc (v := nI (k + 1)) (lv' := [(5, .int (nI (k + 1))), (0, .ref (ad (0))), (1, .int (nI (2))), (2, .int ((-1))), (3, .int (nI (0))), (4, .int (nI (t)))]) hx hbc dX8_made_128 hl (k := 5) rfl (ni_inc _ _) (by decide) rfl (fun ls hl => ?_)
                      refine lv_goto (tgt := 90) hx hbc dX8_made_131 (by decide) ?_
                      exact ih_90 (k + 1) _ _ _ (by omega) (by omega) w (lv_sub hl [1, 2, 3, 4, 5, 0] rfl)
              exact lp_90 (t + 1) 0 _ _ _ (by omega) (by omega) w (lv_sub hl [1, 2, 3, 4, 5, 0] rfl)
            · refine lv_aload_n hx hbc dX8_made_62 rfl (lv_at hl 0 rfl) ?_
              refine lv_aload_n hx hbc dX8_made_63 rfl (lv_at hl 0 rfl) ?_
              refine wb_gr (t := 16) hx hbc hg hown w inG_X8 0 (by decide) rfl rfl 21 (by decide) rfl wk_688 dX8_made_64 ?_
              refine lv_bipush (v := nI (64)) hx hbc dX8_made_67 (by decide) ?_
              refine lv_iload_n hx hbc dX8_made_69 rfl (lv_at hl 3 rfl) ?_
              refine n_imul hx hbc dX8_made_70 ?_
              refine lv_iload hx hbc dX8_made_71 (lv_at hl 5 rfl) ?_
              refine n_iadd hx hbc dX8_made_73 ?_
              refine wb_iald (k := 0 + k) (v := (S.2.1 16) (0 + k)) hx hbc w 16 (by decide) rfl 0 rfl rfl (by omega) (by decide) rfl dX8_made_74 ?_
              refine lv_bipush (v := nI (54)) hx hbc dX8_made_75 (by decide) ?_
              refine lv_ixor hx hbc dX8_made_77 ?_
              refine wb_Vv (na := 1) (As := [.int (((S.2.1 16) (0 + k)) ^^^ (nI (54)))]) (rest := []) hx hbc hml hg hown w E0_ok trivial w.1 Sub.self 0 (by decide) rfl rfl (k_X8_put l D cy ad (pst (sI S 0 11 (nI (kb))) (cps (S.2.1 7) ((fun i => S.2.1 16 (64 * 0 + i) ^^^ nI 54)) k) k) (((S.2.1 16) (0 + k)) ^^^ (nI (54))) k rfl (by omega)) wk_816 wk_9 wk_813 wk_815 ws_14 ⟨by decide, by decide, by decide⟩ ⟨by rw [hRf]; decide, by rw [hRl]; decide⟩ rfl hl.1 rfl (Nat.le_of_ble_eq_true rfl) dX8_made_78 ⟨Nat.zero_le _, Nat.zero_le _⟩ (fun S9 H locs hp w => ?_)
              subst hp
              have w := WB_cast w (pst_pst _ _ _ _ _)
              have w : WB D (tyM cy) 31 cy ad skM A s (pst (sI S 0 11 (nI (kb))) (upd (cps (S.2.1 7) ((fun i => S.2.1 16 (64 * 0 + i) ^^^ nI 54)) k) k (((S.2.1 16) (0 + k)) ^^^ (nI (54)))) (k + 1)) H locs := w
              refine lv_iinc (v := nI (k + 1)) (lv' := [(5, .int (nI (k + 1))), (0, .ref (ad (0))), (1, .int (nI (2))), (2, .int ((-1))), (3, .int (nI (0))), (4, .int (nI (t)))]) hx hbc dX8_made_81 hl (k := 5) rfl (ni_inc _ _) (by decide) rfl (fun ls hl => ?_)
              refine lv_goto (tgt := 50) hx hbc dX8_made_84 (by decide) ?_
              exact ih_50 (k + 1) _ _ _ (by omega) (by omega) w (lv_sub hl [1, 2, 3, 4, 5, 0] rfl)
      exact lp_50 65 0 _ _ _ (by omega) (by omega) w (lv_sub hl [3, 4, 5, 2, 1, 0] rfl)
def md2s (S : wS) (d j n : Nat) (kb : Nat) : wS := kst (wrk (sB (wrk (sI S 0 11 (nI (kb))) (nI (0)) (pts (cps (S.2.1 7) ((fun i => S.2.1 16 (64 * (j + 1) + i) ^^^ nI 54)) 64) 64 ((fun i => S.2.1 18 (2000 * j + i))) n) (64 + n) kb) 21 (cps (S.2.1 21) ((wrk (sI S 0 11 (nI (kb))) (nI (0)) (pts (cps (S.2.1 7) ((fun i => S.2.1 16 (64 * (j + 1) + i) ^^^ nI 54)) 64) 64 ((fun i => S.2.1 18 (2000 * j + i))) n) (64 + n) kb).2.1 8) 8)) (nI (0)) (pts (cps (padM (pts (cps (S.2.1 7) ((fun i => S.2.1 16 (64 * (j + 1) + i) ^^^ nI 54)) 64) 64 ((fun i => S.2.1 18 (2000 * j + i))) n) (64 + n)) ((fun i => S.2.1 16 (64 * (j + 1) + i) ^^^ nI 92)) 64) 64 (byH (cps (S.2.1 21) ((wrk (sI S 0 11 (nI (kb))) (nI (0)) (pts (cps (S.2.1 7) ((fun i => S.2.1 16 (64 * (j + 1) + i) ^^^ nI 54)) 64) 64 ((fun i => S.2.1 18 (2000 * j + i))) n) (64 + n) kb).2.1 8) 8)) 32) (64 + 32) (kb + padL (64 + n) / 64)) (nI (2)) d (kb + padL (64 + n) / 64 + padL (64 + 32) / 64)
set_option maxHeartbeats 4000000 in
set_option maxRecDepth 100000 in
theorem k_X8_made2s (l : Launch) (D : va_G) (cy : Nat → ClassId) (ad : Nat → Nat) (S : wS) (d : Nat) (hd : S.1 0 16 = nI d) (hd2 : d < 60) (j n : Nat) (hj : j < 4) (hn : S.2.1 19 j = nI n) (hn2 : n ≤ 2000) (kb : Nat) (hkb : S.2.1 17 (j + 1) = nI kb) : CtI l yX8_made (Cond.code yX8_made cX8_made 6 (some .int) :: wsG) 3 77 [.ref (ad (0)), .int (nI (2)), .int (nI (j))] D (tyM cy) 31 cy ad skM E0 (S) (fun r S' => r = nI d ∧ S' = md2s S d j n kb) := by
  refine CtI_of (by decide) (Nat.le_of_ble_eq_true rfl) ?_
  intro p e s m args below meth c A ls R Q hB hRf hRl hend
  obtain ⟨hx, hbc, hr, hg, hown, hml, hlk, w, hE, hl⟩ := hB
  have hl : lv_has ls 6 [(0, .ref (ad (0))), (1, .int (nI (2))), (2, .int (nI (j)))] := hl
  refine lv_iload_n hx hbc dX8_made_0 rfl (lv_at hl 2 rfl) ?_
  refine lv_iconst (v := nI (1)) hx hbc dX8_made_1 (by decide) ?_
  refine n_iadd hx hbc dX8_made_2 ?_
  refine lv_istore_n (lv' := [(3, .int (nI (j + 1))), (0, .ref (ad (0))), (1, .int (nI (2))), (2, .int (nI (j)))]) hx hbc dX8_made_3 rfl hl (by decide) rfl (fun ls hl => ?_)
  refine lv_iload_n hx hbc dX8_made_4 rfl (lv_at hl 3 rfl) ?_
  refine lv_if_ge (tgt := 15) hx hbc dX8_made_5 (by decide) (fun c_5 => ?_) (fun c_5 => ?_)
  · refine lv_aload_n hx hbc dX8_made_15 rfl (lv_at hl 1 rfl) ?_
    refine wb_gr (t := 19) hx hbc hg hown w inG_X8 0 (by decide) rfl rfl 24 (by decide) rfl wk_691 dX8_made_16 ?_
    refine lv_iload_n hx hbc dX8_made_19 rfl (lv_at hl 3 rfl) ?_
    refine wb_iald (k := j) (v := nI (n)) hx hbc w 19 (by decide) rfl 0 rfl rfl (by omega) (by decide) hn dX8_made_20 ?_
    refine lv_istore (lv' := [(4, .int (nI (n))), (3, .int (nI (j + 1))), (0, .ref (ad (0))), (1, .int (nI (2))), (2, .int (nI (j)))]) hx hbc dX8_made_21 hl (by decide) rfl (fun ls hl => ?_)
    refine lv_aload_n hx hbc dX8_made_23 rfl (lv_at hl 2 rfl) ?_
    refine lv_iload_n hx hbc dX8_made_24 rfl (lv_at hl 3 rfl) ?_
    refine lv_iconst (v := nI (2)) hx hbc dX8_made_25 (by decide) ?_
    refine n_cmp_ne (tgt := 38) (by omega) (by omega) hx hbc dX8_made_26 (by decide) (fun c_26 => ?_) (fun c_26 => ?_)
    · exact absurd c_26 (by decide)
    · refine lv_aload_n hx hbc dX8_made_29 rfl (lv_at hl 2 rfl) ?_
      refine wb_gr (t := 17) hx hbc hg hown w inG_X8 0 (by decide) rfl rfl 22 (by decide) rfl wk_689 dX8_made_30 ?_
      refine lv_iload_n hx hbc dX8_made_33 rfl (lv_at hl 1 rfl) ?_
      refine wb_iald (k := j + 1) (v := nI (kb)) hx hbc w 17 (by decide) rfl 0 rfl rfl (by omega) (by decide) hkb dX8_made_34 ?_
      refine lv_goto (tgt := 39) hx hbc dX8_made_35 (by decide) ?_
      refine wb_pi (v := nI (kb)) hx hbc hg hown w inG_X8 tyX8 tyX8_ok nmX8 0 (by decide) rfl rfl 11 (by decide) rfl wk_678 rfl rfl rfl rfl dX8_made_39 (fun H locs w => ?_)
      refine lv_aload_n hx hbc dX8_made_42 rfl (lv_at hl 2 rfl) ?_
      refine lv_iconst (v := nI (0)) hx hbc dX8_made_43 (by decide) ?_
      refine wb_pi (v := nI (0)) hx hbc hg hown w inG_X8 tyX8 tyX8_ok nmX8 0 (by decide) rfl rfl 8 (by decide) rfl wk_675 rfl rfl rfl rfl dX8_made_44 (fun H locs w => ?_)
      have w : WB D (tyM cy) 31 cy ad skM A s (pst (sI S 0 11 (nI (kb))) (S.2.1 7) 0) H locs := WB_cast w (pst_0 _)
      refine lv_iconst (v := nI (0)) hx hbc dX8_made_47 (by decide) ?_
      refine lv_istore (lv' := [(5, .int (nI (0))), (4, .int (nI (n))), (3, .int (nI (j + 1))), (0, .ref (ad (0))), (1, .int (nI (2))), (2, .int (nI (j)))]) hx hbc dX8_made_48 hl (by decide) rfl (fun ls hl => ?_)
      have lp_50 : ∀ (fu : Nat) (k : Nat) (H : Heap) (locs : List Loc) (ls : Array Slot), (64 < k + fu) → (k ≤ 64) → WB D (tyM cy) 31 cy ad skM A s (pst (sI S 0 11 (nI (kb))) (cps (S.2.1 7) ((fun i => S.2.1 16 (64 * (j + 1) + i) ^^^ nI 54)) k) k) H locs → lv_has ls 6 [(0, .ref (ad (0))), (1, .int (nI (2))), (2, .int (nI (j))), (3, .int (nI (j + 1))), (4, .int (nI (n))), (5, .int (nI (k)))] → W p l e R s m args below meth c H locs 0 0 Q (F0 m 50 ls []) := by
        intro fu
        induction fu with
        | zero =>
          intro k H locs ls h1 h2 w hl
          exact absurd h1 (by omega)
        | succ fu ih_50 =>
          intro k H locs ls h1 h2 w hl
          refine lv_iload_n hx hbc dX8_made_50 rfl (lv_at hl 1 rfl) ?_
          refine lv_iconst (v := nI (2)) hx hbc dX8_made_51 (by decide) ?_
          refine n_cmp_ne (tgt := 87) (by omega) (by omega) hx hbc dX8_made_52 (by decide) (fun c_52 => ?_) (fun c_52 => ?_)
          · exact absurd c_52 (by decide)
          · refine lv_iload hx hbc dX8_made_55 (lv_at hl 5 rfl) ?_
            refine lv_bipush (v := nI (64)) hx hbc dX8_made_57 (by decide) ?_
            refine n_cmp_ge (tgt := 87) (by omega) (by omega) hx hbc dX8_made_59 (by decide) (fun c_59 => ?_) (fun c_59 => ?_)
            · obtain rfl : k = 64 := by omega
              refine lv_iconst (v := nI (0)) hx hbc dX8_made_87 (by decide) ?_
              refine lv_istore (lv' := [(5, .int (nI (0))), (0, .ref (ad (0))), (1, .int (nI (2))), (2, .int (nI (j))), (3, .int (nI (j + 1))), (4, .int (nI (n)))]) hx hbc dX8_made_88 hl (by decide) rfl (fun ls hl => ?_)
              have lp_90 : ∀ (fu : Nat) (k : Nat) (H : Heap) (locs : List Loc) (ls : Array Slot), (n < k + fu) → (k ≤ n) → WB D (tyM cy) 31 cy ad skM A s (pst (sI S 0 11 (nI (kb))) (pts (cps (S.2.1 7) ((fun i => S.2.1 16 (64 * (j + 1) + i) ^^^ nI 54)) 64) 64 ((fun i => S.2.1 18 (2000 * j + i))) k) (64 + k)) H locs → lv_has ls 6 [(0, .ref (ad (0))), (1, .int (nI (2))), (2, .int (nI (j))), (3, .int (nI (j + 1))), (4, .int (nI (n))), (5, .int (nI (k)))] → W p l e R s m args below meth c H locs 0 0 Q (F0 m 90 ls []) := by
                intro fu
                induction fu with
                | zero =>
                  intro k H locs ls h1 h2 w hl
                  exact absurd h1 (by omega)
                | succ fu ih_90 =>
                  intro k H locs ls h1 h2 w hl
                  refine lv_iload hx hbc dX8_made_90 (lv_at hl 5 rfl) ?_
                  refine lv_iload hx hbc dX8_made_92 (lv_at hl 4 rfl) ?_
                  refine n_cmp_ge (tgt := 134) (by omega) (by omega) hx hbc dX8_made_94 (by decide) (fun c_94 => ?_) (fun c_94 => ?_)
                  · obtain rfl : n = k := by omega
                    refine lv_aload_n hx hbc dX8_made_134 rfl (lv_at hl 0 rfl) ?_
                    refine lv_iload_n hx hbc dX8_made_135 rfl (lv_at hl 1 rfl) ?_
                    refine lv_iconst (v := nI (1)) hx hbc dX8_made_136 (by decide) ?_
                    refine n_cmp_ne (tgt := 144) (by omega) (by omega) hx hbc dX8_made_137 (by decide) (fun c_137 => ?_) (fun c_137 => ?_)
                    · refine lv_iconst (v := nI (0)) hx hbc dX8_made_144 (by decide) ?_
                      refine wb_Vv (na := 1) (As := [.int (nI (0))]) (rest := []) hx hbc hml hg hown w E0_ok trivial w.1 Sub.self 0 (by decide) rfl rfl (k_X8_work l D cy ad (sI S 0 11 (nI (kb))) (pts (cps (S.2.1 7) ((fun i => S.2.1 16 (64 * (j + 1) + i) ^^^ nI 54)) 64) 64 ((fun i => S.2.1 18 (2000 * j + i))) n) (nI (0)) (64 + n) kb (by omega) rfl) wk_820 wk_9 wk_817 wk_819 ws_15 ⟨by decide, by decide, by decide⟩ ⟨by rw [hRf]; decide, by rw [hRl]; decide⟩ rfl hl.1 rfl (Nat.le_of_ble_eq_true rfl) dX8_made_145 ⟨Nat.zero_le _, Nat.zero_le _⟩ (fun S9 H locs hp w => ?_)
                      subst hp
                      have w : WB D (tyM cy) 31 cy ad skM A s (wrk (sI S 0 11 (nI (kb))) (nI (0)) (pts (cps (S.2.1 7) ((fun i => S.2.1 16 (64 * (j + 1) + i) ^^^ nI 54)) 64) 64 ((fun i => S.2.1 18 (2000 * j + i))) n) (64 + n) kb) H locs := w
                      refine lv_iload_n hx hbc dX8_made_148 rfl (lv_at hl 1 rfl) ?_
                      refine lv_iconst (v := nI (2)) hx hbc dX8_made_149 (by decide) ?_
                      refine n_cmp_ne (tgt := 267) (by omega) (by omega) hx hbc dX8_made_150 (by decide) (fun c_150 => ?_) (fun c_150 => ?_)
                      · exact absurd c_150 (by decide)
                      · refine lv_iconst (v := nI (0)) hx hbc dX8_made_153 (by decide) ?_
                        refine lv_istore (lv' := [(5, .int (nI (0))), (0, .ref (ad (0))), (1, .int (nI (2))), (2, .int (nI (j))), (3, .int (nI (j + 1))), (4, .int (nI (n)))]) hx hbc dX8_made_154 hl (by decide) rfl (fun ls hl => ?_)
                        have w : WB D (tyM cy) 31 cy ad skM A s (wrk (sI S 0 11 (nI (kb))) (nI (0)) (pts (cps (S.2.1 7) ((fun i => S.2.1 16 (64 * (j + 1) + i) ^^^ nI 54)) 64) 64 ((fun i => S.2.1 18 (2000 * j + i))) n) (64 + n) kb) H locs := w
                        have lp_156 : ∀ (fu : Nat) (k : Nat) (H : Heap) (locs : List Loc) (ls : Array Slot), (8 < k + fu) → (k ≤ 8) → WB D (tyM cy) 31 cy ad skM A s (sB (wrk (sI S 0 11 (nI (kb))) (nI (0)) (pts (cps (S.2.1 7) ((fun i => S.2.1 16 (64 * (j + 1) + i) ^^^ nI 54)) 64) 64 ((fun i => S.2.1 18 (2000 * j + i))) n) (64 + n) kb) 21 (cps (S.2.1 21) ((wrk (sI S 0 11 (nI (kb))) (nI (0)) (pts (cps (S.2.1 7) ((fun i => S.2.1 16 (64 * (j + 1) + i) ^^^ nI 54)) 64) 64 ((fun i => S.2.1 18 (2000 * j + i))) n) (64 + n) kb).2.1 8) k)) H locs → lv_has ls 6 [(0, .ref (ad (0))), (1, .int (nI (2))), (2, .int (nI (j))), (3, .int (nI (j + 1))), (4, .int (nI (n))), (5, .int (nI (k)))] → W p l e R s m args below meth c H locs 0 0 Q (F0 m 156 ls []) := by
                          intro fu
                          induction fu with
                          | zero =>
                            intro k H locs ls h1 h2 w hl
                            exact absurd h1 (by omega)
                          | succ fu ih_156 =>
                            intro k H locs ls h1 h2 w hl
                            refine lv_iload hx hbc dX8_made_156 (lv_at hl 5 rfl) ?_
                            refine lv_bipush (v := nI (8)) hx hbc dX8_made_158 (by decide) ?_
                            refine n_cmp_ge (tgt := 183) (by omega) (by omega) hx hbc dX8_made_160 (by decide) (fun c_160 => ?_) (fun c_160 => ?_)
                            · obtain rfl : k = 8 := by omega
                              have w : WB D (tyM cy) 31 cy ad skM A s (pst (sB (wrk (sI S 0 11 (nI (kb))) (nI (0)) (pts (cps (S.2.1 7) ((fun i => S.2.1 16 (64 * (j + 1) + i) ^^^ nI 54)) 64) 64 ((fun i => S.2.1 18 (2000 * j + i))) n) (64 + n) kb) 21 (cps (S.2.1 21) ((wrk (sI S 0 11 (nI (kb))) (nI (0)) (pts (cps (S.2.1 7) ((fun i => S.2.1 16 (64 * (j + 1) + i) ^^^ nI 54)) 64) 64 ((fun i => S.2.1 18 (2000 * j + i))) n) (64 + n) kb).2.1 8) 8)) (padM (pts (cps (S.2.1 7) ((fun i => S.2.1 16 (64 * (j + 1) + i) ^^^ nI 54)) 64) 64 ((fun i => S.2.1 18 (2000 * j + i))) n) (64 + n)) 0) H locs := WB_cast w (pst_id _ _ 0 rfl rfl)
                              refine lv_iconst (v := nI (0)) hx hbc dX8_made_183 (by decide) ?_
                              refine lv_istore (lv' := [(5, .int (nI (0))), (0, .ref (ad (0))), (1, .int (nI (2))), (2, .int (nI (j))), (3, .int (nI (j + 1))), (4, .int (nI (n)))]) hx hbc dX8_made_184 hl (by decide) rfl (fun ls hl => ?_)
                              have lp_186 : ∀ (fu : Nat) (k : Nat) (H : Heap) (locs : List Loc) (ls : Array Slot), (64 < k + fu) → (k ≤ 64) → WB D (tyM cy) 31 cy ad skM A s (pst (sB (wrk (sI S 0 11 (nI (kb))) (nI (0)) (pts (cps (S.2.1 7) ((fun i => S.2.1 16 (64 * (j + 1) + i) ^^^ nI 54)) 64) 64 ((fun i => S.2.1 18 (2000 * j + i))) n) (64 + n) kb) 21 (cps (S.2.1 21) ((wrk (sI S 0 11 (nI (kb))) (nI (0)) (pts (cps (S.2.1 7) ((fun i => S.2.1 16 (64 * (j + 1) + i) ^^^ nI 54)) 64) 64 ((fun i => S.2.1 18 (2000 * j + i))) n) (64 + n) kb).2.1 8) 8)) (cps (padM (pts (cps (S.2.1 7) ((fun i => S.2.1 16 (64 * (j + 1) + i) ^^^ nI 54)) 64) 64 ((fun i => S.2.1 18 (2000 * j + i))) n) (64 + n)) ((fun i => S.2.1 16 (64 * (j + 1) + i) ^^^ nI 92)) k) k) H locs → lv_has ls 6 [(0, .ref (ad (0))), (1, .int (nI (2))), (2, .int (nI (j))), (3, .int (nI (j + 1))), (4, .int (nI (n))), (5, .int (nI (k)))] → W p l e R s m args below meth c H locs 0 0 Q (F0 m 186 ls []) := by
                                intro fu
                                induction fu with
                                | zero =>
                                  intro k H locs ls h1 h2 w hl
                                  exact absurd h1 (by omega)
                                | succ fu ih_186 =>
                                  intro k H locs ls h1 h2 w hl
                                  refine lv_iload hx hbc dX8_made_186 (lv_at hl 5 rfl) ?_
                                  refine lv_bipush (v := nI (64)) hx hbc dX8_made_188 (by decide) ?_
                                  refine n_cmp_ge (tgt := 218) (by omega) (by omega) hx hbc dX8_made_190 (by decide) (fun c_190 => ?_) (fun c_190 => ?_)
                                  · obtain rfl : k = 64 := by omega
                                    refine lv_iconst (v := nI (0)) hx hbc dX8_made_218 (by decide) ?_
                                    refine lv_istore (lv' := [(5, .int (nI (0))), (0, .ref (ad (0))), (1, .int (nI (2))), (2, .int (nI (j))), (3, .int (nI (j + 1))), (4, .int (nI (n)))]) hx hbc dX8_made_219 hl (by decide) rfl (fun ls hl => ?_)
                                    have lp_221 : ∀ (fu : Nat) (k : Nat) (H : Heap) (locs : List Loc) (ls : Array Slot), (32 < k + fu) → (k ≤ 32) → WB D (tyM cy) 31 cy ad skM A s (pst (sB (wrk (sI S 0 11 (nI (kb))) (nI (0)) (pts (cps (S.2.1 7) ((fun i => S.2.1 16 (64 * (j + 1) + i) ^^^ nI 54)) 64) 64 ((fun i => S.2.1 18 (2000 * j + i))) n) (64 + n) kb) 21 (cps (S.2.1 21) ((wrk (sI S 0 11 (nI (kb))) (nI (0)) (pts (cps (S.2.1 7) ((fun i => S.2.1 16 (64 * (j + 1) + i) ^^^ nI 54)) 64) 64 ((fun i => S.2.1 18 (2000 * j + i))) n) (64 + n) kb).2.1 8) 8)) (pts (cps (padM (pts (cps (S.2.1 7) ((fun i => S.2.1 16 (64 * (j + 1) + i) ^^^ nI 54)) 64) 64 ((fun i => S.2.1 18 (2000 * j + i))) n) (64 + n)) ((fun i => S.2.1 16 (64 * (j + 1) + i) ^^^ nI 92)) 64) 64 (byH (cps (S.2.1 21) ((wrk (sI S 0 11 (nI (kb))) (nI (0)) (pts (cps (S.2.1 7) ((fun i => S.2.1 16 (64 * (j + 1) + i) ^^^ nI 54)) 64) 64 ((fun i => S.2.1 18 (2000 * j + i))) n) (64 + n) kb).2.1 8) 8)) k) (64 + k)) H locs → lv_has ls 6 [(0, .ref (ad (0))), (1, .int (nI (2))), (2, .int (nI (j))), (3, .int (nI (j + 1))), (4, .int (nI (n))), (5, .int (nI (k)))] → W p l e R s m args below meth c H locs 0 0 Q (F0 m 221 ls []) := by
                                      intro fu
                                      induction fu with
                                      | zero =>
                                        intro k H locs ls h1 h2 w hl
                                        exact absurd h1 (by omega)
                                      | succ fu ih_221 =>
                                        intro k H locs ls h1 h2 w hl
                                        refine lv_iload hx hbc dX8_made_221 (lv_at hl 5 rfl) ?_
                                        refine lv_bipush (v := nI (32)) hx hbc dX8_made_223 (by decide) ?_
                                        refine n_cmp_ge (tgt := 262) (by omega) (by omega) hx hbc dX8_made_225 (by decide) (fun c_225 => ?_) (fun c_225 => ?_)
                                        · obtain rfl : k = 32 := by omega
                                          refine lv_aload_n hx hbc dX8_made_262 rfl (lv_at hl 0 rfl) ?_
                                          refine lv_iconst (v := nI (0)) hx hbc dX8_made_263 (by decide) ?_
                                          refine wb_Vv (na := 1) (As := [.int (nI (0))]) (rest := []) hx hbc hml hg hown w E0_ok trivial w.1 Sub.self 0 (by decide) rfl rfl (k_X8_work l D cy ad (sB (wrk (sI S 0 11 (nI (kb))) (nI (0)) (pts (cps (S.2.1 7) ((fun i => S.2.1 16 (64 * (j + 1) + i) ^^^ nI 54)) 64) 64 ((fun i => S.2.1 18 (2000 * j + i))) n) (64 + n) kb) 21 (cps (S.2.1 21) ((wrk (sI S 0 11 (nI (kb))) (nI (0)) (pts (cps (S.2.1 7) ((fun i => S.2.1 16 (64 * (j + 1) + i) ^^^ nI 54)) 64) 64 ((fun i => S.2.1 18 (2000 * j + i))) n) (64 + n) kb).2.1 8) 8)) (pts (cps (padM (pts (cps (S.2.1 7) ((fun i => S.2.1 16 (64 * (j + 1) + i) ^^^ nI 54)) 64) 64 ((fun i => S.2.1 18 (2000 * j + i))) n) (64 + n)) ((fun i => S.2.1 16 (64 * (j + 1) + i) ^^^ nI 92)) 64) 64 (byH (cps (S.2.1 21) ((wrk (sI S 0 11 (nI (kb))) (nI (0)) (pts (cps (S.2.1 7) ((fun i => S.2.1 16 (64 * (j + 1) + i) ^^^ nI 54)) 64) 64 ((fun i => S.2.1 18 (2000 * j + i))) n) (64 + n) kb).2.1 8) 8)) 32) (nI (0)) (64 + 32) (kb + padL (64 + n) / 64) (by omega) rfl) wk_820 wk_9 wk_817 wk_819 ws_15 ⟨by decide, by decide, by decide⟩ ⟨by rw [hRf]; decide, by rw [hRl]; decide⟩ rfl hl.1 rfl (Nat.le_of_ble_eq_true rfl) dX8_made_264 ⟨Nat.zero_le _, Nat.zero_le _⟩ (fun S9 H locs hp w => ?_)
                                          subst hp
                                          have w : WB D (tyM cy) 31 cy ad skM A s (wrk (sB (wrk (sI S 0 11 (nI (kb))) (nI (0)) (pts (cps (S.2.1 7) ((fun i => S.2.1 16 (64 * (j + 1) + i) ^^^ nI 54)) 64) 64 ((fun i => S.2.1 18 (2000 * j + i))) n) (64 + n) kb) 21 (cps (S.2.1 21) ((wrk (sI S 0 11 (nI (kb))) (nI (0)) (pts (cps (S.2.1 7) ((fun i => S.2.1 16 (64 * (j + 1) + i) ^^^ nI 54)) 64) 64 ((fun i => S.2.1 18 (2000 * j + i))) n) (64 + n) kb).2.1 8) 8)) (nI (0)) (pts (cps (padM (pts (cps (S.2.1 7) ((fun i => S.2.1 16 (64 * (j + 1) + i) ^^^ nI 54)) 64) 64 ((fun i => S.2.1 18 (2000 * j + i))) n) (64 + n)) ((fun i => S.2.1 16 (64 * (j + 1) + i) ^^^ nI 92)) 64) 64 (byH (cps (S.2.1 21) ((wrk (sI S 0 11 (nI (kb))) (nI (0)) (pts (cps (S.2.1 7) ((fun i => S.2.1 16 (64 * (j + 1) + i) ^^^ nI 54)) 64) 64 ((fun i => S.2.1 18 (2000 * j + i))) n) (64 + n) kb).2.1 8) 8)) 32) (64 + 32) (kb + padL (64 + n) / 64)) H locs := w
                                          refine lv_aload_n hx hbc dX8_made_267 rfl (lv_at hl 0 rfl) ?_
                                          refine lv_iload_n hx hbc dX8_made_268 rfl (lv_at hl 1 rfl) ?_
                                          refine wb_Vi (na := 1) (As := [.int (nI (2))]) (rest := []) hx hbc hml hg hown w E0_ok trivial w.1 Sub.self 0 (by decide) rfl rfl (k_X8_keepDigest l D cy ad (wrk (sB (wrk (sI S 0 11 (nI (kb))) (nI (0)) (pts (cps (S.2.1 7) ((fun i => S.2.1 16 (64 * (j + 1) + i) ^^^ nI 54)) 64) 64 ((fun i => S.2.1 18 (2000 * j + i))) n) (64 + n) kb) 21 (cps (S.2.1 21) ((wrk (sI S 0 11 (nI (kb))) (nI (0)) (pts (cps (S.2.1 7) ((fun i => S.2.1 16 (64 * (j + 1) + i) ^^^ nI 54)) 64) 64 ((fun i => S.2.1 18 (2000 * j + i))) n) (64 + n) kb).2.1 8) 8)) (nI (0)) (pts (cps (padM (pts (cps (S.2.1 7) ((fun i => S.2.1 16 (64 * (j + 1) + i) ^^^ nI 54)) 64) 64 ((fun i => S.2.1 18 (2000 * j + i))) n) (64 + n)) ((fun i => S.2.1 16 (64 * (j + 1) + i) ^^^ nI 92)) 64) 64 (byH (cps (S.2.1 21) ((wrk (sI S 0 11 (nI (kb))) (nI (0)) (pts (cps (S.2.1 7) ((fun i => S.2.1 16 (64 * (j + 1) + i) ^^^ nI 54)) 64) 64 ((fun i => S.2.1 18 (2000 * j + i))) n) (64 + n) kb).2.1 8) 8)) 32) (64 + 32) (kb + padL (64 + n) / 64)) (nI (2)) d (kb + padL (64 + n) / 64 + padL (64 + 32) / 64) hd (by omega) rfl) wk_840 wk_9 wk_837 wk_839 ws_19 ⟨by decide, by decide, by decide⟩ ⟨by rw [hRf]; decide, by rw [hRl]; decide⟩ rfl hl.1 rfl (Nat.le_of_ble_eq_true rfl) dX8_made_269 ⟨Nat.zero_le _, Nat.zero_le _⟩ (fun r S9 H locs hp w => ?_)
                                          obtain ⟨hp, rfl⟩ := hp
                                          subst hp
                                          have w : WB D (tyM cy) 31 cy ad skM A s (kst (wrk (sB (wrk (sI S 0 11 (nI (kb))) (nI (0)) (pts (cps (S.2.1 7) ((fun i => S.2.1 16 (64 * (j + 1) + i) ^^^ nI 54)) 64) 64 ((fun i => S.2.1 18 (2000 * j + i))) n) (64 + n) kb) 21 (cps (S.2.1 21) ((wrk (sI S 0 11 (nI (kb))) (nI (0)) (pts (cps (S.2.1 7) ((fun i => S.2.1 16 (64 * (j + 1) + i) ^^^ nI 54)) 64) 64 ((fun i => S.2.1 18 (2000 * j + i))) n) (64 + n) kb).2.1 8) 8)) (nI (0)) (pts (cps (padM (pts (cps (S.2.1 7) ((fun i => S.2.1 16 (64 * (j + 1) + i) ^^^ nI 54)) 64) 64 ((fun i => S.2.1 18 (2000 * j + i))) n) (64 + n)) ((fun i => S.2.1 16 (64 * (j + 1) + i) ^^^ nI 92)) 64) 64 (byH (cps (S.2.1 21) ((wrk (sI S 0 11 (nI (kb))) (nI (0)) (pts (cps (S.2.1 7) ((fun i => S.2.1 16 (64 * (j + 1) + i) ^^^ nI 54)) 64) 64 ((fun i => S.2.1 18 (2000 * j + i))) n) (64 + n) kb).2.1 8) 8)) 32) (64 + 32) (kb + padL (64 + n) / 64)) (nI (2)) d (kb + padL (64 + n) / 64 + padL (64 + 32) / 64)) H locs := w
                                          exact hend _ _ _ _ _ _ ⟨rfl, rfl⟩ rfl w dX8_made_272
                                        · refine lv_aload_n hx hbc dX8_made_228 rfl (lv_at hl 0 rfl) ?_
                                          refine lv_aload_n hx hbc dX8_made_229 rfl (lv_at hl 0 rfl) ?_
                                          refine wb_gr (t := 21) hx hbc hg hown w inG_X8 0 (by decide) rfl rfl 26 (by decide) rfl wk_693 dX8_made_230 ?_
                                          refine lv_iload hx hbc dX8_made_233 (lv_at hl 5 rfl) ?_
                                          refine lv_iconst (v := nI (4)) hx hbc dX8_made_235 (by decide) ?_
                                          refine n_idiv (by omega) (by omega) (by omega) hx hbc dX8_made_236 ?_
                                          refine wb_iald (k := k / 4) (v := (cps (S.2.1 21) ((wrk (sI S 0 11 (nI (kb))) (nI (0)) (pts (cps (S.2.1 7) ((fun i => S.2.1 16 (64 * (j + 1) + i) ^^^ nI 54)) 64) 64 ((fun i => S.2.1 18 (2000 * j + i))) n) (64 + n) kb).2.1 8) 8) (k / 4)) hx hbc w 21 (by decide) rfl 0 rfl rfl (by omega) (by decide) rfl dX8_made_237 ?_
                                          refine lv_bipush (v := nI (24)) hx hbc dX8_made_238 (by decide) ?_
                                          refine lv_bipush (v := nI (8)) hx hbc dX8_made_240 (by decide) ?_
                                          refine lv_iload hx hbc dX8_made_242 (lv_at hl 5 rfl) ?_
                                          refine lv_iconst (v := nI (4)) hx hbc dX8_made_244 (by decide) ?_
                                          refine n_irem (by omega) (by omega) (by omega) hx hbc dX8_made_245 ?_
                                          refine n_imul hx hbc dX8_made_246 ?_
                                          refine n_isub (by omega) hx hbc dX8_made_247 ?_
                                          refine lv_iushr hx hbc dX8_made_248 rfl ?_
                                          refine lv_sipush (v := nI (255)) hx hbc dX8_made_249 (by decide) ?_
                                          refine lv_iand hx hbc dX8_made_252 ?_
                                          refine wb_Vv (na := 1) (As := [.int (((((cps (S.2.1 21) ((wrk (sI S 0 11 (nI (kb))) (nI (0)) (pts (cps (S.2.1 7) ((fun i => S.2.1 16 (64 * (j + 1) + i) ^^^ nI 54)) 64) 64 ((fun i => S.2.1 18 (2000 * j + i))) n) (64 + n) kb).2.1 8) 8) (k / 4)).toUInt32 >>> ((nI (24 - (8 * (k % 4)))).toUInt32 &&& Int32.toUInt32 31)).toInt32) &&& (nI (255)))]) (rest := []) hx hbc hml hg hown w E0_ok trivial w.1 Sub.self 0 (by decide) rfl rfl (k_X8_put l D cy ad (pst (sB (wrk (sI S 0 11 (nI (kb))) (nI (0)) (pts (cps (S.2.1 7) ((fun i => S.2.1 16 (64 * (j + 1) + i) ^^^ nI 54)) 64) 64 ((fun i => S.2.1 18 (2000 * j + i))) n) (64 + n) kb) 21 (cps (S.2.1 21) ((wrk (sI S 0 11 (nI (kb))) (nI (0)) (pts (cps (S.2.1 7) ((fun i => S.2.1 16 (64 * (j + 1) + i) ^^^ nI 54)) 64) 64 ((fun i => S.2.1 18 (2000 * j + i))) n) (64 + n) kb).2.1 8) 8)) (pts (cps (padM (pts (cps (S.2.1 7) ((fun i => S.2.1 16 (64 * (j + 1) + i) ^^^ nI 54)) 64) 64 ((fun i => S.2.1 18 (2000 * j + i))) n) (64 + n)) ((fun i => S.2.1 16 (64 * (j + 1) + i) ^^^ nI 92)) 64) 64 (byH (cps (S.2.1 21) ((wrk (sI S 0 11 (nI (kb))) (nI (0)) (pts (cps (S.2.1 7) ((fun i => S.2.1 16 (64 * (j + 1) + i) ^^^ nI 54)) 64) 64 ((fun i => S.2.1 18 (2000 * j + i))) n) (64 + n) kb).2.1 8) 8)) k) (64 + k)) (((((cps (S.2.1 21) ((wrk (sI S 0 11 (nI (kb))) (nI (0)) (pts (cps (S.2.1 7) ((fun i => S.2.1 16 (64 * (j + 1) + i) ^^^ nI 54)) 64) 64 ((fun i => S.2.1 18 (2000 * j + i))) n) (64 + n) kb).2.1 8) 8) (k / 4)).toUInt32 >>> ((nI (24 - (8 * (k % 4)))).toUInt32 &&& Int32.toUInt32 31)).toInt32) &&& (nI (255))) (64 + k) rfl (by omega)) wk_816 wk_9 wk_813 wk_815 ws_14 ⟨by decide, by decide, by decide⟩ ⟨by rw [hRf]; decide, by rw [hRl]; decide⟩ rfl hl.1 rfl (Nat.le_of_ble_eq_true rfl) dX8_made_253 ⟨Nat.zero_le _, Nat.zero_le _⟩ (fun S9 H locs hp w => ?_)
                                          subst hp
                                          have w := WB_cast w (pst_pst _ _ _ _ _)
                                          have w : WB D (tyM cy) 31 cy ad skM A s (pst (sB (wrk (sI S 0 11 (nI (kb))) (nI (0)) (pts (cps (S.2.1 7) ((fun i => S.2.1 16 (64 * (j + 1) + i) ^^^ nI 54)) 64) 64 ((fun i => S.2.1 18 (2000 * j + i))) n) (64 + n) kb) 21 (cps (S.2.1 21) ((wrk (sI S 0 11 (nI (kb))) (nI (0)) (pts (cps (S.2.1 7) ((fun i => S.2.1 16 (64 * (j + 1) + i) ^^^ nI 54)) 64) 64 ((fun i => S.2.1 18 (2000 * j + i))) n) (64 + n) kb).2.1 8) 8)) (upd (pts (cps (padM (pts (cps (S.2.1 7) ((fun i => S.2.1 16 (64 * (j + 1) + i) ^^^ nI 54)) 64) 64 ((fun i => S.2.1 18 (2000 * j + i))) n) (64 + n)) ((fun i => S.2.1 16 (64 * (j + 1) + i) ^^^ nI 92)) 64) 64 (byH (cps (S.2.1 21) ((wrk (sI S 0 11 (nI (kb))) (nI (0)) (pts (cps (S.2.1 7) ((fun i => S.2.1 16 (64 * (j + 1) + i) ^^^ nI 54)) 64) 64 ((fun i => S.2.1 18 (2000 * j + i))) n) (64 + n) kb).2.1 8) 8)) k) (64 + k) (((((cps (S.2.1 21) ((wrk (sI S 0 11 (nI (kb))) (nI (0)) (pts (cps (S.2.1 7) ((fun i => S.2.1 16 (64 * (j + 1) + i) ^^^ nI 54)) 64) 64 ((fun i => S.2.1 18 (2000 * j + i))) n) (64 + n) kb).2.1 8) 8) (k / 4)).toUInt32 >>> ((nI (24 - (8 * (k % 4)))).toUInt32 &&& Int32.toUInt32 31)).toInt32) &&& (nI (255)))) (64 + k + 1)) H locs := w
                                          refine lv_iinc (v := nI (k + 1)) (lv' := [(5, .int (nI (k + 1))), (0, .ref (ad (0))), (1, .int (nI (2))), (2, .int (nI (j))), (3, .int (nI (j + 1))), (4, .int (nI (n)))]) hx hbc dX8_made_256 hl (k := 5) rfl (ni_inc _ _) (by decide) rfl (fun ls hl => ?_)
                                          refine lv_goto (tgt := 221) hx hbc dX8_made_259 (by decide) ?_
                                          exact ih_221 (k + 1) _ _ _ (by omega) (by omega) w (lv_sub hl [1, 2, 3, 4, 5, 0] rfl)
                                    exact lp_221 33 0 _ _ _ (by omega) (by omega) w (lv_sub hl [1, 2, 3, 4, 5, 0] rfl)
                                  · refine lv_aload_n hx hbc dX8_made_193 rfl (lv_at hl 0 rfl) ?_
                                    refine lv_aload_n hx hbc dX8_made_194 rfl (lv_at hl 0 rfl) ?_
                                    refine wb_gr (t := 16) hx hbc hg hown w inG_X8 0 (by decide) rfl rfl 21 (by decide) rfl wk_688 dX8_made_195 ?_
                                    refine lv_bipush (v := nI (64)) hx hbc dX8_made_198 (by decide) ?_
                                    refine lv_iload_n hx hbc dX8_made_200 rfl (lv_at hl 3 rfl) ?_
                                    refine n_imul hx hbc dX8_made_201 ?_
                                    refine lv_iload hx hbc dX8_made_202 (lv_at hl 5 rfl) ?_
                                    refine n_iadd hx hbc dX8_made_204 ?_
                                    refine wb_iald (k := (64 * (j + 1)) + k) (v := (S.2.1 16) ((64 * (j + 1)) + k)) hx hbc w 16 (by decide) rfl 0 rfl rfl (by omega) (by decide) rfl dX8_made_205 ?_
                                    refine lv_bipush (v := nI (92)) hx hbc dX8_made_206 (by decide) ?_
                                    refine lv_ixor hx hbc dX8_made_208 ?_
                                    refine wb_Vv (na := 1) (As := [.int (((S.2.1 16) ((64 * (j + 1)) + k)) ^^^ (nI (92)))]) (rest := []) hx hbc hml hg hown w E0_ok trivial w.1 Sub.self 0 (by decide) rfl rfl (k_X8_put l D cy ad (pst (sB (wrk (sI S 0 11 (nI (kb))) (nI (0)) (pts (cps (S.2.1 7) ((fun i => S.2.1 16 (64 * (j + 1) + i) ^^^ nI 54)) 64) 64 ((fun i => S.2.1 18 (2000 * j + i))) n) (64 + n) kb) 21 (cps (S.2.1 21) ((wrk (sI S 0 11 (nI (kb))) (nI (0)) (pts (cps (S.2.1 7) ((fun i => S.2.1 16 (64 * (j + 1) + i) ^^^ nI 54)) 64) 64 ((fun i => S.2.1 18 (2000 * j + i))) n) (64 + n) kb).2.1 8) 8)) (cps (padM (pts (cps (S.2.1 7) ((fun i => S.2.1 16 (64 * (j + 1) + i) ^^^ nI 54)) 64) 64 ((fun i => S.2.1 18 (2000 * j + i))) n) (64 + n)) ((fun i => S.2.1 16 (64 * (j + 1) + i) ^^^ nI 92)) k) k) (((S.2.1 16) ((64 * (j + 1)) + k)) ^^^ (nI (92))) k rfl (by omega)) wk_816 wk_9 wk_813 wk_815 ws_14 ⟨by decide, by decide, by decide⟩ ⟨by rw [hRf]; decide, by rw [hRl]; decide⟩ rfl hl.1 rfl (Nat.le_of_ble_eq_true rfl) dX8_made_209 ⟨Nat.zero_le _, Nat.zero_le _⟩ (fun S9 H locs hp w => ?_)
                                    subst hp
                                    have w := WB_cast w (pst_pst _ _ _ _ _)
                                    have w : WB D (tyM cy) 31 cy ad skM A s (pst (sB (wrk (sI S 0 11 (nI (kb))) (nI (0)) (pts (cps (S.2.1 7) ((fun i => S.2.1 16 (64 * (j + 1) + i) ^^^ nI 54)) 64) 64 ((fun i => S.2.1 18 (2000 * j + i))) n) (64 + n) kb) 21 (cps (S.2.1 21) ((wrk (sI S 0 11 (nI (kb))) (nI (0)) (pts (cps (S.2.1 7) ((fun i => S.2.1 16 (64 * (j + 1) + i) ^^^ nI 54)) 64) 64 ((fun i => S.2.1 18 (2000 * j + i))) n) (64 + n) kb).2.1 8) 8)) (upd (cps (padM (pts (cps (S.2.1 7) ((fun i => S.2.1 16 (64 * (j + 1) + i) ^^^ nI 54)) 64) 64 ((fun i => S.2.1 18 (2000 * j + i))) n) (64 + n)) ((fun i => S.2.1 16 (64 * (j + 1) + i) ^^^ nI 92)) k) k (((S.2.1 16) ((64 * (j + 1)) + k)) ^^^ (nI (92)))) (k + 1)) H locs := w
                                    refine lv_iinc (v := nI (k + 1)) (lv' := [(5, .int (nI (k + 1))), (0, .ref (ad (0))), (1, .int (nI (2))), (2, .int (nI (j))), (3, .int (nI (j + 1))), (4, .int (nI (n)))]) hx hbc dX8_made_212 hl (k := 5) rfl (ni_inc _ _) (by decide) rfl (fun ls hl => ?_)
                                    refine lv_goto (tgt := 186) hx hbc dX8_made_215 (by decide) ?_
                                    exact ih_186 (k + 1) _ _ _ (by omega) (by omega) w (lv_sub hl [1, 2, 3, 4, 5, 0] rfl)
                              exact lp_186 65 0 _ _ _ (by omega) (by omega) w (lv_sub hl [1, 2, 3, 4, 5, 0] rfl)
                            · refine lv_aload_n hx hbc dX8_made_163 rfl (lv_at hl 0 rfl) ?_
                              refine wb_gr (t := 21) hx hbc hg hown w inG_X8 0 (by decide) rfl rfl 26 (by decide) rfl wk_693 dX8_made_164 ?_
                              refine lv_iload hx hbc dX8_made_167 (lv_at hl 5 rfl) ?_
                              refine lv_aload_n hx hbc dX8_made_169 rfl (lv_at hl 0 rfl) ?_
                              refine wb_gr (t := 8) hx hbc hg hown w inG_X8 0 (by decide) rfl rfl 9 (by decide) rfl wk_676 dX8_made_170 ?_
                              refine lv_iload hx hbc dX8_made_173 (lv_at hl 5 rfl) ?_
                              refine wb_iald (k := k) (v := ((wrk (sI S 0 11 (nI (kb))) (nI (0)) (pts (cps (S.2.1 7) ((fun i => S.2.1 16 (64 * (j + 1) + i) ^^^ nI 54)) 64) 64 ((fun i => S.2.1 18 (2000 * j + i))) n) (64 + n) kb).2.1 8) k) hx hbc w 8 (by decide) rfl 0 rfl rfl (by omega) (by decide) rfl dX8_made_175 ?_
                              refine wb_iast (k := k) (f := cps (S.2.1 21) ((wrk (sI S 0 11 (nI (kb))) (nI (0)) (pts (cps (S.2.1 7) ((fun i => S.2.1 16 (64 * (j + 1) + i) ^^^ nI 54)) 64) 64 ((fun i => S.2.1 18 (2000 * j + i))) n) (64 + n) kb).2.1 8) k) hx hbc w 21 (by decide) rfl 0 rfl rfl (by omega) (by decide) rfl rfl dX8_made_176 (fun H locs w => ?_)
                              refine lv_iinc (v := nI (k + 1)) (lv' := [(5, .int (nI (k + 1))), (0, .ref (ad (0))), (1, .int (nI (2))), (2, .int (nI (j))), (3, .int (nI (j + 1))), (4, .int (nI (n)))]) hx hbc dX8_made_177 hl (k := 5) rfl (ni_inc _ _) (by decide) rfl (fun ls hl => ?_)
                              refine lv_goto (tgt := 156) hx hbc dX8_made_180 (by decide) ?_
                              exact ih_156 (k + 1) _ _ _ (by omega) (by omega) (WB_cast w (by rw [sB_sB]; rfl)) (lv_sub hl [1, 2, 3, 4, 5, 0] rfl)
                        exact lp_156 9 0 _ _ _ (by omega) (by omega) (WB_cast w (sB_beg _ _ _ rfl)) (lv_sub hl [1, 2, 3, 4, 5, 0] rfl)
                    · exact absurd c_137 (by decide)
                  · refine lv_aload_n hx hbc dX8_made_97 rfl (lv_at hl 0 rfl) ?_
                    refine lv_iload_n hx hbc dX8_made_98 rfl (lv_at hl 2 rfl) ?_
                    refine lv_if_ge (tgt := 112) hx hbc dX8_made_99 (by decide) (fun c_99 => ?_) (fun c_99 => ?_)
                    · refine lv_aload_n hx hbc dX8_made_112 rfl (lv_at hl 0 rfl) ?_
                      refine wb_gr (t := 18) hx hbc hg hown w inG_X8 0 (by decide) rfl rfl 23 (by decide) rfl wk_690 dX8_made_113 ?_
                      refine lv_sipush (v := nI (2000)) hx hbc dX8_made_116 (by decide) ?_
                      refine lv_iload_n hx hbc dX8_made_119 rfl (lv_at hl 2 rfl) ?_
                      refine n_imul hx hbc dX8_made_120 ?_
                      refine lv_iload hx hbc dX8_made_121 (lv_at hl 5 rfl) ?_
                      refine n_iadd hx hbc dX8_made_123 ?_
                      refine wb_iald (k := (2000 * j) + k) (v := (S.2.1 18) ((2000 * j) + k)) hx hbc w 18 (by decide) rfl 0 rfl rfl (by omega) (by decide) rfl dX8_made_124 ?_
                      refine wb_Vv (na := 1) (As := [.int ((S.2.1 18) ((2000 * j) + k))]) (rest := []) hx hbc hml hg hown w E0_ok trivial w.1 Sub.self 0 (by decide) rfl rfl (k_X8_put l D cy ad (pst (sI S 0 11 (nI (kb))) (pts (cps (S.2.1 7) ((fun i => S.2.1 16 (64 * (j + 1) + i) ^^^ nI 54)) 64) 64 ((fun i => S.2.1 18 (2000 * j + i))) k) (64 + k)) ((S.2.1 18) ((2000 * j) + k)) (64 + k) rfl (by omega)) wk_816 wk_9 wk_813 wk_815 ws_14 ⟨by decide, by decide, by decide⟩ ⟨by rw [hRf]; decide, by rw [hRl]; decide⟩ rfl hl.1 rfl (Nat.le_of_ble_eq_true rfl) dX8_made_125 ⟨Nat.zero_le _, Nat.zero_le _⟩ (fun S9 H locs hp w => ?_)
                      subst hp
                      have w := WB_cast w (pst_pst _ _ _ _ _)
                      have w : WB D (tyM cy) 31 cy ad skM A s (pst (sI S 0 11 (nI (kb))) (upd (pts (cps (S.2.1 7) ((fun i => S.2.1 16 (64 * (j + 1) + i) ^^^ nI 54)) 64) 64 ((fun i => S.2.1 18 (2000 * j + i))) k) (64 + k) ((S.2.1 18) ((2000 * j) + k))) (64 + k + 1)) H locs := w
                      refine lv_iinc (v := nI (k + 1)) (lv' := [(5, .int (nI (k + 1))), (0, .ref (ad (0))), (1, .int (nI (2))), (2, .int (nI (j))), (3, .int (nI (j + 1))), (4, .int (nI (n)))]) hx hbc dX8_made_128 hl (k := 5) rfl (ni_inc _ _) (by decide) rfl (fun ls hl => ?_)
                      refine lv_goto (tgt := 90) hx hbc dX8_made_131 (by decide) ?_
                      exact ih_90 (k + 1) _ _ _ (by omega) (by omega) w (lv_sub hl [1, 2, 3, 4, 5, 0] rfl)
                    · exact absurd (nI_pos' (by omega)) c_99
              exact lp_90 (n + 1) 0 _ _ _ (by omega) (by omega) w (lv_sub hl [1, 2, 3, 4, 5, 0] rfl)
            · refine lv_aload_n hx hbc dX8_made_62 rfl (lv_at hl 0 rfl) ?_
              refine lv_aload_n hx hbc dX8_made_63 rfl (lv_at hl 0 rfl) ?_
              refine wb_gr (t := 16) hx hbc hg hown w inG_X8 0 (by decide) rfl rfl 21 (by decide) rfl wk_688 dX8_made_64 ?_
              refine lv_bipush (v := nI (64)) hx hbc dX8_made_67 (by decide) ?_
              refine lv_iload_n hx hbc dX8_made_69 rfl (lv_at hl 3 rfl) ?_
              refine n_imul hx hbc dX8_made_70 ?_
              refine lv_iload hx hbc dX8_made_71 (lv_at hl 5 rfl) ?_
              refine n_iadd hx hbc dX8_made_73 ?_
              refine wb_iald (k := (64 * (j + 1)) + k) (v := (S.2.1 16) ((64 * (j + 1)) + k)) hx hbc w 16 (by decide) rfl 0 rfl rfl (by omega) (by decide) rfl dX8_made_74 ?_
              refine lv_bipush (v := nI (54)) hx hbc dX8_made_75 (by decide) ?_
              refine lv_ixor hx hbc dX8_made_77 ?_
              refine wb_Vv (na := 1) (As := [.int (((S.2.1 16) ((64 * (j + 1)) + k)) ^^^ (nI (54)))]) (rest := []) hx hbc hml hg hown w E0_ok trivial w.1 Sub.self 0 (by decide) rfl rfl (k_X8_put l D cy ad (pst (sI S 0 11 (nI (kb))) (cps (S.2.1 7) ((fun i => S.2.1 16 (64 * (j + 1) + i) ^^^ nI 54)) k) k) (((S.2.1 16) ((64 * (j + 1)) + k)) ^^^ (nI (54))) k rfl (by omega)) wk_816 wk_9 wk_813 wk_815 ws_14 ⟨by decide, by decide, by decide⟩ ⟨by rw [hRf]; decide, by rw [hRl]; decide⟩ rfl hl.1 rfl (Nat.le_of_ble_eq_true rfl) dX8_made_78 ⟨Nat.zero_le _, Nat.zero_le _⟩ (fun S9 H locs hp w => ?_)
              subst hp
              have w := WB_cast w (pst_pst _ _ _ _ _)
              have w : WB D (tyM cy) 31 cy ad skM A s (pst (sI S 0 11 (nI (kb))) (upd (cps (S.2.1 7) ((fun i => S.2.1 16 (64 * (j + 1) + i) ^^^ nI 54)) k) k (((S.2.1 16) ((64 * (j + 1)) + k)) ^^^ (nI (54)))) (k + 1)) H locs := w
              refine lv_iinc (v := nI (k + 1)) (lv' := [(5, .int (nI (k + 1))), (0, .ref (ad (0))), (1, .int (nI (2))), (2, .int (nI (j))), (3, .int (nI (j + 1))), (4, .int (nI (n)))]) hx hbc dX8_made_81 hl (k := 5) rfl (ni_inc _ _) (by decide) rfl (fun ls hl => ?_)
              refine lv_goto (tgt := 50) hx hbc dX8_made_84 (by decide) ?_
              exact ih_50 (k + 1) _ _ _ (by omega) (by omega) w (lv_sub hl [1, 2, 3, 4, 5, 0] rfl)
      exact lp_50 65 0 _ _ _ (by omega) (by omega) w (lv_sub hl [3, 4, 5, 2, 1, 0] rfl)
  · exact absurd (nI_pos' (by omega)) c_5
