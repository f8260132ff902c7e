set_option maxHeartbeats 4000000 in
set_option maxRecDepth 100000 in
theorem k_X8_layLeaf (l : Launch) (D : va_G) (cy : Nat → ClassId) (ad : Nat → Nat) (S : wS) (tr lf : Nat) (x : Int32) (t : Nat) (ht : S.1 0 12 = nI t) (htr : tr < 4) (hlf : lf < 12) (ht2 : t ≤ 40) : CtV l yX8_layLeaf (Cond.code yX8_layLeaf cX8_layLeaf 6 none :: wsG) 0 0 [.ref (ad (0)), .int (nI (tr)), .int (nI (lf)), .int (x)] D (tyM cy) 31 cy ad skM E0 (S) (fun S' => S' = lyS S (12 * tr + lf) x t) := by
  refine CtV_of (by decide) (Nat.le_of_ble_eq_true rfl) ?_
  intro p e s m args below meth c A ls R Q hB hRf hRl hend
  obtain ⟨hx, hbc, hr, hg, hown, hml, hlk, w, hE, hl⟩ := hB
  have hl : lv_has ls 6 [(0, .ref (ad (0))), (1, .int (nI (tr))), (2, .int (nI (lf))), (3, .int (x))] := hl
  refine lv_bipush (v := nI (12)) hx hbc dX8_layLeaf_0 (by decide) ?_
  refine lv_iload_n hx hbc dX8_layLeaf_2 rfl (lv_at hl 1 rfl) ?_
  refine n_imul hx hbc dX8_layLeaf_3 ?_
  refine lv_iload_n hx hbc dX8_layLeaf_4 rfl (lv_at hl 2 rfl) ?_
  refine n_iadd hx hbc dX8_layLeaf_5 ?_
  refine lv_istore (lv' := [(4, .int (nI ((12 * tr) + lf))), (0, .ref (ad (0))), (1, .int (nI (tr))), (2, .int (nI (lf))), (3, .int (x))]) hx hbc dX8_layLeaf_6 hl (by decide) rfl (fun ls hl => ?_)
  refine lv_aload_n hx hbc dX8_layLeaf_8 rfl (lv_at hl 1 rfl) ?_
  refine wb_gr (t := 23) hx hbc hg hown w inG_X8 0 (by decide) rfl rfl 28 (by decide) rfl wk_695 dX8_layLeaf_9 ?_
  refine lv_iload hx hbc dX8_layLeaf_12 (lv_at hl 0 rfl) ?_
  refine lv_iload_n hx hbc dX8_layLeaf_14 rfl (lv_at hl 4 rfl) ?_
  refine wb_iast (k := (12 * tr) + lf) (f := S.2.1 23) hx hbc w 23 (by decide) rfl 0 rfl rfl (by omega) (by decide) rfl rfl dX8_layLeaf_15 (fun H locs w => ?_)
  refine lv_aload_n hx hbc dX8_layLeaf_16 rfl (lv_at hl 1 rfl) ?_
  refine wb_gr (t := 24) hx hbc hg hown w inG_X8 0 (by decide) rfl rfl 29 (by decide) rfl wk_696 dX8_layLeaf_17 ?_
  refine lv_iload hx hbc dX8_layLeaf_20 (lv_at hl 0 rfl) ?_
  refine lv_aload_n hx hbc dX8_layLeaf_22 rfl (lv_at hl 1 rfl) ?_
  refine wb_gi (v := nI (t)) hx hbc hg hown w inG_X8 0 (by decide) rfl rfl 12 (by decide) rfl wk_679 ht dX8_layLeaf_23 ?_
  refine wb_iast (k := (12 * tr) + lf) (f := S.2.1 24) hx hbc w 24 (by decide) rfl 0 rfl rfl (by omega) (by decide) rfl rfl dX8_layLeaf_26 (fun H locs w => ?_)
  refine lv_iconst (v := nI (0)) hx hbc dX8_layLeaf_27 (by decide) ?_
  refine lv_istore (lv' := [(5, .int (nI (0))), (4, .int (nI ((12 * tr) + lf))), (0, .ref (ad (0))), (1, .int (nI (tr))), (2, .int (nI (lf))), (3, .int (x))]) hx hbc dX8_layLeaf_28 hl (by decide) rfl (fun ls hl => ?_)
  have lp_30 : ∀ (fu : Nat) (k : Nat) (H : Heap) (locs : List Loc) (ls : Array Slot), (t < k + fu) → (k ≤ t) → WB D (tyM cy) 31 cy ad skM A s (sB (sB (sB S 23 (upd (S.2.1 23) (12 * tr + lf) x)) 24 (upd (S.2.1 24) (12 * tr + lf) (nI t))) 25 (pts (S.2.1 25) (40 * (12 * tr + lf)) (S.2.1 10) k)) H locs → lv_has ls 6 [(0, .ref (ad (0))), (4, .int (nI (12 * tr + lf))), (5, .int (nI (k)))] → W p l e R s m args below meth c H locs 0 0 Q (F0 m 30 ls []) := by
    intro fu
    induction fu with
    | zero =>
      intro k H locs ls h1 h2 w hl
      exact absurd h1 (by omega)
    | succ fu ih_30 =>
      intro k H locs ls h1 h2 w hl
      refine lv_iload hx hbc dX8_layLeaf_30 (lv_at hl 2 rfl) ?_
      refine lv_aload_n hx hbc dX8_layLeaf_32 rfl (lv_at hl 0 rfl) ?_
      refine wb_gi (v := nI (t)) hx hbc hg hown w inG_X8 0 (by decide) rfl rfl 12 (by decide) rfl wk_679 ht dX8_layLeaf_33 ?_
      refine n_cmp_ge (tgt := 65) (by omega) (by omega) hx hbc dX8_layLeaf_36 (by decide) (fun c_36 => ?_) (fun c_36 => ?_)
      · obtain rfl : t = k := by omega
        refine lv_aload_n hx hbc dX8_layLeaf_65 rfl (lv_at hl 0 rfl) ?_
        refine lv_iconst (v := nI (0)) hx hbc dX8_layLeaf_66 (by decide) ?_
        refine wb_pi (v := nI (0)) hx hbc hg hown w inG_X8 tyX8 tyX8_ok nmX8 0 (by decide) rfl rfl 12 (by decide) rfl wk_679 rfl rfl rfl rfl dX8_layLeaf_67 (fun H locs w => ?_)
        exact hend _ _ _ _ _ rfl w dX8_layLeaf_70
      · refine lv_aload_n hx hbc dX8_layLeaf_39 rfl (lv_at hl 0 rfl) ?_
        refine wb_gr (t := 25) hx hbc hg hown w inG_X8 0 (by decide) rfl rfl 30 (by decide) rfl wk_697 dX8_layLeaf_40 ?_
        refine lv_bipush (v := nI (40)) hx hbc dX8_layLeaf_43 (by decide) ?_
        refine lv_iload hx hbc dX8_layLeaf_45 (lv_at hl 1 rfl) ?_
        refine n_imul hx hbc dX8_layLeaf_47 ?_
        refine lv_iload hx hbc dX8_layLeaf_48 (lv_at hl 2 rfl) ?_
        refine n_iadd hx hbc dX8_layLeaf_50 ?_
        refine lv_aload_n hx hbc dX8_layLeaf_51 rfl (lv_at hl 0 rfl) ?_
        refine wb_gr (t := 10) hx hbc hg hown w inG_X8 0 (by decide) rfl rfl 13 (by decide) rfl wk_680 dX8_layLeaf_52 ?_
        refine lv_iload hx hbc dX8_layLeaf_55 (lv_at hl 2 rfl) ?_
        refine wb_iald (k := k) (v := (S.2.1 10) k) hx hbc w 10 (by decide) rfl 0 rfl rfl (by omega) (by decide) rfl dX8_layLeaf_57 ?_
        refine wb_iast (k := (40 * (12 * tr + lf)) + k) (f := pts (S.2.1 25) (40 * (12 * tr + lf)) (S.2.1 10) k) hx hbc w 25 (by decide) rfl 0 rfl rfl (by omega) (by decide) rfl rfl dX8_layLeaf_58 (fun H locs w => ?_)
        refine lv_iinc (v := nI (k + 1)) (lv' := [(5, .int (nI (k + 1))), (0, .ref (ad (0))), (4, .int (nI (12 * tr + lf)))]) hx hbc dX8_layLeaf_59 hl (k := 2) rfl (ni_inc _ _) (by decide) rfl (fun ls hl => ?_)
        refine lv_goto (tgt := 30) hx hbc dX8_layLeaf_62 (by decide) ?_
        exact ih_30 (k + 1) _ _ _ (by omega) (by omega) (WB_cast w (by rw [sB_sB]; rfl)) (lv_sub hl [1, 2, 0] rfl)
  exact lp_30 (t + 1) 0 _ _ _ (by omega) (by omega) (WB_cast w (sB_beg _ _ _ rfl)) (lv_sub hl [2, 1, 0] rfl)
set_option maxHeartbeats 4000000 in
set_option maxRecDepth 100000 in
theorem k_X8_leaf (l : Launch) (D : va_G) (cy : Nat → ClassId) (ad : Nat → Nat) (S : wS) (a x : Int32) (t : Nat) (ht : S.1 0 12 = nI t) (ht2 : t ≤ 200) (lv : Nat → Nat) (hlv : ∀ j, j < 4 → S.2.1 22 j = nI (lv j) ∧ lv j ≤ 12) : CtI l yX8_leaf (Cond.code yX8_leaf cX8_leaf 3 (some .int) :: wsG) 2 42 [.ref (ad (0)), .int (a), .int (x)] D (tyM cy) 31 cy ad skM E0 (S) (fun r S' => ((inF a (nI 0) (nI 3) = 0 ∨ inF x (nI 0) (nI 7) = 0 ∨ 40 < t) ∧ r = (-102) ∧ S' = sI S 0 0 (nI 0)) ∨ (∃ tr kd, tr ≤ 3 ∧ kd ≤ 7 ∧ a = nI tr ∧ x = nI kd ∧ t ≤ 40 ∧ lv tr = 12 ∧ r = (-103) ∧ S' = sI S 0 0 (nI 0)) ∨ (∃ tr kd, tr ≤ 3 ∧ kd ≤ 7 ∧ a = nI tr ∧ x = nI kd ∧ t ≤ 40 ∧ lv tr < 12 ∧ r = nI (lv tr + 1) ∧ S' = sB (lyS (sI S 0 0 (nI 0)) (12 * tr + lv tr) (nI kd) t) 22 (upd (S.2.1 22) tr (nI (lv tr + 1))))) := by
  refine CtI_of (by decide) (Nat.le_of_ble_eq_true rfl) ?_
  intro p e s m args below meth c A ls R Q hB hRf hRl hend
  obtain ⟨hx, hbc, hr, hg, hown, hml, hlk, w, hE, hl⟩ := hB
  have hl : lv_has ls 3 [(0, .ref (ad (0))), (1, .int (a)), (2, .int (x))] := hl
  refine lv_aload_n hx hbc dX8_leaf_0 rfl (lv_at hl 0 rfl) ?_
  refine lv_iconst (v := nI (0)) hx hbc dX8_leaf_1 (by decide) ?_
  refine wb_pi (v := nI (0)) hx hbc hg hown w inG_X8 tyX8 tyX8_ok nmX8 0 (by decide) rfl rfl 0 (by decide) rfl wk_667 rfl rfl rfl rfl dX8_leaf_2 (fun H locs w => ?_)
  refine lv_iload_n hx hbc dX8_leaf_5 rfl (lv_at hl 1 rfl) ?_
  refine wb_Si (na := 1) (As := [.int (a)]) (rest := []) hx hbc hml hg hown w E0_ok trivial w.1 Sub.none (k_X8_isTree l D cy ad (sI S 0 0 (nI (0))) a) wk_888 wk_9 wk_886 wk_887 ⟨by decide, by decide, by decide⟩ ⟨by rw [hRf]; decide, by rw [hRl]; decide⟩ rfl hl.1 rfl (Nat.le_of_ble_eq_true rfl) dX8_leaf_6 ⟨Nat.zero_le _, Nat.zero_le _⟩ (fun r S9 H locs hp w => ?_)
  subst hp
  refine lv_if_eq (tgt := 31) hx hbc dX8_leaf_9 (by decide) (fun c_9 => ?_) (fun c_9 => ?_)
  · refine lv_bipush (v := (-102)) hx hbc dX8_leaf_31 (by decide) ?_
    exact hend _ _ _ _ _ _ (Or.inl ⟨Or.inl c_9, rfl, rfl⟩) rfl w dX8_leaf_33
  · obtain ⟨tr, htr, rfl⟩ := inF_nzb c_9 (by decide)
    obtain ⟨hl1, hl2⟩ := hlv tr (by omega)
    refine lv_iload_n hx hbc dX8_leaf_12 rfl (lv_at hl 2 rfl) ?_
    refine lv_iconst (v := nI (0)) hx hbc dX8_leaf_13 (by decide) ?_
    refine lv_bipush (v := nI (7)) hx hbc dX8_leaf_14 (by decide) ?_
    refine wb_Si (na := 3) (As := [.int (x), .int (nI (0)), .int (nI (7))]) (rest := []) hx hbc hml hg hown w E0_ok trivial w.1 Sub.none (k_X8_in l D cy ad (sI S 0 0 (nI (0))) x (nI (0)) (nI (7))) wk_799 wk_9 wk_797 wk_798 ⟨by decide, by decide, by decide⟩ ⟨by rw [hRf]; decide, by rw [hRl]; decide⟩ rfl hl.1 rfl (Nat.le_of_ble_eq_true rfl) dX8_leaf_16 ⟨Nat.zero_le _, Nat.zero_le _⟩ (fun r S9 H locs hp w => ?_)
    subst hp
    refine lv_if_eq (tgt := 31) hx hbc dX8_leaf_19 (by decide) (fun c_19 => ?_) (fun c_19 => ?_)
    · refine lv_bipush (v := (-102)) hx hbc dX8_leaf_31 (by decide) ?_
      exact hend _ _ _ _ _ _ (Or.inl ⟨Or.inr (Or.inl c_19), rfl, rfl⟩) rfl w dX8_leaf_33
    · obtain ⟨kd, hkd, rfl⟩ := inF_nzb c_19 (by decide)
      refine lv_aload_n hx hbc dX8_leaf_22 rfl (lv_at hl 0 rfl) ?_
      refine wb_gi (v := nI (t)) hx hbc hg hown w inG_X8 0 (by decide) rfl rfl 12 (by decide) rfl wk_679 ht dX8_leaf_23 ?_
      refine lv_bipush (v := nI (40)) hx hbc dX8_leaf_26 (by decide) ?_
      refine n_cmp_le (tgt := 34) (by omega) (by omega) hx hbc dX8_leaf_28 (by decide) (fun c_28 => ?_) (fun c_28 => ?_)
      · refine lv_aload_n hx hbc dX8_leaf_34 rfl (lv_at hl 0 rfl) ?_
        refine wb_gr (t := 22) hx hbc hg hown w inG_X8 0 (by decide) rfl rfl 27 (by decide) rfl wk_694 dX8_leaf_35 ?_
        refine lv_iload_n hx hbc dX8_leaf_38 rfl (lv_at hl 1 rfl) ?_
        refine wb_iald (k := tr) (v := nI (lv tr)) hx hbc w 22 (by decide) rfl 0 rfl rfl (by omega) (by decide) hl1 dX8_leaf_39 ?_
        refine lv_bipush (v := nI (12)) hx hbc dX8_leaf_40 (by decide) ?_
        refine n_cmp_ne (tgt := 48) (by omega) (by omega) hx hbc dX8_leaf_42 (by decide) (fun c_42 => ?_) (fun c_42 => ?_)
        · refine lv_aload_n hx hbc dX8_leaf_48 rfl (lv_at hl 0 rfl) ?_
          refine lv_iload_n hx hbc dX8_leaf_49 rfl (lv_at hl 1 rfl) ?_
          refine lv_aload_n hx hbc dX8_leaf_50 rfl (lv_at hl 0 rfl) ?_
          refine wb_gr (t := 22) hx hbc hg hown w inG_X8 0 (by decide) rfl rfl 27 (by decide) rfl wk_694 dX8_leaf_51 ?_
          refine lv_iload_n hx hbc dX8_leaf_54 rfl (lv_at hl 1 rfl) ?_
          refine wb_iald (k := tr) (v := nI (lv tr)) hx hbc w 22 (by decide) rfl 0 rfl rfl (by omega) (by decide) hl1 dX8_leaf_55 ?_
          refine lv_iload_n hx hbc dX8_leaf_56 rfl (lv_at hl 2 rfl) ?_
          refine wb_Vv (na := 3) (As := [.int (nI (tr)), .int (nI (lv tr)), .int (nI (kd))]) (rest := []) hx hbc hml hg hown w E0_ok trivial w.1 Sub.self 0 (by decide) rfl rfl (k_X8_layLeaf l D cy ad (sI S 0 0 (nI (0))) tr (lv tr) (nI (kd)) t ht (by omega) (by omega) (by omega)) wk_892 wk_9 wk_889 wk_891 ws_21 ⟨by decide, by decide, by decide⟩ ⟨by rw [hRf]; decide, by rw [hRl]; decide⟩ rfl hl.1 rfl (Nat.le_of_ble_eq_true rfl) dX8_leaf_57 ⟨Nat.zero_le _, Nat.zero_le _⟩ (fun S9 H locs hp w => ?_)
          subst hp
          have w : WB D (tyM cy) 31 cy ad skM A s (lyS (sI S 0 0 (nI (0))) (12 * tr + (lv tr)) (nI (kd)) t) H locs := w
          refine lv_aload_n hx hbc dX8_leaf_60 rfl (lv_at hl 0 rfl) ?_
          refine wb_gr (t := 22) hx hbc hg hown w inG_X8 0 (by decide) rfl rfl 27 (by decide) rfl wk_694 dX8_leaf_61 ?_
          refine lv_iload_n hx hbc dX8_leaf_64 rfl (lv_at hl 1 rfl) ?_
          refine lv_dup2_11 hx hbc dX8_leaf_65 rfl rfl ?_
          refine wb_iald (k := tr) (v := nI (lv tr)) hx hbc w 22 (by decide) rfl 0 rfl rfl (by omega) (by decide) hl1 dX8_leaf_66 ?_
          refine lv_iconst (v := nI (1)) hx hbc dX8_leaf_67 (by decide) ?_
          refine n_iadd hx hbc dX8_leaf_68 ?_
          refine wb_iast (k := tr) (f := S.2.1 22) hx hbc w 22 (by decide) rfl 0 rfl rfl (by omega) (by decide) rfl rfl dX8_leaf_69 (fun H locs w => ?_)
          refine lv_aload_n hx hbc dX8_leaf_70 rfl (lv_at hl 0 rfl) ?_
          refine wb_gr (t := 22) hx hbc hg hown w inG_X8 0 (by decide) rfl rfl 27 (by decide) rfl wk_694 dX8_leaf_71 ?_
          refine lv_iload_n hx hbc dX8_leaf_74 rfl (lv_at hl 1 rfl) ?_
          refine wb_iald (k := tr) (v := nI (lv tr + 1)) hx hbc w 22 (by decide) rfl 0 rfl rfl (by omega) (by decide) pk_us dX8_leaf_75 ?_
          exact hend _ _ _ _ _ _ (Or.inr (Or.inr (⟨tr, kd, htr, hkd, rfl, rfl, c_28, (by omega), rfl, rfl⟩))) rfl w dX8_leaf_76
        · refine lv_bipush (v := (-103)) hx hbc dX8_leaf_45 (by decide) ?_
          exact hend _ _ _ _ _ _ (Or.inr (Or.inl ⟨tr, kd, htr, hkd, rfl, rfl, c_28, c_42, rfl, rfl⟩)) rfl w dX8_leaf_47
      · refine lv_bipush (v := (-102)) hx hbc dX8_leaf_31 (by decide) ?_
        exact hend _ _ _ _ _ _ (Or.inl ⟨Or.inr (Or.inr c_28), rfl, rfl⟩) rfl w dX8_leaf_33
set_option maxHeartbeats 4000000 in
set_option maxRecDepth 100000 in
theorem k_X8_change (l : Launch) (D : va_G) (cy : Nat → ClassId) (ad : Nat → Nat) (S : wS) (a b x : Int32) (t : Nat) (ht : S.1 0 12 = nI t) (ht2 : t ≤ 200) (lv : Nat → Nat) (hlv : ∀ j, j < 4 → S.2.1 22 j = nI (lv j) ∧ lv j ≤ 12) : CtI l yX8_change (Cond.code yX8_change cX8_change 5 (some .int) :: wsG) 2 42 [.ref (ad (0)), .int (a), .int (b), .int (x)] D (tyM cy) 31 cy ad skM E0 (S) (fun r S' => (inF a (nI 0) (nI 3) = 0 ∧ r = (-102) ∧ S' = sI S 0 0 (nI 0)) ∨ (∃ tr, tr ≤ 3 ∧ a = nI tr ∧ inF b (nI 0) (nI (lv tr) - nI 1) = 0 ∧ r = (-101) ∧ S' = sI S 0 0 (nI 0)) ∨ (∃ tr lf, tr ≤ 3 ∧ a = nI tr ∧ b = nI lf ∧ lf < lv tr ∧ (inF x (nI 0) (nI 7) = 0 ∨ 40 < t) ∧ r = (-102) ∧ S' = sI S 0 0 (nI 0)) ∨ (∃ tr lf kd, tr ≤ 3 ∧ a = nI tr ∧ b = nI lf ∧ lf < lv tr ∧ kd ≤ 7 ∧ x = nI kd ∧ t ≤ 40 ∧ r = S.2.1 23 (12 * tr + lf) ∧ S' = lyS (sI S 0 0 (nI 0)) (12 * tr + lf) (nI kd) t)) := by
  refine CtI_of (by decide) (Nat.le_of_ble_eq_true rfl) ?_
  intro p e s m args below meth c A ls R Q hB hRf hRl hend
  obtain ⟨hx, hbc, hr, hg, hown, hml, hlk, w, hE, hl⟩ := hB
  have hl : lv_has ls 5 [(0, .ref (ad (0))), (1, .int (a)), (2, .int (b)), (3, .int (x))] := hl
  refine lv_aload_n hx hbc dX8_change_0 rfl (lv_at hl 0 rfl) ?_
  refine lv_iconst (v := nI (0)) hx hbc dX8_change_1 (by decide) ?_
  refine wb_pi (v := nI (0)) hx hbc hg hown w inG_X8 tyX8 tyX8_ok nmX8 0 (by decide) rfl rfl 0 (by decide) rfl wk_667 rfl rfl rfl rfl dX8_change_2 (fun H locs w => ?_)
  refine lv_iload_n hx hbc dX8_change_5 rfl (lv_at hl 1 rfl) ?_
  refine wb_Si (na := 1) (As := [.int (a)]) (rest := []) hx hbc hml hg hown w E0_ok trivial w.1 Sub.none (k_X8_isTree l D cy ad (sI S 0 0 (nI (0))) a) wk_888 wk_9 wk_886 wk_887 ⟨by decide, by decide, by decide⟩ ⟨by rw [hRf]; decide, by rw [hRl]; decide⟩ rfl hl.1 rfl (Nat.le_of_ble_eq_true rfl) dX8_change_6 ⟨Nat.zero_le _, Nat.zero_le _⟩ (fun r S9 H locs hp w => ?_)
  subst hp
  refine lv_if_ne (tgt := 15) hx hbc dX8_change_9 (by decide) (fun c_9 => ?_) (fun c_9 => ?_)
  · obtain ⟨tr, htr, rfl⟩ := inF_nzb c_9 (by decide)
    obtain ⟨hl1, hl2⟩ := hlv tr (by omega)
    refine lv_iload_n hx hbc dX8_change_15 rfl (lv_at hl 2 rfl) ?_
    refine lv_iconst (v := nI (0)) hx hbc dX8_change_16 (by decide) ?_
    refine lv_aload_n hx hbc dX8_change_17 rfl (lv_at hl 0 rfl) ?_
    refine wb_gr (t := 22) hx hbc hg hown w inG_X8 0 (by decide) rfl rfl 27 (by decide) rfl wk_694 dX8_change_18 ?_
    refine lv_iload_n hx hbc dX8_change_21 rfl (lv_at hl 1 rfl) ?_
    refine wb_iald (k := tr) (v := nI (lv tr)) hx hbc w 22 (by decide) rfl 0 rfl rfl (by omega) (by decide) hl1 dX8_change_22 ?_
    refine lv_iconst (v := nI (1)) hx hbc dX8_change_23 (by decide) ?_
    refine lv_isub hx hbc dX8_change_24 ?_
    refine wb_Si (na := 3) (As := [.int (b), .int (nI (0)), .int ((nI (lv tr)) - (nI (1)))]) (rest := []) hx hbc hml hg hown w E0_ok trivial w.1 Sub.none (k_X8_in l D cy ad (sI S 0 0 (nI (0))) b (nI (0)) ((nI (lv tr)) - (nI (1)))) wk_799 wk_9 wk_797 wk_798 ⟨by decide, by decide, by decide⟩ ⟨by rw [hRf]; decide, by rw [hRl]; decide⟩ rfl hl.1 rfl (Nat.le_of_ble_eq_true rfl) dX8_change_25 ⟨Nat.zero_le _, Nat.zero_le _⟩ (fun r S9 H locs hp w => ?_)
    subst hp
    refine lv_if_ne (tgt := 34) hx hbc dX8_change_28 (by decide) (fun c_28 => ?_) (fun c_28 => ?_)
    · obtain ⟨lf, hlf, rfl⟩ := inF_nzd c_28 (by omega)
      refine lv_iload_n hx hbc dX8_change_34 rfl (lv_at hl 3 rfl) ?_
      refine lv_iconst (v := nI (0)) hx hbc dX8_change_35 (by decide) ?_
      refine lv_bipush (v := nI (7)) hx hbc dX8_change_36 (by decide) ?_
      refine wb_Si (na := 3) (As := [.int (x), .int (nI (0)), .int (nI (7))]) (rest := []) hx hbc hml hg hown w E0_ok trivial w.1 Sub.none (k_X8_in l D cy ad (sI S 0 0 (nI (0))) x (nI (0)) (nI (7))) wk_799 wk_9 wk_797 wk_798 ⟨by decide, by decide, by decide⟩ ⟨by rw [hRf]; decide, by rw [hRl]; decide⟩ rfl hl.1 rfl (Nat.le_of_ble_eq_true rfl) dX8_change_38 ⟨Nat.zero_le _, Nat.zero_le _⟩ (fun r S9 H locs hp w => ?_)
      subst hp
      refine lv_if_eq (tgt := 53) hx hbc dX8_change_41 (by decide) (fun c_41 => ?_) (fun c_41 => ?_)
      · refine lv_bipush (v := (-102)) hx hbc dX8_change_53 (by decide) ?_
        exact hend _ _ _ _ _ _ (Or.inr (Or.inr (Or.inl ⟨tr, lf, htr, rfl, rfl, hlf, Or.inl c_41, rfl, rfl⟩))) rfl w dX8_change_55
      · obtain ⟨kd, hkd, rfl⟩ := inF_nzb c_41 (by decide)
        refine lv_aload_n hx hbc dX8_change_44 rfl (lv_at hl 0 rfl) ?_
        refine wb_gi (v := nI (t)) hx hbc hg hown w inG_X8 0 (by decide) rfl rfl 12 (by decide) rfl wk_679 ht dX8_change_45 ?_
        refine lv_bipush (v := nI (40)) hx hbc dX8_change_48 (by decide) ?_
        refine n_cmp_le (tgt := 56) (by omega) (by omega) hx hbc dX8_change_50 (by decide) (fun c_50 => ?_) (fun c_50 => ?_)
        · refine lv_aload_n hx hbc dX8_change_56 rfl (lv_at hl 0 rfl) ?_
          refine wb_gr (t := 23) hx hbc hg hown w inG_X8 0 (by decide) rfl rfl 28 (by decide) rfl wk_695 dX8_change_57 ?_
          refine lv_bipush (v := nI (12)) hx hbc dX8_change_60 (by decide) ?_
          refine lv_iload_n hx hbc dX8_change_62 rfl (lv_at hl 1 rfl) ?_
          refine n_imul hx hbc dX8_change_63 ?_
          refine lv_iload_n hx hbc dX8_change_64 rfl (lv_at hl 2 rfl) ?_
          refine n_iadd hx hbc dX8_change_65 ?_
          refine wb_iald (k := (12 * tr) + lf) (v := (S.2.1 23) ((12 * tr) + lf)) hx hbc w 23 (by decide) rfl 0 rfl rfl (by omega) (by decide) rfl dX8_change_66 ?_
          refine lv_istore (lv' := [(4, .int ((S.2.1 23) ((12 * tr) + lf))), (0, .ref (ad (0))), (1, .int (nI (tr))), (2, .int (nI (lf))), (3, .int (nI (kd)))]) hx hbc dX8_change_67 hl (by decide) rfl (fun ls hl => ?_)
          refine lv_aload_n hx hbc dX8_change_69 rfl (lv_at hl 1 rfl) ?_
          refine lv_iload_n hx hbc dX8_change_70 rfl (lv_at hl 2 rfl) ?_
          refine lv_iload_n hx hbc dX8_change_71 rfl (lv_at hl 3 rfl) ?_
          refine lv_iload_n hx hbc dX8_change_72 rfl (lv_at hl 4 rfl) ?_
          refine wb_Vv (na := 3) (As := [.int (nI (tr)), .int (nI (lf)), .int (nI (kd))]) (rest := []) hx hbc hml hg hown w E0_ok trivial w.1 Sub.self 0 (by decide) rfl rfl (k_X8_layLeaf l D cy ad (sI S 0 0 (nI (0))) tr lf (nI (kd)) t ht (by omega) (by omega) (by omega)) wk_892 wk_9 wk_889 wk_891 ws_21 ⟨by decide, by decide, by decide⟩ ⟨by rw [hRf]; decide, by rw [hRl]; decide⟩ rfl hl.1 rfl (Nat.le_of_ble_eq_true rfl) dX8_change_73 ⟨Nat.zero_le _, Nat.zero_le _⟩ (fun S9 H locs hp w => ?_)
          subst hp
          have w : WB D (tyM cy) 31 cy ad skM A s (lyS (sI S 0 0 (nI (0))) (12 * tr + lf) (nI (kd)) t) H locs := w
          refine lv_iload hx hbc dX8_change_76 (lv_at hl 0 rfl) ?_
          exact hend _ _ _ _ _ _ (Or.inr (Or.inr (Or.inr (⟨tr, lf, kd, htr, rfl, rfl, hlf, hkd, rfl, c_50, rfl, rfl⟩)))) rfl w dX8_change_78
        · refine lv_bipush (v := (-102)) hx hbc dX8_change_53 (by decide) ?_
          exact hend _ _ _ _ _ _ (Or.inr (Or.inr (Or.inl ⟨tr, lf, htr, rfl, rfl, hlf, Or.inr c_50, rfl, rfl⟩))) rfl w dX8_change_55
    · refine lv_bipush (v := (-101)) hx hbc dX8_change_31 (by decide) ?_
      exact hend _ _ _ _ _ _ (Or.inr (Or.inl ⟨tr, htr, rfl, c_28, rfl, rfl⟩)) rfl w dX8_change_33
  · refine lv_bipush (v := (-102)) hx hbc dX8_change_12 (by decide) ?_
    exact hend _ _ _ _ _ _ (Or.inl ⟨c_9, rfl, rfl⟩) rfl w dX8_change_14
set_option maxHeartbeats 4000000 in
set_option maxRecDepth 100000 in
theorem k_X8_drop (l : Launch) (D : va_G) (cy : Nat → ClassId) (ad : Nat → Nat) (S : wS) (a : Int32) (lv : Nat → Nat) (hlv : ∀ j, j < 4 → S.2.1 22 j = nI (lv j) ∧ lv j ≤ 12) : CtI l yX8_drop (Cond.code yX8_drop cX8_drop 3 (some .int) :: wsG) 2 42 [.ref (ad (0)), .int (a)] D (tyM cy) 31 cy ad skM E0 (S) (fun r S' => (inF a (nI 0) (nI 3) = 0 ∧ r = (-102) ∧ S' = sI S 0 0 (nI 0)) ∨ (∃ tr, tr ≤ 3 ∧ a = nI tr ∧ r = nI (lv tr) ∧ S' = sB (sI S 0 0 (nI 0)) 22 (upd (S.2.1 22) tr (nI 0)))) := by
  refine CtI_of (by decide) (Nat.le_of_ble_eq_true rfl) ?_
  intro p e s m args below meth c A ls R Q hB hRf hRl hend
  obtain ⟨hx, hbc, hr, hg, hown, hml, hlk, w, hE, hl⟩ := hB
  have hl : lv_has ls 3 [(0, .ref (ad (0))), (1, .int (a))] := hl
  refine lv_aload_n hx hbc dX8_drop_0 rfl (lv_at hl 0 rfl) ?_
  refine lv_iconst (v := nI (0)) hx hbc dX8_drop_1 (by decide) ?_
  refine wb_pi (v := nI (0)) hx hbc hg hown w inG_X8 tyX8 tyX8_ok nmX8 0 (by decide) rfl rfl 0 (by decide) rfl wk_667 rfl rfl rfl rfl dX8_drop_2 (fun H locs w => ?_)
  refine lv_iload_n hx hbc dX8_drop_5 rfl (lv_at hl 1 rfl) ?_
  refine wb_Si (na := 1) (As := [.int (a)]) (rest := []) hx hbc hml hg hown w E0_ok trivial w.1 Sub.none (k_X8_isTree l D cy ad (sI S 0 0 (nI (0))) a) wk_888 wk_9 wk_886 wk_887 ⟨by decide, by decide, by decide⟩ ⟨by rw [hRf]; decide, by rw [hRl]; decide⟩ rfl hl.1 rfl (Nat.le_of_ble_eq_true rfl) dX8_drop_6 ⟨Nat.zero_le _, Nat.zero_le _⟩ (fun r S9 H locs hp w => ?_)
  subst hp
  refine lv_if_ne (tgt := 15) hx hbc dX8_drop_9 (by decide) (fun c_9 => ?_) (fun c_9 => ?_)
  · obtain ⟨tr, htr, rfl⟩ := inF_nzb c_9 (by decide)
    obtain ⟨hl1, hl2⟩ := hlv tr (by omega)
    refine lv_aload_n hx hbc dX8_drop_15 rfl (lv_at hl 0 rfl) ?_
    refine wb_gr (t := 22) hx hbc hg hown w inG_X8 0 (by decide) rfl rfl 27 (by decide) rfl wk_694 dX8_drop_16 ?_
    refine lv_iload_n hx hbc dX8_drop_19 rfl (lv_at hl 1 rfl) ?_
    refine wb_iald (k := tr) (v := nI (lv tr)) hx hbc w 22 (by decide) rfl 0 rfl rfl (by omega) (by decide) hl1 dX8_drop_20 ?_
    refine lv_istore_n (lv' := [(2, .int (nI (lv tr))), (0, .ref (ad (0))), (1, .int (nI (tr)))]) hx hbc dX8_drop_21 rfl hl (by decide) rfl (fun ls hl => ?_)
    refine lv_aload_n hx hbc dX8_drop_22 rfl (lv_at hl 1 rfl) ?_
    refine wb_gr (t := 22) hx hbc hg hown w inG_X8 0 (by decide) rfl rfl 27 (by decide) rfl wk_694 dX8_drop_23 ?_
    refine lv_iload_n hx hbc dX8_drop_26 rfl (lv_at hl 2 rfl) ?_
    refine lv_iconst (v := nI (0)) hx hbc dX8_drop_27 (by decide) ?_
    refine wb_iast (k := tr) (f := S.2.1 22) hx hbc w 22 (by decide) rfl 0 rfl rfl (by omega) (by decide) rfl rfl dX8_drop_28 (fun H locs w => ?_)
    refine lv_iload_n hx hbc dX8_drop_29 rfl (lv_at hl 0 rfl) ?_
    exact hend _ _ _ _ _ _ (Or.inr (⟨tr, htr, rfl, rfl, rfl⟩)) rfl w dX8_drop_30
  · refine lv_bipush (v := (-102)) hx hbc dX8_drop_12 (by decide) ?_
    exact hend _ _ _ _ _ _ (Or.inl ⟨c_9, rfl, rfl⟩) rfl w dX8_drop_14
set_option maxHeartbeats 4000000 in
set_option maxRecDepth 100000 in
theorem k_X8_alter (l : Launch) (D : va_G) (cy : Nat → ClassId) (ad : Nat → Nat) (S : wS) (a b x : Int32) (pv : Nat) (hpv : S.1 0 32 = nI pv) (hpv2 : pv ≤ 4) : CtI l yX8_alter (Cond.code yX8_alter cX8_alter 6 (some .int) :: wsG) 1 22 [.ref (ad (0)), .int (a), .int (b), .int (x)] D (tyM cy) 31 cy ad skM E0 (S) (fun r S' => (inF a (nI 0) (nI pv - nI 1) = 0 ∧ r = (-101) ∧ S' = sI S 0 0 (nI 0)) ∨ (∃ k, k < pv ∧ a = nI k ∧ (inF b (nI 0) (nI 31) = 0 ∨ inF x (nI 0) (nI 255) = 0) ∧ r = (-102) ∧ S' = sI S 0 0 (nI 0)) ∨ (∃ k i mk, k < pv ∧ a = nI k ∧ i ≤ 31 ∧ b = nI i ∧ mk ≤ 255 ∧ x = nI mk ∧ r = ushr (S.2.1 27 (8 * k + i / 4) ^^^ (nI mk <<< (nI (24 - 8 * (i % 4)) &&& 31))) (24 - 8 * (i % 4)) &&& nI 255 ∧ S' = sB (sI S 0 0 (nI 0)) 27 (upd (S.2.1 27) (8 * k + i / 4) (S.2.1 27 (8 * k + i / 4) ^^^ (nI mk <<< (nI (24 - 8 * (i % 4)) &&& 31)))))) := by
  refine CtI_of (by decide) (Nat.le_of_ble_eq_true rfl) ?_
  intro p e s m args below meth c A ls R Q hB hRf hRl hend
  obtain ⟨hx, hbc, hr, hg, hown, hml, hlk, w, hE, hl⟩ := hB
  have hl : lv_has ls 6 [(0, .ref (ad (0))), (1, .int (a)), (2, .int (b)), (3, .int (x))] := hl
  refine lv_aload_n hx hbc dX8_alter_0 rfl (lv_at hl 0 rfl) ?_
  refine lv_iconst (v := nI (0)) hx hbc dX8_alter_1 (by decide) ?_
  refine wb_pi (v := nI (0)) hx hbc hg hown w inG_X8 tyX8 tyX8_ok nmX8 0 (by decide) rfl rfl 0 (by decide) rfl wk_667 rfl rfl rfl rfl dX8_alter_2 (fun H locs w => ?_)
  refine lv_iload_n hx hbc dX8_alter_5 rfl (lv_at hl 1 rfl) ?_
  refine lv_iconst (v := nI (0)) hx hbc dX8_alter_6 (by decide) ?_
  refine lv_aload_n hx hbc dX8_alter_7 rfl (lv_at hl 0 rfl) ?_
  refine wb_gi (v := nI (pv)) hx hbc hg hown w inG_X8 0 (by decide) rfl rfl 32 (by decide) rfl wk_699 hpv dX8_alter_8 ?_
  refine lv_iconst (v := nI (1)) hx hbc dX8_alter_11 (by decide) ?_
  refine lv_isub hx hbc dX8_alter_12 ?_
  refine wb_Si (na := 3) (As := [.int (a), .int (nI (0)), .int ((nI (pv)) - (nI (1)))]) (rest := []) hx hbc hml hg hown w E0_ok trivial w.1 Sub.none (k_X8_in l D cy ad (sI S 0 0 (nI (0))) a (nI (0)) ((nI (pv)) - (nI (1)))) wk_799 wk_9 wk_797 wk_798 ⟨by decide, by decide, by decide⟩ ⟨by rw [hRf]; decide, by rw [hRl]; decide⟩ rfl hl.1 rfl (Nat.le_of_ble_eq_true rfl) dX8_alter_13 ⟨Nat.zero_le _, Nat.zero_le _⟩ (fun r S9 H locs hp w => ?_)
  subst hp
  refine lv_if_ne (tgt := 22) hx hbc dX8_alter_16 (by decide) (fun c_16 => ?_) (fun c_16 => ?_)
  · obtain ⟨k, hk, rfl⟩ := inF_nzd c_16 (by omega)
    refine lv_iload_n hx hbc dX8_alter_22 rfl (lv_at hl 2 rfl) ?_
    refine lv_iconst (v := nI (0)) hx hbc dX8_alter_23 (by decide) ?_
    refine lv_bipush (v := nI (31)) hx hbc dX8_alter_24 (by decide) ?_
    refine wb_Si (na := 3) (As := [.int (b), .int (nI (0)), .int (nI (31))]) (rest := []) hx hbc hml hg hown w E0_ok trivial w.1 Sub.none (k_X8_in l D cy ad (sI S 0 0 (nI (0))) b (nI (0)) (nI (31))) wk_799 wk_9 wk_797 wk_798 ⟨by decide, by decide, by decide⟩ ⟨by rw [hRf]; decide, by rw [hRl]; decide⟩ rfl hl.1 rfl (Nat.le_of_ble_eq_true rfl) dX8_alter_26 ⟨Nat.zero_le _, Nat.zero_le _⟩ (fun r S9 H locs hp w => ?_)
    subst hp
    refine lv_if_eq (tgt := 43) hx hbc dX8_alter_29 (by decide) (fun c_29 => ?_) (fun c_29 => ?_)
    · refine lv_bipush (v := (-102)) hx hbc dX8_alter_43 (by decide) ?_
      exact hend _ _ _ _ _ _ (Or.inr (Or.inl ⟨k, hk, rfl, Or.inl c_29, rfl, rfl⟩)) rfl w dX8_alter_45
    · obtain ⟨i, hi, rfl⟩ := inF_nzb c_29 (by decide)
      refine lv_iload_n hx hbc dX8_alter_32 rfl (lv_at hl 3 rfl) ?_
      refine lv_iconst (v := nI (0)) hx hbc dX8_alter_33 (by decide) ?_
      refine lv_sipush (v := nI (255)) hx hbc dX8_alter_34 (by decide) ?_
      refine wb_Si (na := 3) (As := [.int (x), .int (nI (0)), .int (nI (255))]) (rest := []) hx hbc hml hg hown w E0_ok trivial w.1 Sub.none (k_X8_in l D cy ad (sI S 0 0 (nI (0))) x (nI (0)) (nI (255))) wk_799 wk_9 wk_797 wk_798 ⟨by decide, by decide, by decide⟩ ⟨by rw [hRf]; decide, by rw [hRl]; decide⟩ rfl hl.1 rfl (Nat.le_of_ble_eq_true rfl) dX8_alter_37 ⟨Nat.zero_le _, Nat.zero_le _⟩ (fun r S9 H locs hp w => ?_)
      subst hp
      refine lv_if_ne (tgt := 46) hx hbc dX8_alter_40 (by decide) (fun c_40 => ?_) (fun c_40 => ?_)
      · obtain ⟨mk, hmk, rfl⟩ := inF_nzb c_40 (by decide)
        refine lv_bipush (v := nI (8)) hx hbc dX8_alter_46 (by decide) ?_
        refine lv_iload_n hx hbc dX8_alter_48 rfl (lv_at hl 1 rfl) ?_
        refine n_imul hx hbc dX8_alter_49 ?_
        refine lv_iload_n hx hbc dX8_alter_50 rfl (lv_at hl 2 rfl) ?_
        refine lv_iconst (v := nI (4)) hx hbc dX8_alter_51 (by decide) ?_
        refine n_idiv (by omega) (by omega) (by omega) hx hbc dX8_alter_52 ?_
        refine n_iadd hx hbc dX8_alter_53 ?_
        refine lv_istore (lv' := [(4, .int (nI ((8 * k) + (i / 4)))), (0, .ref (ad (0))), (1, .int (nI (k))), (2, .int (nI (i))), (3, .int (nI (mk)))]) hx hbc dX8_alter_54 hl (by decide) rfl (fun ls hl => ?_)
        refine lv_bipush (v := nI (24)) hx hbc dX8_alter_56 (by decide) ?_
        refine lv_bipush (v := nI (8)) hx hbc dX8_alter_58 (by decide) ?_
        refine lv_iload_n hx hbc dX8_alter_60 rfl (lv_at hl 3 rfl) ?_
        refine lv_iconst (v := nI (4)) hx hbc dX8_alter_61 (by decide) ?_
        refine n_irem (by omega) (by omega) (by omega) hx hbc dX8_alter_62 ?_
        refine n_imul hx hbc dX8_alter_63 ?_
        refine n_isub (by omega) hx hbc dX8_alter_64 ?_
        refine lv_istore (lv' := [(5, .int (nI (24 - (8 * (i % 4))))), (4, .int (nI ((8 * k) + (i / 4)))), (0, .ref (ad (0))), (1, .int (nI (k))), (2, .int (nI (i))), (3, .int (nI (mk)))]) hx hbc dX8_alter_65 hl (by decide) rfl (fun ls hl => ?_)
        refine lv_aload_n hx hbc dX8_alter_67 rfl (lv_at hl 2 rfl) ?_
        refine wb_gr (t := 27) hx hbc hg hown w inG_X8 0 (by decide) rfl rfl 33 (by decide) rfl wk_700 dX8_alter_68 ?_
        refine lv_iload hx hbc dX8_alter_71 (lv_at hl 1 rfl) ?_
        refine lv_dup2_11 hx hbc dX8_alter_73 rfl rfl ?_
        refine wb_iald (k := (8 * k) + (i / 4)) (v := (S.2.1 27) ((8 * k) + (i / 4))) hx hbc w 27 (by decide) rfl 0 rfl rfl (by omega) (by decide) rfl dX8_alter_74 ?_
        refine lv_iload_n hx hbc dX8_alter_75 rfl (lv_at hl 5 rfl) ?_
        refine lv_iload hx hbc dX8_alter_76 (lv_at hl 0 rfl) ?_
        refine lv_ishl hx hbc dX8_alter_78 ?_
        refine lv_ixor hx hbc dX8_alter_79 ?_
        refine wb_iast (k := (8 * k) + (i / 4)) (f := S.2.1 27) hx hbc w 27 (by decide) rfl 0 rfl rfl (by omega) (by decide) rfl rfl dX8_alter_80 (fun H locs w => ?_)
        refine lv_aload_n hx hbc dX8_alter_81 rfl (lv_at hl 2 rfl) ?_
        refine wb_gr (t := 27) hx hbc hg hown w inG_X8 0 (by decide) rfl rfl 33 (by decide) rfl wk_700 dX8_alter_82 ?_
        refine lv_iload hx hbc dX8_alter_85 (lv_at hl 1 rfl) ?_
        refine wb_iald (k := (8 * k) + (i / 4)) (v := (S.2.1 27 (8 * k + i / 4) ^^^ (nI mk <<< (nI (24 - 8 * (i % 4)) &&& 31)))) hx hbc w 27 (by decide) rfl 0 rfl rfl (by omega) (by decide) pk_us dX8_alter_87 ?_
        refine lv_iload hx hbc dX8_alter_88 (lv_at hl 0 rfl) ?_
        refine lv_iushr hx hbc dX8_alter_90 rfl ?_
        refine lv_sipush (v := nI (255)) hx hbc dX8_alter_91 (by decide) ?_
        refine lv_iand hx hbc dX8_alter_94 ?_
        exact hend _ _ _ _ _ _ (Or.inr (Or.inr (⟨k, i, mk, hk, rfl, hi, rfl, hmk, rfl, rfl, rfl⟩))) rfl w dX8_alter_95
      · refine lv_bipush (v := (-102)) hx hbc dX8_alter_43 (by decide) ?_
        exact hend _ _ _ _ _ _ (Or.inr (Or.inl ⟨k, hk, rfl, Or.inr c_40, rfl, rfl⟩)) rfl w dX8_alter_45
  · refine lv_bipush (v := (-101)) hx hbc dX8_alter_19 (by decide) ?_
    exact hend _ _ _ _ _ _ (Or.inl ⟨c_16, rfl, rfl⟩) rfl w dX8_alter_21
set_option maxHeartbeats 4000000 in
set_option maxRecDepth 100000 in
theorem k_X8_isRow (l : Launch) (D : va_G) (cy : Nat → ClassId) (ad : Nat → Nat) (S : wS) (i : Nat) (t : Nat) (ht : S.1 0 12 = nI t) (ht2 : t ≤ 40) (rz : Nat → Nat) (hi : i < 40) (hrz : S.2.1 28 i = nI (rz i) ∧ rz i ≤ 40) : CtI l yX8_isRow (Cond.code yX8_isRow cX8_isRow 4 (some .boolean) :: wsG) 0 0 [.ref (ad (0)), .int (nI (i))] D (tyM cy) 31 cy ad skM E0 (S) (fun r S' => (r = nI 1 ∧ rowIs S rz i t ∧ S' = S) ∨ (r = nI 0 ∧ ¬ rowIs S rz i t ∧ S' = S)) := by
  refine CtI_of (by decide) (Nat.le_of_ble_eq_true rfl) ?_
  intro p e s m args below meth c A ls R Q hB hRf hRl hend
  obtain ⟨hx, hbc, hr, hg, hown, hml, hlk, w, hE, hl⟩ := hB
  have hl : lv_has ls 4 [(0, .ref (ad (0))), (1, .int (nI (i)))] := hl
  obtain ⟨hrz, hrz2⟩ := hrz
  have hrz := And.intro hrz hrz2
  refine lv_aload_n hx hbc dX8_isRow_0 rfl (lv_at hl 0 rfl) ?_
  refine wb_gr (t := 28) hx hbc hg hown w inG_X8 0 (by decide) rfl rfl 35 (by decide) rfl wk_702 dX8_isRow_1 ?_
  refine lv_iload_n hx hbc dX8_isRow_4 rfl (lv_at hl 1 rfl) ?_
  refine wb_iald (k := i) (v := nI (rz i)) hx hbc w 28 (by decide) rfl 0 rfl rfl (by omega) (by decide) hrz.1 dX8_isRow_5 ?_
  refine lv_aload_n hx hbc dX8_isRow_6 rfl (lv_at hl 0 rfl) ?_
  refine wb_gi (v := nI (t)) hx hbc hg hown w inG_X8 0 (by decide) rfl rfl 12 (by decide) rfl wk_679 ht dX8_isRow_7 ?_
  refine n_cmp_ne (tgt := 17) (by omega) (by omega) hx hbc dX8_isRow_10 (by decide) (fun c_10 => ?_) (fun c_10 => ?_)
  · refine lv_iconst (v := nI (0)) hx hbc dX8_isRow_17 (by decide) ?_
    refine lv_istore_n (lv' := [(2, .int (nI (0))), (0, .ref (ad (0))), (1, .int (nI (i)))]) hx hbc dX8_isRow_18 rfl hl (by decide) rfl (fun ls hl => ?_)
    refine lv_iconst (v := nI (0)) hx hbc dX8_isRow_19 (by decide) ?_
    refine lv_istore_n (lv' := [(3, .int (nI (0))), (2, .int (nI (0))), (0, .ref (ad (0))), (1, .int (nI (i)))]) hx hbc dX8_isRow_20 rfl hl (by decide) rfl (fun ls hl => ?_)
    have lp_21 : ∀ (fu : Nat) (k : Nat) (z : Int32) (H : Heap) (locs : List Loc) (ls : Array Slot), (t < k + fu) → (k ≤ t) → ((z = nI 1 ∧ rz i = t ∧ ∀ q, q < k → S.2.1 29 (40 * i + q) = S.2.1 10 q) ∨ (z = nI 0 ∧ (¬ rz i = t ∨ ∃ q, q < t ∧ ¬ S.2.1 29 (40 * i + q) = S.2.1 10 q))) → WB D (tyM cy) 31 cy ad skM A s (S) H locs → lv_has ls 4 [(0, .ref (ad (0))), (1, .int (nI (i))), (2, .int (z)), (3, .int (nI (k)))] → W p l e R s m args below meth c H locs 0 0 Q (F0 m 21 ls []) := by
      intro fu
      induction fu with
      | zero =>
        intro k z H locs ls h1 h2 h3 w hl
        exact absurd h1 (by omega)
      | succ fu ih_21 =>
        intro k z H locs ls h1 h2 h3 w hl
        refine lv_iload_n hx hbc dX8_isRow_21 rfl (lv_at hl 3 rfl) ?_
        refine lv_aload_n hx hbc dX8_isRow_22 rfl (lv_at hl 0 rfl) ?_
        refine wb_gi (v := nI (t)) hx hbc hg hown w inG_X8 0 (by decide) rfl rfl 12 (by decide) rfl wk_679 ht dX8_isRow_23 ?_
        refine n_cmp_ge (tgt := 65) (by omega) (by omega) hx hbc dX8_isRow_26 (by decide) (fun c_26 => ?_) (fun c_26 => ?_)
        · refine lv_iload_n hx hbc dX8_isRow_65 rfl (lv_at hl 2 rfl) ?_
          exact hend _ _ _ _ _ _ (by rcases h3 with h | h; exact Or.inl ⟨h.1, ⟨h.2.1, fun q hq => h.2.2 q (by omega)⟩, rfl⟩; exact Or.inr ⟨h.1, (fun h9 => h.2.elim (fun g => g h9.1) (fun ⟨q, g1, g2⟩ => g2 (h9.2 q g1))), rfl⟩) (by rcases h3 with h | h <;> rw [h.1] <;> rfl) w dX8_isRow_66
        · refine lv_iload_n hx hbc dX8_isRow_29 rfl (lv_at hl 2 rfl) ?_
          refine lv_if_eq (tgt := 65) hx hbc dX8_isRow_30 (by decide) (fun c_30 => ?_) (fun c_30 => ?_)
          · refine lv_iload_n hx hbc dX8_isRow_65 rfl (lv_at hl 2 rfl) ?_
            exact hend _ _ _ _ _ _ (Or.inr ⟨c_30, (by rcases h3 with h | h; exact absurd (h.1.symm.trans c_30) (by decide); exact fun h9 => h.2.elim (fun g => g h9.1) (fun ⟨q, g1, g2⟩ => g2 (h9.2 q g1))), rfl⟩) (by rcases h3 with h | h <;> rw [h.1] <;> rfl) w dX8_isRow_66
          · refine lv_aload_n hx hbc dX8_isRow_33 rfl (lv_at hl 0 rfl) ?_
            refine wb_gr (t := 29) hx hbc hg hown w inG_X8 0 (by decide) rfl rfl 36 (by decide) rfl wk_703 dX8_isRow_34 ?_
            refine lv_bipush (v := nI (40)) hx hbc dX8_isRow_37 (by decide) ?_
            refine lv_iload_n hx hbc dX8_isRow_39 rfl (lv_at hl 1 rfl) ?_
            refine n_imul hx hbc dX8_isRow_40 ?_
            refine lv_iload_n hx hbc dX8_isRow_41 rfl (lv_at hl 3 rfl) ?_
            refine n_iadd hx hbc dX8_isRow_42 ?_
            refine wb_iald (k := (40 * i) + k) (v := (S.2.1 29) ((40 * i) + k)) hx hbc w 29 (by decide) rfl 0 rfl rfl (by omega) (by decide) rfl dX8_isRow_43 ?_
            refine lv_aload_n hx hbc dX8_isRow_44 rfl (lv_at hl 0 rfl) ?_
            refine wb_gr (t := 10) hx hbc hg hown w inG_X8 0 (by decide) rfl rfl 13 (by decide) rfl wk_680 dX8_isRow_45 ?_
            refine lv_iload_n hx hbc dX8_isRow_48 rfl (lv_at hl 3 rfl) ?_
            refine wb_iald (k := k) (v := (S.2.1 10) k) hx hbc w 10 (by decide) rfl 0 rfl rfl (by omega) (by decide) rfl dX8_isRow_49 ?_
            refine lv_icmp_ne (tgt := 57) hx hbc dX8_isRow_50 (by decide) (fun c_50 => ?_) (fun c_50 => ?_)
            · refine lv_iconst (v := nI (0)) hx hbc dX8_isRow_57 (by decide) ?_
              refine lv_istore_n (lv' := [(2, .int (nI (0))), (0, .ref (ad (0))), (1, .int (nI (i))), (3, .int (nI (k)))]) hx hbc dX8_isRow_58 rfl hl (by decide) rfl (fun ls hl => ?_)
              refine lv_iinc (v := nI (k + 1)) (lv' := [(3, .int (nI (k + 1))), (2, .int (nI (0))), (0, .ref (ad (0))), (1, .int (nI (i)))]) hx hbc dX8_isRow_59 hl (k := 3) rfl (ni_inc _ _) (by decide) rfl (fun ls hl => ?_)
              refine lv_goto (tgt := 21) hx hbc dX8_isRow_62 (by decide) ?_
              exact ih_21 (k + 1) (nI (0)) _ _ _ (by omega) (by omega) (Or.inr ⟨rfl, Or.inr ⟨k, c_26, c_50⟩⟩) w (lv_sub hl [2, 3, 1, 0] rfl)
            · refine lv_iconst (v := nI (1)) hx hbc dX8_isRow_53 (by decide) ?_
              refine lv_goto (tgt := 58) hx hbc dX8_isRow_54 (by decide) ?_
              refine lv_istore_n (lv' := [(2, .int (nI (1))), (0, .ref (ad (0))), (1, .int (nI (i))), (3, .int (nI (k)))]) hx hbc dX8_isRow_58 rfl hl (by decide) rfl (fun ls hl => ?_)
              refine lv_iinc (v := nI (k + 1)) (lv' := [(3, .int (nI (k + 1))), (2, .int (nI (1))), (0, .ref (ad (0))), (1, .int (nI (i)))]) hx hbc dX8_isRow_59 hl (k := 3) rfl (ni_inc _ _) (by decide) rfl (fun ls hl => ?_)
              refine lv_goto (tgt := 21) hx hbc dX8_isRow_62 (by decide) ?_
              exact ih_21 (k + 1) (nI (1)) _ _ _ (by omega) (by omega) (Or.inl ⟨rfl, (by rcases h3 with h | h; exact h.2.1; exact absurd h.1 c_30), fun q hq => (by rcases Nat.lt_or_ge q k with h9 | h9; (rcases h3 with h | h; exact h.2.2 q h9; exact absurd h.1 c_30); (obtain rfl : q = k := (by omega); exact c_50))⟩) w (lv_sub hl [2, 3, 1, 0] rfl)
    exact lp_21 (t + 1) 0 ((nI 0)) _ _ _ (by omega) (by omega) (Or.inr ⟨rfl, Or.inl c_10⟩) w (lv_sub hl [2, 3, 1, 0] rfl)
  · refine lv_iconst (v := nI (1)) hx hbc dX8_isRow_13 (by decide) ?_
    refine lv_goto (tgt := 18) hx hbc dX8_isRow_14 (by decide) ?_
    refine lv_istore_n (lv' := [(2, .int (nI (1))), (0, .ref (ad (0))), (1, .int (nI (i)))]) hx hbc dX8_isRow_18 rfl hl (by decide) rfl (fun ls hl => ?_)
    refine lv_iconst (v := nI (0)) hx hbc dX8_isRow_19 (by decide) ?_
    refine lv_istore_n (lv' := [(3, .int (nI (0))), (2, .int (nI (1))), (0, .ref (ad (0))), (1, .int (nI (i)))]) hx hbc dX8_isRow_20 rfl hl (by decide) rfl (fun ls hl => ?_)
    have lp_21 : ∀ (fu : Nat) (k : Nat) (z : Int32) (H : Heap) (locs : List Loc) (ls : Array Slot), (t < k + fu) → (k ≤ t) → ((z = nI 1 ∧ rz i = t ∧ ∀ q, q < k → S.2.1 29 (40 * i + q) = S.2.1 10 q) ∨ (z = nI 0 ∧ (¬ rz i = t ∨ ∃ q, q < t ∧ ¬ S.2.1 29 (40 * i + q) = S.2.1 10 q))) → WB D (tyM cy) 31 cy ad skM A s (S) H locs → lv_has ls 4 [(0, .ref (ad (0))), (1, .int (nI (i))), (2, .int (z)), (3, .int (nI (k)))] → W p l e R s m args below meth c H locs 0 0 Q (F0 m 21 ls []) := by
      intro fu
      induction fu with
      | zero =>
        intro k z H locs ls h1 h2 h3 w hl
        exact absurd h1 (by omega)
      | succ fu ih_21 =>
        intro k z H locs ls h1 h2 h3 w hl
        refine lv_iload_n hx hbc dX8_isRow_21 rfl (lv_at hl 3 rfl) ?_
        refine lv_aload_n hx hbc dX8_isRow_22 rfl (lv_at hl 0 rfl) ?_
        refine wb_gi (v := nI (t)) hx hbc hg hown w inG_X8 0 (by decide) rfl rfl 12 (by decide) rfl wk_679 ht dX8_isRow_23 ?_
        refine n_cmp_ge (tgt := 65) (by omega) (by omega) hx hbc dX8_isRow_26 (by decide) (fun c_26 => ?_) (fun c_26 => ?_)
        · refine lv_iload_n hx hbc dX8_isRow_65 rfl (lv_at hl 2 rfl) ?_
          exact hend _ _ _ _ _ _ (by rcases h3 with h | h; exact Or.inl ⟨h.1, ⟨h.2.1, fun q hq => h.2.2 q (by omega)⟩, rfl⟩; exact Or.inr ⟨h.1, (fun h9 => h.2.elim (fun g => g h9.1) (fun ⟨q, g1, g2⟩ => g2 (h9.2 q g1))), rfl⟩) (by rcases h3 with h | h <;> rw [h.1] <;> rfl) w dX8_isRow_66
        · refine lv_iload_n hx hbc dX8_isRow_29 rfl (lv_at hl 2 rfl) ?_
          refine lv_if_eq (tgt := 65) hx hbc dX8_isRow_30 (by decide) (fun c_30 => ?_) (fun c_30 => ?_)
          · refine lv_iload_n hx hbc dX8_isRow_65 rfl (lv_at hl 2 rfl) ?_
            exact hend _ _ _ _ _ _ (Or.inr ⟨c_30, (by rcases h3 with h | h; exact absurd (h.1.symm.trans c_30) (by decide); exact fun h9 => h.2.elim (fun g => g h9.1) (fun ⟨q, g1, g2⟩ => g2 (h9.2 q g1))), rfl⟩) (by rcases h3 with h | h <;> rw [h.1] <;> rfl) w dX8_isRow_66
          · refine lv_aload_n hx hbc dX8_isRow_33 rfl (lv_at hl 0 rfl) ?_
            refine wb_gr (t := 29) hx hbc hg hown w inG_X8 0 (by decide) rfl rfl 36 (by decide) rfl wk_703 dX8_isRow_34 ?_
            refine lv_bipush (v := nI (40)) hx hbc dX8_isRow_37 (by decide) ?_
            refine lv_iload_n hx hbc dX8_isRow_39 rfl (lv_at hl 1 rfl) ?_
            refine n_imul hx hbc dX8_isRow_40 ?_
            refine lv_iload_n hx hbc dX8_isRow_41 rfl (lv_at hl 3 rfl) ?_
            refine n_iadd hx hbc dX8_isRow_42 ?_
            refine wb_iald (k := (40 * i) + k) (v := (S.2.1 29) ((40 * i) + k)) hx hbc w 29 (by decide) rfl 0 rfl rfl (by omega) (by decide) rfl dX8_isRow_43 ?_
            refine lv_aload_n hx hbc dX8_isRow_44 rfl (lv_at hl 0 rfl) ?_
            refine wb_gr (t := 10) hx hbc hg hown w inG_X8 0 (by decide) rfl rfl 13 (by decide) rfl wk_680 dX8_isRow_45 ?_
            refine lv_iload_n hx hbc dX8_isRow_48 rfl (lv_at hl 3 rfl) ?_
            refine wb_iald (k := k) (v := (S.2.1 10) k) hx hbc w 10 (by decide) rfl 0 rfl rfl (by omega) (by decide) rfl dX8_isRow_49 ?_
            refine lv_icmp_ne (tgt := 57) hx hbc dX8_isRow_50 (by decide) (fun c_50 => ?_) (fun c_50 => ?_)
            · refine lv_iconst (v := nI (0)) hx hbc dX8_isRow_57 (by decide) ?_
              refine lv_istore_n (lv' := [(2, .int (nI (0))), (0, .ref (ad (0))), (1, .int (nI (i))), (3, .int (nI (k)))]) hx hbc dX8_isRow_58 rfl hl (by decide) rfl (fun ls hl => ?_)
              refine lv_iinc (v := nI (k + 1)) (lv' := [(3, .int (nI (k + 1))), (2, .int (nI (0))), (0, .ref (ad (0))), (1, .int (nI (i)))]) hx hbc dX8_isRow_59 hl (k := 3) rfl (ni_inc _ _) (by decide) rfl (fun ls hl => ?_)
              refine lv_goto (tgt := 21) hx hbc dX8_isRow_62 (by decide) ?_
              exact ih_21 (k + 1) (nI (0)) _ _ _ (by omega) (by omega) (Or.inr ⟨rfl, Or.inr ⟨k, c_26, c_50⟩⟩) w (lv_sub hl [2, 3, 1, 0] rfl)
            · refine lv_iconst (v := nI (1)) hx hbc dX8_isRow_53 (by decide) ?_
              refine lv_goto (tgt := 58) hx hbc dX8_isRow_54 (by decide) ?_
              refine lv_istore_n (lv' := [(2, .int (nI (1))), (0, .ref (ad (0))), (1, .int (nI (i))), (3, .int (nI (k)))]) hx hbc dX8_isRow_58 rfl hl (by decide) rfl (fun ls hl => ?_)
              refine lv_iinc (v := nI (k + 1)) (lv' := [(3, .int (nI (k + 1))), (2, .int (nI (1))), (0, .ref (ad (0))), (1, .int (nI (i)))]) hx hbc dX8_isRow_59 hl (k := 3) rfl (ni_inc _ _) (by decide) rfl (fun ls hl => ?_)
              refine lv_goto (tgt := 21) hx hbc dX8_isRow_62 (by decide) ?_
              exact ih_21 (k + 1) (nI (1)) _ _ _ (by omega) (by omega) (Or.inl ⟨rfl, (by rcases h3 with h | h; exact h.2.1; exact absurd h.1 c_30), fun q hq => (by rcases Nat.lt_or_ge q k with h9 | h9; (rcases h3 with h | h; exact h.2.2 q h9; exact absurd h.1 c_30); (obtain rfl : q = k := (by omega); exact c_50))⟩) w (lv_sub hl [2, 3, 1, 0] rfl)
    exact lp_21 (t + 1) 0 ((nI 1)) _ _ _ (by omega) (by omega) (Or.inl ⟨rfl, c_10, fun _ h9 => absurd h9 (Nat.not_lt_zero _)⟩) w (lv_sub hl [2, 3, 1, 0] rfl)
set_option maxHeartbeats 4000000 in
set_option maxRecDepth 100000 in
theorem k_X8_spotOfTape (l : Launch) (D : va_G) (cy : Nat → ClassId) (ad : Nat → Nat) (S : wS) (t : Nat) (ht : S.1 0 12 = nI t) (ht2 : t ≤ 200) (q : Nat) (hq : S.1 0 11 = nI q) : CtI l yX8_spotOfTape (Cond.code yX8_spotOfTape cX8_spotOfTape 2 (some .int) :: wsG) 3 77 [.ref (ad (0))] D (tyM cy) 31 cy ad skM E0 (S) (fun r S' => r = spX S t ∧ S' = spS S t q) := by
  refine CtI_of (by decide) (Nat.le_of_ble_eq_true rfl) ?_
  intro p e s m args below meth c A ls R Q hB hRf hRl hend
  obtain ⟨hx, hbc, hr, hg, hown, hml, hlk, w, hE, hl⟩ := hB
  have hl : lv_has ls 2 [(0, .ref (ad (0)))] := hl
  refine lv_aload_n hx hbc dX8_spotOfTape_0 rfl (lv_at hl 0 rfl) ?_
  refine lv_iconst (v := nI (0)) hx hbc dX8_spotOfTape_1 (by decide) ?_
  refine wb_pi (v := nI (0)) hx hbc hg hown w inG_X8 tyX8 tyX8_ok nmX8 0 (by decide) rfl rfl 8 (by decide) rfl wk_675 rfl rfl rfl rfl dX8_spotOfTape_2 (fun H locs w => ?_)
  have w : WB D (tyM cy) 31 cy ad skM A s (pst S (S.2.1 7) 0) H locs := WB_cast w (pst_0 _)
  refine lv_iconst (v := nI (0)) hx hbc dX8_spotOfTape_5 (by decide) ?_
  refine lv_istore_n (lv' := [(1, .int (nI (0))), (0, .ref (ad (0)))]) hx hbc dX8_spotOfTape_6 rfl hl (by decide) rfl (fun ls hl => ?_)
  have lp_7 : ∀ (fu : Nat) (k : Nat) (H : Heap) (locs : List Loc) (ls : Array Slot), (t < k + fu) → (k ≤ t) → WB D (tyM cy) 31 cy ad skM A s (pst S (cps (S.2.1 7) (S.2.1 10) k) k) H locs → lv_has ls 2 [(0, .ref (ad (0))), (1, .int (nI (k)))] → W p l e R s m args below meth c H locs 0 0 Q (F0 m 7 ls []) := by
    intro fu
    induction fu with
    | zero =>
      intro k H locs ls h1 h2 w hl
      exact absurd h1 (by omega)
    | succ fu ih_7 =>
      intro k H locs ls h1 h2 w hl
      refine lv_iload_n hx hbc dX8_spotOfTape_7 rfl (lv_at hl 1 rfl) ?_
      refine lv_aload_n hx hbc dX8_spotOfTape_8 rfl (lv_at hl 0 rfl) ?_
      refine wb_gi (v := nI (t)) hx hbc hg hown w inG_X8 0 (by decide) rfl rfl 12 (by decide) rfl wk_679 ht dX8_spotOfTape_9 ?_
      refine n_cmp_ge (tgt := 31) (by omega) (by omega) hx hbc dX8_spotOfTape_12 (by decide) (fun c_12 => ?_) (fun c_12 => ?_)
      · obtain rfl : t = k := by omega
        refine lv_aload_n hx hbc dX8_spotOfTape_31 rfl (lv_at hl 0 rfl) ?_
        refine lv_iconst (v := nI (0)) hx hbc dX8_spotOfTape_32 (by decide) ?_
        refine wb_Vv (na := 1) (As := [.int (nI (0))]) (rest := []) hx hbc hml hg hown w E0_ok trivial w.1 Sub.self 0 (by decide) rfl rfl (k_X8_work l D cy ad (S) (cps (S.2.1 7) (S.2.1 10) t) (nI (0)) t q (by omega) hq) wk_820 wk_9 wk_817 wk_819 ws_15 ⟨by decide, by decide, by decide⟩ ⟨by rw [hRf]; decide, by rw [hRl]; decide⟩ rfl hl.1 rfl (Nat.le_of_ble_eq_true rfl) dX8_spotOfTape_33 ⟨Nat.zero_le _, Nat.zero_le _⟩ (fun S9 H locs hp w => ?_)
        subst hp
        have w : WB D (tyM cy) 31 cy ad skM A s (wrk S (nI (0)) (cps (S.2.1 7) (S.2.1 10) t) t q) H locs := w
        refine lv_aload_n hx hbc dX8_spotOfTape_36 rfl (lv_at hl 0 rfl) ?_
        refine lv_bipush (v := nI (31)) hx hbc dX8_spotOfTape_37 (by decide) ?_
        refine wb_Vi (na := 1) (As := [.int (nI (31))]) (rest := []) hx hbc hml hg hown w E0_ok trivial w.1 Sub.self 0 (by decide) rfl rfl (k_X8_byteOfH l D cy ad (wrk S (nI (0)) (cps (S.2.1 7) (S.2.1 10) t) t q) 31 (by omega)) wk_832 wk_9 wk_829 wk_831 ws_17 ⟨by decide, by decide, by decide⟩ ⟨by rw [hRf]; decide, by rw [hRl]; decide⟩ rfl hl.1 rfl (Nat.le_of_ble_eq_true rfl) dX8_spotOfTape_39 ⟨Nat.zero_le _, Nat.zero_le _⟩ (fun r S9 H locs hp w => ?_)
        obtain ⟨hp, rfl⟩ := hp
        subst hp
        have w : WB D (tyM cy) 31 cy ad skM A s (wrk S (nI (0)) (cps (S.2.1 7) (S.2.1 10) t) t q) H locs := w
        refine lv_bipush (v := nI (15)) hx hbc dX8_spotOfTape_42 (by decide) ?_
        refine lv_iand hx hbc dX8_spotOfTape_44 ?_
        exact hend _ _ _ _ _ _ ⟨rfl, rfl⟩ rfl w dX8_spotOfTape_45
      · refine lv_aload_n hx hbc dX8_spotOfTape_15 rfl (lv_at hl 0 rfl) ?_
        refine lv_aload_n hx hbc dX8_spotOfTape_16 rfl (lv_at hl 0 rfl) ?_
        refine wb_gr (t := 10) hx hbc hg hown w inG_X8 0 (by decide) rfl rfl 13 (by decide) rfl wk_680 dX8_spotOfTape_17 ?_
        refine lv_iload_n hx hbc dX8_spotOfTape_20 rfl (lv_at hl 1 rfl) ?_
        refine wb_iald (k := k) (v := (S.2.1 10) k) hx hbc w 10 (by decide) rfl 0 rfl rfl (by omega) (by decide) rfl dX8_spotOfTape_21 ?_
        refine wb_Vv (na := 1) (As := [.int ((S.2.1 10) k)]) (rest := []) hx hbc hml hg hown w E0_ok trivial w.1 Sub.self 0 (by decide) rfl rfl (k_X8_put l D cy ad (pst S (cps (S.2.1 7) (S.2.1 10) k) k) ((S.2.1 10) k) k rfl (by omega)) wk_816 wk_9 wk_813 wk_815 ws_14 ⟨by decide, by decide, by decide⟩ ⟨by rw [hRf]; decide, by rw [hRl]; decide⟩ rfl hl.1 rfl (Nat.le_of_ble_eq_true rfl) dX8_spotOfTape_22 ⟨Nat.zero_le _, Nat.zero_le _⟩ (fun S9 H locs hp w => ?_)
        subst hp
        have w := WB_cast w (pst_pst _ _ _ _ _)
        have w : WB D (tyM cy) 31 cy ad skM A s (pst S (upd (cps (S.2.1 7) (S.2.1 10) k) k ((S.2.1 10) k)) (k + 1)) H locs := w
        refine lv_iinc (v := nI (k + 1)) (lv' := [(1, .int (nI (k + 1))), (0, .ref (ad (0)))]) hx hbc dX8_spotOfTape_25 hl (k := 1) rfl (ni_inc _ _) (by decide) rfl (fun ls hl => ?_)
        refine lv_goto (tgt := 7) hx hbc dX8_spotOfTape_28 (by decide) ?_
        exact ih_7 (k + 1) _ _ _ (by omega) (by omega) w (lv_sub hl [1, 0] rfl)
  exact lp_7 (t + 1) 0 _ _ _ (by omega) (by omega) w (lv_sub hl [1, 0] rfl)
set_option maxHeartbeats 4000000 in
set_option maxRecDepth 100000 in
theorem k_X8_look (l : Launch) (D : va_G) (cy : Nat → ClassId) (ad : Nat → Nat) (S : wS) (x : Int32) (t : Nat) (ht : S.1 0 12 = nI t) (ht2 : t ≤ 40) (R9 : Nat) (hR9 : S.1 0 34 = nI R9) (hR2 : R9 ≤ 40) (rz : Nat → Nat) (hrz : ∀ i, i < R9 → S.2.1 28 i = nI (rz i) ∧ rz i ≤ 40) : CtI l yX8_look (Cond.code yX8_look cX8_look 3 (some .int) :: wsG) 1 23 [.ref (ad (0)), .int (x)] D (tyM cy) 31 cy ad skM E0 (S) (fun r S' => (∃ k, k < R9 ∧ S.2.1 30 k = x ∧ rowIs S rz k t ∧ (∀ i, i < k → ¬ (S.2.1 30 i = x ∧ rowIs S rz i t)) ∧ r = nI k ∧ S' = sI S 0 39 (nI (cnt (S.2.1 30) x (k + 1)))) ∨ ((∀ i, i < R9 → ¬ (S.2.1 30 i = x ∧ rowIs S rz i t)) ∧ r = (-1) ∧ S' = sI S 0 39 (nI (cnt (S.2.1 30) x R9)))) := by
  refine CtI_of (by decide) (Nat.le_of_ble_eq_true rfl) ?_
  intro p e s m args below meth c A ls R Q hB hRf hRl hend
  obtain ⟨hx, hbc, hr, hg, hown, hml, hlk, w, hE, hl⟩ := hB
  have hl : lv_has ls 3 [(0, .ref (ad (0))), (1, .int (x))] := hl
  refine lv_aload_n hx hbc dX8_look_0 rfl (lv_at hl 0 rfl) ?_
  refine lv_iconst (v := nI (0)) hx hbc dX8_look_1 (by decide) ?_
  refine wb_pi (v := nI (0)) hx hbc hg hown w inG_X8 tyX8 tyX8_ok nmX8 0 (by decide) rfl rfl 39 (by decide) rfl wk_706 rfl rfl rfl rfl dX8_look_2 (fun H locs w => ?_)
  refine lv_iconst (v := nI (0)) hx hbc dX8_look_5 (by decide) ?_
  refine lv_istore_n (lv' := [(2, .int (nI (0))), (0, .ref (ad (0))), (1, .int (x))]) hx hbc dX8_look_6 rfl hl (by decide) rfl (fun ls hl => ?_)
  have lp_7 : ∀ (fu : Nat) (k : Nat) (H : Heap) (locs : List Loc) (ls : Array Slot), (R9 < k + fu) → (k ≤ R9) → (∀ i, i < k → ¬ (S.2.1 30 i = x ∧ rowIs S rz i t)) → WB D (tyM cy) 31 cy ad skM A s (sI S 0 39 (nI (cnt (S.2.1 30) x k))) H locs → lv_has ls 3 [(0, .ref (ad (0))), (1, .int (x)), (2, .int (nI (k)))] → W p l e R s m args below meth c H locs 0 0 Q (F0 m 7 ls []) := by
    intro fu
    induction fu with
    | zero =>
      intro k H locs ls h1 h2 h3 w hl
      exact absurd h1 (by omega)
    | succ fu ih_7 =>
      intro k H locs ls h1 h2 h3 w hl
      refine lv_iload_n hx hbc dX8_look_7 rfl (lv_at hl 2 rfl) ?_
      refine lv_aload_n hx hbc dX8_look_8 rfl (lv_at hl 0 rfl) ?_
      refine wb_gi (v := nI (R9)) hx hbc hg hown w inG_X8 0 (by decide) rfl rfl 34 (by decide) rfl wk_701 hR9 dX8_look_9 ?_
      refine n_cmp_ge (tgt := 51) (by omega) (by omega) hx hbc dX8_look_12 (by decide) (fun c_12 => ?_) (fun c_12 => ?_)
      · refine lv_iconst (v := (-1)) hx hbc dX8_look_51 (by decide) ?_
        exact hend _ _ _ _ _ _ (Or.inr (⟨(fun i hi => h3 i (by omega)), rfl, (by obtain rfl : R9 = k := (by omega); rfl)⟩)) rfl w dX8_look_52
      · refine lv_aload_n hx hbc dX8_look_15 rfl (lv_at hl 0 rfl) ?_
        refine wb_gr (t := 30) hx hbc hg hown w inG_X8 0 (by decide) rfl rfl 37 (by decide) rfl wk_704 dX8_look_16 ?_
        refine lv_iload_n hx hbc dX8_look_19 rfl (lv_at hl 2 rfl) ?_
        refine wb_iald (k := k) (v := (S.2.1 30) k) hx hbc w 30 (by decide) rfl 0 rfl rfl (by omega) (by decide) rfl dX8_look_20 ?_
        refine lv_iload_n hx hbc dX8_look_21 rfl (lv_at hl 1 rfl) ?_
        refine lv_icmp_ne (tgt := 45) hx hbc dX8_look_22 (by decide) (fun c_22 => ?_) (fun c_22 => ?_)
        · refine lv_iinc (v := nI (k + 1)) (lv' := [(2, .int (nI (k + 1))), (0, .ref (ad (0))), (1, .int (x))]) hx hbc dX8_look_45 hl (k := 2) rfl (ni_inc _ _) (by decide) rfl (fun ls hl => ?_)
          refine lv_goto (tgt := 7) hx hbc dX8_look_48 (by decide) ?_
          exact ih_7 (k + 1) _ _ _ (by omega) (by omega) (fun i hi => (by rcases Nat.lt_or_ge i k with h9 | h9; exact h3 i h9; (obtain rfl : i = k := (by omega); exact fun g => c_22 g.1))) (WB_cast w (by simp only [cnt]; rw [if_neg c_22])) (lv_sub hl [1, 2, 0] rfl)
        · refine lv_aload_n hx hbc dX8_look_25 rfl (lv_at hl 0 rfl) ?_
          refine lv_dup hx hbc dX8_look_26 rfl ?_
          refine wb_gi (v := nI (cnt (S.2.1 30) x k)) hx hbc hg hown w inG_X8 0 (by decide) rfl rfl 39 (by decide) rfl wk_706 rfl dX8_look_27 ?_
          refine lv_iconst (v := nI (1)) hx hbc dX8_look_30 (by decide) ?_
          refine n_iadd hx hbc dX8_look_31 ?_
          refine wb_pi (v := nI ((cnt (S.2.1 30) x k) + 1)) hx hbc hg hown w inG_X8 tyX8 tyX8_ok nmX8 0 (by decide) rfl rfl 39 (by decide) rfl wk_706 rfl rfl rfl rfl dX8_look_32 (fun H locs w => ?_)
          refine lv_aload_n hx hbc dX8_look_35 rfl (lv_at hl 0 rfl) ?_
          refine lv_iload_n hx hbc dX8_look_36 rfl (lv_at hl 2 rfl) ?_
          refine wb_Vi (na := 1) (As := [.int (nI (k))]) (rest := []) hx hbc hml hg hown w E0_ok trivial w.1 Sub.self 0 (by decide) rfl rfl (k_X8_isRow l D cy ad (sI (sI S 0 39 (nI (cnt (S.2.1 30) x k))) 0 39 (nI ((cnt (S.2.1 30) x k) + 1))) k t ht (by omega) rz (by omega) (hrz k (by omega))) wk_956 wk_9 wk_953 wk_955 ws_30 ⟨by decide, by decide, by decide⟩ ⟨by rw [hRf]; decide, by rw [hRl]; decide⟩ rfl hl.1 rfl (Nat.le_of_ble_eq_true rfl) dX8_look_37 ⟨Nat.zero_le _, Nat.zero_le _⟩ (fun r S9 H locs hp w => ?_)
          rcases hp with ⟨rfl, hri, rfl⟩ | ⟨rfl, hri, rfl⟩
          · skip
            have w : WB D (tyM cy) 31 cy ad skM A s (sI (sI S 0 39 (nI (cnt (S.2.1 30) x k))) 0 39 (nI ((cnt (S.2.1 30) x k) + 1))) H locs := w
            refine lv_if_eq (tgt := 45) hx hbc dX8_look_40 (by decide) (fun c_40 => ?_) (fun c_40 => ?_)
            · exact absurd c_40 (by decide)
            · refine lv_iload_n hx hbc dX8_look_43 rfl (lv_at hl 2 rfl) ?_
              exact hend _ _ _ _ _ _ (Or.inl ⟨k, c_12, c_22, hri, h3, rfl, (by rw [sI_sI]; simp only [cnt]; rw [if_pos c_22])⟩) rfl w dX8_look_44
          · skip
            have w : WB D (tyM cy) 31 cy ad skM A s (sI (sI S 0 39 (nI (cnt (S.2.1 30) x k))) 0 39 (nI ((cnt (S.2.1 30) x k) + 1))) H locs := w
            refine lv_if_eq (tgt := 45) hx hbc dX8_look_40 (by decide) (fun c_40 => ?_) (fun c_40 => ?_)
            · refine lv_iinc (v := nI (k + 1)) (lv' := [(2, .int (nI (k + 1))), (0, .ref (ad (0))), (1, .int (x))]) hx hbc dX8_look_45 hl (k := 2) rfl (ni_inc _ _) (by decide) rfl (fun ls hl => ?_)
              refine lv_goto (tgt := 7) hx hbc dX8_look_48 (by decide) ?_
              exact ih_7 (k + 1) _ _ _ (by omega) (by omega) (fun i hi => (by rcases Nat.lt_or_ge i k with h9 | h9; exact h3 i h9; (obtain rfl : i = k := (by omega); exact fun g => hri g.2))) (WB_cast w (by rw [sI_sI]; simp only [cnt]; rw [if_pos c_22])) (lv_sub hl [1, 2, 0] rfl)
            · exact absurd c_40 (by decide)
  exact lp_7 (R9 + 1) 0 _ _ _ (by omega) (by omega) (fun _ h9 => absurd h9 (Nat.not_lt_zero _)) w (lv_sub hl [1, 2, 0] rfl)
set_option maxHeartbeats 4000000 in
set_option maxRecDepth 100000 in
theorem k_X8_keep (l : Launch) (D : va_G) (cy : Nat → ClassId) (ad : Nat → Nat) (S : wS) (t : Nat) (ht : S.1 0 12 = nI t) (ht2 : t ≤ 200) (q : Nat) (hq : S.1 0 11 = nI q) (R9 : Nat) (hR9 : S.1 0 34 = nI R9) (hR2 : R9 ≤ 40) (rz : Nat → Nat) (hrz : ∀ i, i < R9 → S.2.1 28 i = nI (rz i) ∧ rz i ≤ 40) : CtI l yX8_keep (Cond.code yX8_keep cX8_keep 4 (some .int) :: wsG) 4 98 [.ref (ad (0))] D (tyM cy) 31 cy ad skM E0 (S) (fun r S' => (40 < t ∧ r = (-102) ∧ S' = sI S 0 0 (nI 0)) ∨ (t ≤ 40 ∧ (∀ i, i < R9 → ¬ (S.2.1 30 i = (spX (sI S 0 0 (nI 0)) t) ∧ rowIs S rz i t)) ∧ R9 = 40 ∧ r = (-103) ∧ S' = sI (spS (sI S 0 0 (nI 0)) t q) 0 39 (nI (cnt (S.2.1 30) (spX (sI S 0 0 (nI 0)) t) R9))) ∨ (t ≤ 40 ∧ ∃ k, k < R9 ∧ S.2.1 30 k = (spX (sI S 0 0 (nI 0)) t) ∧ rowIs S rz k t ∧ (∀ i, i < k → ¬ (S.2.1 30 i = (spX (sI S 0 0 (nI 0)) t) ∧ rowIs S rz i t)) ∧ r = nI k ∧ S' = sI (sI (sI (spS (sI S 0 0 (nI 0)) t q) 0 39 (nI (cnt (S.2.1 30) (spX (sI S 0 0 (nI 0)) t) (k + 1)))) 0 38 (nI (cnt (S.2.1 30) (spX (sI S 0 0 (nI 0)) t) (k + 1)))) 0 12 (nI 0)) ∨ (t ≤ 40 ∧ (∀ i, i < R9 → ¬ (S.2.1 30 i = (spX (sI S 0 0 (nI 0)) t) ∧ rowIs S rz i t)) ∧ R9 < 40 ∧ r = nI R9 ∧ S' = sI (sI (sB (sB (sB (sI (sI (spS (sI S 0 0 (nI 0)) t q) 0 39 (nI (cnt (S.2.1 30) (spX (sI S 0 0 (nI 0)) t) R9))) 0 38 (nI (cnt (S.2.1 30) (spX (sI S 0 0 (nI 0)) t) R9))) 28 (upd (S.2.1 28) R9 (nI t))) 30 (upd (S.2.1 30) R9 (spX (sI S 0 0 (nI 0)) t))) 29 (pts (S.2.1 29) (40 * R9) (S.2.1 10) t)) 0 34 (nI (R9 + 1))) 0 12 (nI 0))) := by
  refine CtI_of (by decide) (Nat.le_of_ble_eq_true rfl) ?_
  intro p e s m args below meth c A ls R Q hB hRf hRl hend
  obtain ⟨hx, hbc, hr, hg, hown, hml, hlk, w, hE, hl⟩ := hB
  have hl : lv_has ls 4 [(0, .ref (ad (0)))] := hl
  refine lv_aload_n hx hbc dX8_keep_0 rfl (lv_at hl 0 rfl) ?_
  refine lv_iconst (v := nI (0)) hx hbc dX8_keep_1 (by decide) ?_
  refine wb_pi (v := nI (0)) hx hbc hg hown w inG_X8 tyX8 tyX8_ok nmX8 0 (by decide) rfl rfl 0 (by decide) rfl wk_667 rfl rfl rfl rfl dX8_keep_2 (fun H locs w => ?_)
  refine lv_aload_n hx hbc dX8_keep_5 rfl (lv_at hl 0 rfl) ?_
  refine wb_gi (v := nI (t)) hx hbc hg hown w inG_X8 0 (by decide) rfl rfl 12 (by decide) rfl wk_679 ht dX8_keep_6 ?_
  refine lv_bipush (v := nI (40)) hx hbc dX8_keep_9 (by decide) ?_
  refine n_cmp_le (tgt := 17) (by omega) (by omega) hx hbc dX8_keep_11 (by decide) (fun c_11 => ?_) (fun c_11 => ?_)
  · refine lv_aload_n hx hbc dX8_keep_17 rfl (lv_at hl 0 rfl) ?_
    refine wb_Vi (na := 0) (As := []) (rest := []) hx hbc hml hg hown w E0_ok trivial w.1 Sub.self 0 (by decide) rfl rfl (k_X8_spotOfTape l D cy ad (sI S 0 0 (nI (0))) t ht (by omega) q hq) wk_948 wk_9 wk_945 wk_947 ws_28 ⟨by decide, by decide, by decide⟩ ⟨by rw [hRf]; decide, by rw [hRl]; decide⟩ rfl hl.1 rfl (Nat.le_of_ble_eq_true rfl) dX8_keep_18 ⟨Nat.zero_le _, Nat.zero_le _⟩ (fun r S9 H locs hp w => ?_)
    obtain ⟨hp, rfl⟩ := hp
    subst hp
    have w : WB D (tyM cy) 31 cy ad skM A s (spS (sI S 0 0 (nI (0))) t q) H locs := w
    refine lv_istore_n (lv' := [(1, .int (spX (sI S 0 0 (nI (0))) t)), (0, .ref (ad (0)))]) hx hbc dX8_keep_21 rfl hl (by decide) rfl (fun ls hl => ?_)
    refine lv_aload_n hx hbc dX8_keep_22 rfl (lv_at hl 1 rfl) ?_
    refine lv_iload_n hx hbc dX8_keep_23 rfl (lv_at hl 0 rfl) ?_
    refine wb_Vi (na := 1) (As := [.int (spX (sI S 0 0 (nI (0))) t)]) (rest := []) hx hbc hml hg hown w E0_ok trivial w.1 Sub.self 0 (by decide) rfl rfl (k_X8_look l D cy ad (spS (sI S 0 0 (nI (0))) t q) (spX (sI S 0 0 (nI (0))) t) t ht (by omega) R9 hR9 hR2 rz hrz) wk_952 wk_9 wk_949 wk_951 ws_29 ⟨by decide, by decide, by decide⟩ ⟨by rw [hRf]; decide, by rw [hRl]; decide⟩ rfl hl.1 rfl (Nat.le_of_ble_eq_true rfl) dX8_keep_24 ⟨Nat.zero_le _, Nat.zero_le _⟩ (fun r S9 H locs hp w => ?_)
    rcases hp with ⟨k9, hk9, hsp, hri, hno, rfl, rfl⟩ | ⟨hno, rfl, rfl⟩
    · skip
      have w : WB D (tyM cy) 31 cy ad skM A s (sI (spS (sI S 0 0 (nI (0))) t q) 0 39 (nI (cnt (S.2.1 30) (spX (sI S 0 0 (nI (0))) t) (k9 + 1)))) H locs := w
      refine lv_istore_n (lv' := [(2, .int (nI (k9))), (1, .int (spX (sI S 0 0 (nI (0))) t)), (0, .ref (ad (0)))]) hx hbc dX8_keep_27 rfl hl (by decide) rfl (fun ls hl => ?_)
      refine lv_iload_n hx hbc dX8_keep_28 rfl (lv_at hl 0 rfl) ?_
      refine lv_if_ge (tgt := 44) hx hbc dX8_keep_29 (by decide) (fun c_29 => ?_) (fun c_29 => ?_)
      · refine lv_aload_n hx hbc dX8_keep_44 rfl (lv_at hl 2 rfl) ?_
        refine lv_aload_n hx hbc dX8_keep_45 rfl (lv_at hl 2 rfl) ?_
        refine wb_gi (v := nI (cnt (S.2.1 30) (spX (sI S 0 0 (nI (0))) t) (k9 + 1))) hx hbc hg hown w inG_X8 0 (by decide) rfl rfl 39 (by decide) rfl wk_706 rfl dX8_keep_46 ?_
        refine wb_pi (v := nI (cnt (S.2.1 30) (spX (sI S 0 0 (nI (0))) t) (k9 + 1))) hx hbc hg hown w inG_X8 tyX8 tyX8_ok nmX8 0 (by decide) rfl rfl 38 (by decide) rfl wk_705 rfl rfl rfl rfl dX8_keep_49 (fun H locs w => ?_)
        refine lv_iload_n hx hbc dX8_keep_52 rfl (lv_at hl 0 rfl) ?_
        refine lv_if_ge (tgt := 121) hx hbc dX8_keep_53 (by decide) (fun c_53 => ?_) (fun c_53 => ?_)
        · refine lv_aload_n hx hbc dX8_keep_121 rfl (lv_at hl 2 rfl) ?_
          refine lv_iconst (v := nI (0)) hx hbc dX8_keep_122 (by decide) ?_
          refine wb_pi (v := nI (0)) hx hbc hg hown w inG_X8 tyX8 tyX8_ok nmX8 0 (by decide) rfl rfl 12 (by decide) rfl wk_679 rfl rfl rfl rfl dX8_keep_123 (fun H locs w => ?_)
          refine lv_iload_n hx hbc dX8_keep_126 rfl (lv_at hl 0 rfl) ?_
          exact hend _ _ _ _ _ _ (Or.inr (Or.inr (Or.inl ⟨(by omega), k9, hk9, hsp, hri, hno, rfl, rfl⟩))) rfl w dX8_keep_127
        · exact absurd (nI_pos' (by omega)) c_53
      · exact absurd (nI_pos' (by omega)) c_29
    · skip
      have w : WB D (tyM cy) 31 cy ad skM A s (sI (spS (sI S 0 0 (nI (0))) t q) 0 39 (nI (cnt (S.2.1 30) (spX (sI S 0 0 (nI (0))) t) R9))) H locs := w
      refine lv_istore_n (lv' := [(2, .int ((-1))), (1, .int (spX (sI S 0 0 (nI (0))) t)), (0, .ref (ad (0)))]) hx hbc dX8_keep_27 rfl hl (by decide) rfl (fun ls hl => ?_)
      refine lv_iload_n hx hbc dX8_keep_28 rfl (lv_at hl 0 rfl) ?_
      refine lv_if_ge (tgt := 44) hx hbc dX8_keep_29 (by decide) (fun c_29 => ?_) (fun c_29 => ?_)
      · exact absurd c_29 (by decide)
      · refine lv_aload_n hx hbc dX8_keep_32 rfl (lv_at hl 2 rfl) ?_
        refine wb_gi (v := nI (R9)) hx hbc hg hown w inG_X8 0 (by decide) rfl rfl 34 (by decide) rfl wk_701 hR9 dX8_keep_33 ?_
        refine lv_bipush (v := nI (40)) hx hbc dX8_keep_36 (by decide) ?_
        refine n_cmp_ne (tgt := 44) (by omega) (by omega) hx hbc dX8_keep_38 (by decide) (fun c_38 => ?_) (fun c_38 => ?_)
        · refine lv_aload_n hx hbc dX8_keep_44 rfl (lv_at hl 2 rfl) ?_
          refine lv_aload_n hx hbc dX8_keep_45 rfl (lv_at hl 2 rfl) ?_
          refine wb_gi (v := nI (cnt (S.2.1 30) (spX (sI S 0 0 (nI (0))) t) R9)) hx hbc hg hown w inG_X8 0 (by decide) rfl rfl 39 (by decide) rfl wk_706 rfl dX8_keep_46 ?_
          refine wb_pi (v := nI (cnt (S.2.1 30) (spX (sI S 0 0 (nI (0))) t) R9)) hx hbc hg hown w inG_X8 tyX8 tyX8_ok nmX8 0 (by decide) rfl rfl 38 (by decide) rfl wk_705 rfl rfl rfl rfl dX8_keep_49 (fun H locs w => ?_)
          refine lv_iload_n hx hbc dX8_keep_52 rfl (lv_at hl 0 rfl) ?_
          refine lv_if_ge (tgt := 121) hx hbc dX8_keep_53 (by decide) (fun c_53 => ?_) (fun c_53 => ?_)
          · exact absurd c_53 (by decide)
          · refine lv_aload_n hx hbc dX8_keep_56 rfl (lv_at hl 2 rfl) ?_
            refine wb_gi (v := nI (R9)) hx hbc hg hown w inG_X8 0 (by decide) rfl rfl 34 (by decide) rfl wk_701 hR9 dX8_keep_57 ?_
            refine lv_istore_n (lv' := [(2, .int (nI (R9))), (1, .int (spX (sI S 0 0 (nI (0))) t)), (0, .ref (ad (0)))]) hx hbc dX8_keep_60 rfl hl (by decide) rfl (fun ls hl => ?_)
            refine lv_aload_n hx hbc dX8_keep_61 rfl (lv_at hl 2 rfl) ?_
            refine wb_gr (t := 28) hx hbc hg hown w inG_X8 0 (by decide) rfl rfl 35 (by decide) rfl wk_702 dX8_keep_62 ?_
            refine lv_iload_n hx hbc dX8_keep_65 rfl (lv_at hl 0 rfl) ?_
            refine lv_aload_n hx hbc dX8_keep_66 rfl (lv_at hl 2 rfl) ?_
            refine wb_gi (v := nI (t)) hx hbc hg hown w inG_X8 0 (by decide) rfl rfl 12 (by decide) rfl wk_679 ht dX8_keep_67 ?_
            refine wb_iast (k := R9) (f := S.2.1 28) hx hbc w 28 (by decide) rfl 0 rfl rfl (by omega) (by decide) rfl rfl dX8_keep_70 (fun H locs w => ?_)
            refine lv_aload_n hx hbc dX8_keep_71 rfl (lv_at hl 2 rfl) ?_
            refine wb_gr (t := 30) hx hbc hg hown w inG_X8 0 (by decide) rfl rfl 37 (by decide) rfl wk_704 dX8_keep_72 ?_
            refine lv_iload_n hx hbc dX8_keep_75 rfl (lv_at hl 0 rfl) ?_
            refine lv_iload_n hx hbc dX8_keep_76 rfl (lv_at hl 1 rfl) ?_
            refine wb_iast (k := R9) (f := S.2.1 30) hx hbc w 30 (by decide) rfl 0 rfl rfl (by omega) (by decide) rfl rfl dX8_keep_77 (fun H locs w => ?_)
            refine lv_iconst (v := nI (0)) hx hbc dX8_keep_78 (by decide) ?_
            refine lv_istore_n (lv' := [(3, .int (nI (0))), (2, .int (nI (R9))), (1, .int (spX (sI S 0 0 (nI (0))) t)), (0, .ref (ad (0)))]) hx hbc dX8_keep_79 rfl hl (by decide) rfl (fun ls hl => ?_)
            have lp_80 : ∀ (fu : Nat) (k : Nat) (H : Heap) (locs : List Loc) (ls : Array Slot), (t < k + fu) → (k ≤ t) → WB D (tyM cy) 31 cy ad skM A s (sB (sB (sB (sI (sI (spS (sI S 0 0 (nI (0))) t q) 0 39 (nI (cnt (S.2.1 30) (spX (sI S 0 0 (nI (0))) t) R9))) 0 38 (nI (cnt (S.2.1 30) (spX (sI S 0 0 (nI (0))) t) R9))) 28 (upd (S.2.1 28) R9 (nI (t)))) 30 (upd (S.2.1 30) R9 (spX (sI S 0 0 (nI (0))) t))) 29 (pts (S.2.1 29) (40 * R9) (S.2.1 10) k)) H locs → lv_has ls 4 [(0, .ref (ad (0))), (2, .int (nI (R9))), (3, .int (nI (k)))] → W p l e R s m args below meth c H locs 0 0 Q (F0 m 80 ls []) := by
              intro fu
              induction fu with
              | zero =>
                intro k H locs ls h1 h2 w hl
                exact absurd h1 (by omega)
              | succ fu ih_80 =>
                intro k H locs ls h1 h2 w hl
                refine lv_iload_n hx hbc dX8_keep_80 rfl (lv_at hl 2 rfl) ?_
                refine lv_aload_n hx hbc dX8_keep_81 rfl (lv_at hl 0 rfl) ?_
                refine wb_gi (v := nI (t)) hx hbc hg hown w inG_X8 0 (by decide) rfl rfl 12 (by decide) rfl wk_679 ht dX8_keep_82 ?_
                refine n_cmp_ge (tgt := 111) (by omega) (by omega) hx hbc dX8_keep_85 (by decide) (fun c_85 => ?_) (fun c_85 => ?_)
                · obtain rfl : t = k := by omega
                  refine lv_aload_n hx hbc dX8_keep_111 rfl (lv_at hl 0 rfl) ?_
                  refine lv_dup hx hbc dX8_keep_112 rfl ?_
                  refine wb_gi (v := nI (R9)) hx hbc hg hown w inG_X8 0 (by decide) rfl rfl 34 (by decide) rfl wk_701 hR9 dX8_keep_113 ?_
                  refine lv_iconst (v := nI (1)) hx hbc dX8_keep_116 (by decide) ?_
                  refine n_iadd hx hbc dX8_keep_117 ?_
                  refine wb_pi (v := nI (R9 + 1)) hx hbc hg hown w inG_X8 tyX8 tyX8_ok nmX8 0 (by decide) rfl rfl 34 (by decide) rfl wk_701 rfl rfl rfl rfl dX8_keep_118 (fun H locs w => ?_)
                  refine lv_aload_n hx hbc dX8_keep_121 rfl (lv_at hl 0 rfl) ?_
                  refine lv_iconst (v := nI (0)) hx hbc dX8_keep_122 (by decide) ?_
                  refine wb_pi (v := nI (0)) hx hbc hg hown w inG_X8 tyX8 tyX8_ok nmX8 0 (by decide) rfl rfl 12 (by decide) rfl wk_679 rfl rfl rfl rfl dX8_keep_123 (fun H locs w => ?_)
                  refine lv_iload_n hx hbc dX8_keep_126 rfl (lv_at hl 1 rfl) ?_
                  exact hend _ _ _ _ _ _ (Or.inr (Or.inr (Or.inr (⟨(by omega), hno, (by omega), rfl, rfl⟩)))) rfl w dX8_keep_127
                · refine lv_aload_n hx hbc dX8_keep_88 rfl (lv_at hl 0 rfl) ?_
                  refine wb_gr (t := 29) hx hbc hg hown w inG_X8 0 (by decide) rfl rfl 36 (by decide) rfl wk_703 dX8_keep_89 ?_
                  refine lv_bipush (v := nI (40)) hx hbc dX8_keep_92 (by decide) ?_
                  refine lv_iload_n hx hbc dX8_keep_94 rfl (lv_at hl 1 rfl) ?_
                  refine n_imul hx hbc dX8_keep_95 ?_
                  refine lv_iload_n hx hbc dX8_keep_96 rfl (lv_at hl 2 rfl) ?_
                  refine n_iadd hx hbc dX8_keep_97 ?_
                  refine lv_aload_n hx hbc dX8_keep_98 rfl (lv_at hl 0 rfl) ?_
                  refine wb_gr (t := 10) hx hbc hg hown w inG_X8 0 (by decide) rfl rfl 13 (by decide) rfl wk_680 dX8_keep_99 ?_
                  refine lv_iload_n hx hbc dX8_keep_102 rfl (lv_at hl 2 rfl) ?_
                  refine wb_iald (k := k) (v := (S.2.1 10) k) hx hbc w 10 (by decide) rfl 0 rfl rfl (by omega) (by decide) rfl dX8_keep_103 ?_
                  refine wb_iast (k := (40 * R9) + k) (f := pts (S.2.1 29) (40 * R9) (S.2.1 10) k) hx hbc w 29 (by decide) rfl 0 rfl rfl (by omega) (by decide) rfl rfl dX8_keep_104 (fun H locs w => ?_)
                  refine lv_iinc (v := nI (k + 1)) (lv' := [(3, .int (nI (k + 1))), (0, .ref (ad (0))), (2, .int (nI (R9)))]) hx hbc dX8_keep_105 hl (k := 2) rfl (ni_inc _ _) (by decide) rfl (fun ls hl => ?_)
                  refine lv_goto (tgt := 80) hx hbc dX8_keep_108 (by decide) ?_
                  exact ih_80 (k + 1) _ _ _ (by omega) (by omega) (WB_cast w (by rw [sB_sB]; rfl)) (lv_sub hl [1, 2, 0] rfl)
            exact lp_80 (t + 1) 0 _ _ _ (by omega) (by omega) (WB_cast w (sB_beg _ _ _ rfl)) (lv_sub hl [3, 1, 0] rfl)
        · refine lv_bipush (v := (-103)) hx hbc dX8_keep_41 (by decide) ?_
          exact hend _ _ _ _ _ _ (Or.inr (Or.inl ⟨(by omega), hno, c_38, rfl, rfl⟩)) rfl w dX8_keep_43
  · refine lv_bipush (v := (-102)) hx hbc dX8_keep_14 (by decide) ?_
    exact hend _ _ _ _ _ _ (Or.inl ⟨c_11, rfl, rfl⟩) rfl w dX8_keep_16
set_option maxHeartbeats 4000000 in
set_option maxRecDepth 100000 in
theorem k_X8_find (l : Launch) (D : va_G) (cy : Nat → ClassId) (ad : Nat → Nat) (S : wS) (t : Nat) (ht : S.1 0 12 = nI t) (ht2 : t ≤ 200) (q : Nat) (hq : S.1 0 11 = nI q) (R9 : Nat) (hR9 : S.1 0 34 = nI R9) (hR2 : R9 ≤ 40) (rz : Nat → Nat) (hrz : ∀ i, i < R9 → S.2.1 28 i = nI (rz i) ∧ rz i ≤ 40) : CtI l yX8_find (Cond.code yX8_find cX8_find 2 (some .int) :: wsG) 4 98 [.ref (ad (0))] D (tyM cy) 31 cy ad skM E0 (S) (fun r S' => (40 < t ∧ r = (-102) ∧ S' = sI S 0 0 (nI 0)) ∨ (t ≤ 40 ∧ ∃ k, k < R9 ∧ S.2.1 30 k = (spX (sI S 0 0 (nI 0)) t) ∧ rowIs S rz k t ∧ (∀ i, i < k → ¬ (S.2.1 30 i = (spX (sI S 0 0 (nI 0)) t) ∧ rowIs S rz i t)) ∧ r = nI k ∧ S' = sI (sI (sI (spS (sI S 0 0 (nI 0)) t q) 0 39 (nI (cnt (S.2.1 30) (spX (sI S 0 0 (nI 0)) t) (k + 1)))) 0 38 (nI (cnt (S.2.1 30) (spX (sI S 0 0 (nI 0)) t) (k + 1)))) 0 12 (nI 0)) ∨ (t ≤ 40 ∧ (∀ i, i < R9 → ¬ (S.2.1 30 i = (spX (sI S 0 0 (nI 0)) t) ∧ rowIs S rz i t)) ∧ r = (-1) ∧ S' = sI (sI (sI (spS (sI S 0 0 (nI 0)) t q) 0 39 (nI (cnt (S.2.1 30) (spX (sI S 0 0 (nI 0)) t) R9))) 0 38 (nI (cnt (S.2.1 30) (spX (sI S 0 0 (nI 0)) t) R9))) 0 12 (nI 0))) := by
  refine CtI_of (by decide) (Nat.le_of_ble_eq_true rfl) ?_
  intro p e s m args below meth c A ls R Q hB hRf hRl hend
  obtain ⟨hx, hbc, hr, hg, hown, hml, hlk, w, hE, hl⟩ := hB
  have hl : lv_has ls 2 [(0, .ref (ad (0)))] := hl
  refine lv_aload_n hx hbc dX8_find_0 rfl (lv_at hl 0 rfl) ?_
  refine lv_iconst (v := nI (0)) hx hbc dX8_find_1 (by decide) ?_
  refine wb_pi (v := nI (0)) hx hbc hg hown w inG_X8 tyX8 tyX8_ok nmX8 0 (by decide) rfl rfl 0 (by decide) rfl wk_667 rfl rfl rfl rfl dX8_find_2 (fun H locs w => ?_)
  refine lv_aload_n hx hbc dX8_find_5 rfl (lv_at hl 0 rfl) ?_
  refine wb_gi (v := nI (t)) hx hbc hg hown w inG_X8 0 (by decide) rfl rfl 12 (by decide) rfl wk_679 ht dX8_find_6 ?_
  refine lv_bipush (v := nI (40)) hx hbc dX8_find_9 (by decide) ?_
  refine n_cmp_le (tgt := 17) (by omega) (by omega) hx hbc dX8_find_11 (by decide) (fun c_11 => ?_) (fun c_11 => ?_)
  · refine lv_aload_n hx hbc dX8_find_17 rfl (lv_at hl 0 rfl) ?_
    refine lv_aload_n hx hbc dX8_find_18 rfl (lv_at hl 0 rfl) ?_
    refine wb_Vi (na := 0) (As := []) (rest := [.ref (ad (0))]) hx hbc hml hg hown w E0_ok trivial w.1 Sub.self 0 (by decide) rfl rfl (k_X8_spotOfTape l D cy ad (sI S 0 0 (nI (0))) t ht (by omega) q hq) wk_948 wk_9 wk_945 wk_947 ws_28 ⟨by decide, by decide, by decide⟩ ⟨by rw [hRf]; decide, by rw [hRl]; decide⟩ rfl hl.1 rfl (Nat.le_of_ble_eq_true rfl) dX8_find_19 ⟨Nat.zero_le _, Nat.zero_le _⟩ (fun r S9 H locs hp w => ?_)
    obtain ⟨hp, rfl⟩ := hp
    subst hp
    have w : WB D (tyM cy) 31 cy ad skM A s (spS (sI S 0 0 (nI (0))) t q) H locs := w
    refine wb_Vi (na := 1) (As := [.int (spX (sI S 0 0 (nI (0))) t)]) (rest := []) hx hbc hml hg hown w E0_ok trivial w.1 Sub.self 0 (by decide) rfl rfl (k_X8_look l D cy ad (spS (sI S 0 0 (nI (0))) t q) (spX (sI S 0 0 (nI (0))) t) t ht (by omega) R9 hR9 hR2 rz hrz) wk_952 wk_9 wk_949 wk_951 ws_29 ⟨by decide, by decide, by decide⟩ ⟨by rw [hRf]; decide, by rw [hRl]; decide⟩ rfl hl.1 rfl (Nat.le_of_ble_eq_true rfl) dX8_find_22 ⟨Nat.zero_le _, Nat.zero_le _⟩ (fun r S9 H locs hp w => ?_)
    rcases hp with ⟨k9, hk9, hsp, hri, hno, rfl, rfl⟩ | ⟨hno, rfl, rfl⟩
    · skip
      have w : WB D (tyM cy) 31 cy ad skM A s (sI (spS (sI S 0 0 (nI (0))) t q) 0 39 (nI (cnt (S.2.1 30) (spX (sI S 0 0 (nI (0))) t) (k9 + 1)))) H locs := w
      refine lv_istore_n (lv' := [(1, .int (nI (k9))), (0, .ref (ad (0)))]) hx hbc dX8_find_25 rfl hl (by decide) rfl (fun ls hl => ?_)
      refine lv_aload_n hx hbc dX8_find_26 rfl (lv_at hl 1 rfl) ?_
      refine lv_aload_n hx hbc dX8_find_27 rfl (lv_at hl 1 rfl) ?_
      refine wb_gi (v := nI (cnt (S.2.1 30) (spX (sI S 0 0 (nI (0))) t) (k9 + 1))) hx hbc hg hown w inG_X8 0 (by decide) rfl rfl 39 (by decide) rfl wk_706 rfl dX8_find_28 ?_
      refine wb_pi (v := nI (cnt (S.2.1 30) (spX (sI S 0 0 (nI (0))) t) (k9 + 1))) hx hbc hg hown w inG_X8 tyX8 tyX8_ok nmX8 0 (by decide) rfl rfl 38 (by decide) rfl wk_705 rfl rfl rfl rfl dX8_find_31 (fun H locs w => ?_)
      refine lv_aload_n hx hbc dX8_find_34 rfl (lv_at hl 1 rfl) ?_
      refine lv_iconst (v := nI (0)) hx hbc dX8_find_35 (by decide) ?_
      refine wb_pi (v := nI (0)) hx hbc hg hown w inG_X8 tyX8 tyX8_ok nmX8 0 (by decide) rfl rfl 12 (by decide) rfl wk_679 rfl rfl rfl rfl dX8_find_36 (fun H locs w => ?_)
      refine lv_iload_n hx hbc dX8_find_39 rfl (lv_at hl 0 rfl) ?_
      exact hend _ _ _ _ _ _ (Or.inr (Or.inl ⟨(by omega), k9, hk9, hsp, hri, hno, rfl, rfl⟩)) rfl w dX8_find_40
    · skip
      have w : WB D (tyM cy) 31 cy ad skM A s (sI (spS (sI S 0 0 (nI (0))) t q) 0 39 (nI (cnt (S.2.1 30) (spX (sI S 0 0 (nI (0))) t) R9))) H locs := w
      refine lv_istore_n (lv' := [(1, .int ((-1))), (0, .ref (ad (0)))]) hx hbc dX8_find_25 rfl hl (by decide) rfl (fun ls hl => ?_)
      refine lv_aload_n hx hbc dX8_find_26 rfl (lv_at hl 1 rfl) ?_
      refine lv_aload_n hx hbc dX8_find_27 rfl (lv_at hl 1 rfl) ?_
      refine wb_gi (v := nI (cnt (S.2.1 30) (spX (sI S 0 0 (nI (0))) t) R9)) hx hbc hg hown w inG_X8 0 (by decide) rfl rfl 39 (by decide) rfl wk_706 rfl dX8_find_28 ?_
      refine wb_pi (v := nI (cnt (S.2.1 30) (spX (sI S 0 0 (nI (0))) t) R9)) hx hbc hg hown w inG_X8 tyX8 tyX8_ok nmX8 0 (by decide) rfl rfl 38 (by decide) rfl wk_705 rfl rfl rfl rfl dX8_find_31 (fun H locs w => ?_)
      refine lv_aload_n hx hbc dX8_find_34 rfl (lv_at hl 1 rfl) ?_
      refine lv_iconst (v := nI (0)) hx hbc dX8_find_35 (by decide) ?_
      refine wb_pi (v := nI (0)) hx hbc hg hown w inG_X8 tyX8 tyX8_ok nmX8 0 (by decide) rfl rfl 12 (by decide) rfl wk_679 rfl rfl rfl rfl dX8_find_36 (fun H locs w => ?_)
      refine lv_iload_n hx hbc dX8_find_39 rfl (lv_at hl 0 rfl) ?_
      exact hend _ _ _ _ _ _ (Or.inr (Or.inr (⟨(by omega), hno, rfl, rfl⟩))) rfl w dX8_find_40
  · refine lv_bipush (v := (-102)) hx hbc dX8_find_14 (by decide) ?_
    exact hend _ _ _ _ _ _ (Or.inl ⟨c_11, rfl, rfl⟩) rfl w dX8_find_16
set_option maxHeartbeats 4000000 in
set_option maxRecDepth 100000 in
theorem k_X8_row (l : Launch) (D : va_G) (cy : Nat → ClassId) (ad : Nat → Nat) (S : wS) (a b : Int32) (R9 : Nat) (hR9 : S.1 0 34 = nI R9) (hR2 : R9 ≤ 40) (rz : Nat → Nat) (hrz : ∀ i, i < R9 → S.2.1 28 i = nI (rz i) ∧ rz i ≤ 40) : CtI l yX8_row (Cond.code yX8_row cX8_row 3 (some .byte) :: wsG) 1 22 [.ref (ad (0)), .int (a), .int (b)] D (tyM cy) 31 cy ad skM E0 (S) (fun r S' => (inF a (nI 0) (nI 39) = 0 ∧ r = nI 0 ∧ S' = sI S 0 0 (nI 2)) ∨ (∃ i, i ≤ 39 ∧ a = nI i ∧ R9 ≤ i ∧ r = nI 0 ∧ S' = sI S 0 0 (nI 1)) ∨ (∃ i, i < R9 ∧ a = nI i ∧ inF b (nI 0) (nI (rz i) - nI 1) = 0 ∧ r = nI 0 ∧ S' = sI S 0 0 (nI 2)) ∨ (∃ i k, i < R9 ∧ a = nI i ∧ k < rz i ∧ b = nI k ∧ r = (S.2.1 29 (40 * i + k)).toInt8.toInt32 ∧ S' = sI S 0 0 (nI 0))) := by
  refine CtI_of (by decide) (Nat.le_of_ble_eq_true rfl) ?_
  intro p e s m args below meth c A ls R Q hB hRf hRl hend
  obtain ⟨hx, hbc, hr, hg, hown, hml, hlk, w, hE, hl⟩ := hB
  have hl : lv_has ls 3 [(0, .ref (ad (0))), (1, .int (a)), (2, .int (b))] := hl
  refine lv_aload_n hx hbc dX8_row_0 rfl (lv_at hl 0 rfl) ?_
  refine lv_iload_n hx hbc dX8_row_1 rfl (lv_at hl 1 rfl) ?_
  refine lv_iconst (v := nI (0)) hx hbc dX8_row_2 (by decide) ?_
  refine lv_bipush (v := nI (39)) hx hbc dX8_row_3 (by decide) ?_
  refine wb_Si (na := 3) (As := [.int (a), .int (nI (0)), .int (nI (39))]) (rest := [.ref (ad (0))]) hx hbc hml hg hown w E0_ok trivial w.1 Sub.none (k_X8_in l D cy ad (S) a (nI (0)) (nI (39))) wk_799 wk_9 wk_797 wk_798 ⟨by decide, by decide, by decide⟩ ⟨by rw [hRf]; decide, by rw [hRl]; decide⟩ rfl hl.1 rfl (Nat.le_of_ble_eq_true rfl) dX8_row_5 ⟨Nat.zero_le _, Nat.zero_le _⟩ (fun r S9 H locs hp w => ?_)
  subst hp
  refine lv_if_ne (tgt := 15) hx hbc dX8_row_8 (by decide) (fun c_8 => ?_) (fun c_8 => ?_)
  · obtain ⟨i9, hi9, rfl⟩ := inF_nzb c_8 (by decide)
    refine lv_iload_n hx hbc dX8_row_15 rfl (lv_at hl 1 rfl) ?_
    refine lv_aload_n hx hbc dX8_row_16 rfl (lv_at hl 0 rfl) ?_
    refine wb_gi (v := nI (R9)) hx hbc hg hown w inG_X8 0 (by decide) rfl rfl 34 (by decide) rfl wk_701 hR9 dX8_row_17 ?_
    refine n_cmp_lt (tgt := 27) (by omega) (by omega) hx hbc dX8_row_20 (by decide) (fun c_20 => ?_) (fun c_20 => ?_)
    · obtain ⟨hr1, hr2⟩ := hrz i9 c_20
      refine lv_iload_n hx hbc dX8_row_27 rfl (lv_at hl 2 rfl) ?_
      refine lv_iconst (v := nI (0)) hx hbc dX8_row_28 (by decide) ?_
      refine lv_aload_n hx hbc dX8_row_29 rfl (lv_at hl 0 rfl) ?_
      refine wb_gr (t := 28) hx hbc hg hown w inG_X8 0 (by decide) rfl rfl 35 (by decide) rfl wk_702 dX8_row_30 ?_
      refine lv_iload_n hx hbc dX8_row_33 rfl (lv_at hl 1 rfl) ?_
      refine wb_iald (k := i9) (v := nI (rz i9)) hx hbc w 28 (by decide) rfl 0 rfl rfl (by omega) (by decide) hr1 dX8_row_34 ?_
      refine lv_iconst (v := nI (1)) hx hbc dX8_row_35 (by decide) ?_
      refine lv_isub hx hbc dX8_row_36 ?_
      refine wb_Si (na := 3) (As := [.int (b), .int (nI (0)), .int ((nI (rz i9)) - (nI (1)))]) (rest := [.ref (ad (0))]) hx hbc hml hg hown w E0_ok trivial w.1 Sub.none (k_X8_in l D cy ad (S) b (nI (0)) ((nI (rz i9)) - (nI (1)))) wk_799 wk_9 wk_797 wk_798 ⟨by decide, by decide, by decide⟩ ⟨by rw [hRf]; decide, by rw [hRl]; decide⟩ rfl hl.1 rfl (Nat.le_of_ble_eq_true rfl) dX8_row_37 ⟨Nat.zero_le _, Nat.zero_le _⟩ (fun r S9 H locs hp w => ?_)
      subst hp
      refine lv_if_eq (tgt := 47) hx hbc dX8_row_40 (by decide) (fun c_40 => ?_) (fun c_40 => ?_)
      · refine lv_iconst (v := nI (2)) hx hbc dX8_row_47 (by decide) ?_
        refine wb_pi (v := nI (2)) hx hbc hg hown w inG_X8 tyX8 tyX8_ok nmX8 0 (by decide) rfl rfl 0 (by decide) rfl wk_667 rfl rfl rfl rfl dX8_row_48 (fun H locs w => ?_)
        refine lv_aload_n hx hbc dX8_row_51 rfl (lv_at hl 0 rfl) ?_
        refine wb_gi (v := nI (2)) hx hbc hg hown w inG_X8 0 (by decide) rfl rfl 0 (by decide) rfl wk_667 rfl dX8_row_52 ?_
        refine lv_if_le (tgt := 62) hx hbc dX8_row_55 (by decide) (fun c_55 => ?_) (fun c_55 => ?_)
        · exact absurd c_55 (by decide)
        · refine lv_iconst (v := nI (0)) hx hbc dX8_row_58 (by decide) ?_
          refine lv_goto (tgt := 74) hx hbc dX8_row_59 (by decide) ?_
          exact hend _ _ _ _ _ _ (Or.inr (Or.inr (Or.inl ⟨i9, c_20, rfl, c_40, rfl, rfl⟩))) rfl w dX8_row_74
      · obtain ⟨k9, hk9, rfl⟩ := inF_nzd c_40 (by omega)
        refine lv_iconst (v := nI (0)) hx hbc dX8_row_43 (by decide) ?_
        refine lv_goto (tgt := 48) hx hbc dX8_row_44 (by decide) ?_
        refine wb_pi (v := nI (0)) hx hbc hg hown w inG_X8 tyX8 tyX8_ok nmX8 0 (by decide) rfl rfl 0 (by decide) rfl wk_667 rfl rfl rfl rfl dX8_row_48 (fun H locs w => ?_)
        refine lv_aload_n hx hbc dX8_row_51 rfl (lv_at hl 0 rfl) ?_
        refine wb_gi (v := nI (0)) hx hbc hg hown w inG_X8 0 (by decide) rfl rfl 0 (by decide) rfl wk_667 rfl dX8_row_52 ?_
        refine lv_if_le (tgt := 62) hx hbc dX8_row_55 (by decide) (fun c_55 => ?_) (fun c_55 => ?_)
        · refine lv_aload_n hx hbc dX8_row_62 rfl (lv_at hl 0 rfl) ?_
          refine wb_gr (t := 29) hx hbc hg hown w inG_X8 0 (by decide) rfl rfl 36 (by decide) rfl wk_703 dX8_row_63 ?_
          refine lv_bipush (v := nI (40)) hx hbc dX8_row_66 (by decide) ?_
          refine lv_iload_n hx hbc dX8_row_68 rfl (lv_at hl 1 rfl) ?_
          refine n_imul hx hbc dX8_row_69 ?_
          refine lv_iload_n hx hbc dX8_row_70 rfl (lv_at hl 2 rfl) ?_
          refine n_iadd hx hbc dX8_row_71 ?_
          refine wb_iald (k := (40 * i9) + k9) (v := (S.2.1 29) ((40 * i9) + k9)) hx hbc w 29 (by decide) rfl 0 rfl rfl (by omega) (by decide) rfl dX8_row_72 ?_
          refine lv_i2b hx hbc dX8_row_73 rfl ?_
          exact hend _ _ _ _ _ _ (Or.inr (Or.inr (Or.inr (⟨i9, k9, c_20, rfl, hk9, rfl, rfl, rfl⟩)))) (pk_nb _) w dX8_row_74
        · exact absurd c_55 (by decide)
    · refine lv_iconst (v := nI (1)) hx hbc dX8_row_23 (by decide) ?_
      refine lv_goto (tgt := 48) hx hbc dX8_row_24 (by decide) ?_
      refine wb_pi (v := nI (1)) hx hbc hg hown w inG_X8 tyX8 tyX8_ok nmX8 0 (by decide) rfl rfl 0 (by decide) rfl wk_667 rfl rfl rfl rfl dX8_row_48 (fun H locs w => ?_)
      refine lv_aload_n hx hbc dX8_row_51 rfl (lv_at hl 0 rfl) ?_
      refine wb_gi (v := nI (1)) hx hbc hg hown w inG_X8 0 (by decide) rfl rfl 0 (by decide) rfl wk_667 rfl dX8_row_52 ?_
      refine lv_if_le (tgt := 62) hx hbc dX8_row_55 (by decide) (fun c_55 => ?_) (fun c_55 => ?_)
      · exact absurd c_55 (by decide)
      · refine lv_iconst (v := nI (0)) hx hbc dX8_row_58 (by decide) ?_
        refine lv_goto (tgt := 74) hx hbc dX8_row_59 (by decide) ?_
        exact hend _ _ _ _ _ _ (Or.inr (Or.inl ⟨i9, hi9, rfl, c_20, rfl, rfl⟩)) rfl w dX8_row_74
  · refine lv_iconst (v := nI (2)) hx hbc dX8_row_11 (by decide) ?_
    refine lv_goto (tgt := 48) hx hbc dX8_row_12 (by decide) ?_
    refine wb_pi (v := nI (2)) hx hbc hg hown w inG_X8 tyX8 tyX8_ok nmX8 0 (by decide) rfl rfl 0 (by decide) rfl wk_667 rfl rfl rfl rfl dX8_row_48 (fun H locs w => ?_)
    refine lv_aload_n hx hbc dX8_row_51 rfl (lv_at hl 0 rfl) ?_
    refine wb_gi (v := nI (2)) hx hbc hg hown w inG_X8 0 (by decide) rfl rfl 0 (by decide) rfl wk_667 rfl dX8_row_52 ?_
    refine lv_if_le (tgt := 62) hx hbc dX8_row_55 (by decide) (fun c_55 => ?_) (fun c_55 => ?_)
    · exact absurd c_55 (by decide)
    · refine lv_iconst (v := nI (0)) hx hbc dX8_row_58 (by decide) ?_
      refine lv_goto (tgt := 74) hx hbc dX8_row_59 (by decide) ?_
      exact hend _ _ _ _ _ _ (Or.inl ⟨c_8, rfl, rfl⟩) rfl w dX8_row_74
set_option maxHeartbeats 4000000 in
set_option maxRecDepth 100000 in
theorem k_X8_pairs (l : Launch) (D : va_G) (cy : Nat → ClassId) (ad : Nat → Nat) (S : wS) (R9 : Nat) (hR9 : S.1 0 34 = nI R9) (hR2 : R9 ≤ 40) : CtI l yX8_pairs (Cond.code yX8_pairs cX8_pairs 4 (some .int) :: wsG) 0 0 [.ref (ad (0))] D (tyM cy) 31 cy ad skM E0 (S) (fun r S' => r = nI (pout (S.2.1 30) R9) ∧ S' = S) := by
  refine CtI_of (by decide) (Nat.le_of_ble_eq_true rfl) ?_
  intro p e s m args below meth c A ls R Q hB hRf hRl hend
  obtain ⟨hx, hbc, hr, hg, hown, hml, hlk, w, hE, hl⟩ := hB
  have hl : lv_has ls 4 [(0, .ref (ad (0)))] := hl
  refine lv_iconst (v := nI (0)) hx hbc dX8_pairs_0 (by decide) ?_
  refine lv_istore_n (lv' := [(1, .int (nI (0))), (0, .ref (ad (0)))]) hx hbc dX8_pairs_1 rfl hl (by decide) rfl (fun ls hl => ?_)
  refine lv_iconst (v := nI (0)) hx hbc dX8_pairs_2 (by decide) ?_
  refine lv_istore_n (lv' := [(2, .int (nI (0))), (1, .int (nI (0))), (0, .ref (ad (0)))]) hx hbc dX8_pairs_3 rfl hl (by decide) rfl (fun ls hl => ?_)
  have lp_4 : ∀ (fu : Nat) (a : Nat) (H : Heap) (locs : List Loc) (ls : Array Slot), (R9 < a + fu) → (a ≤ R9) → WB D (tyM cy) 31 cy ad skM A s (S) H locs → lv_has ls 4 [(0, .ref (ad (0))), (1, .int (nI (pout (S.2.1 30) a))), (2, .int (nI (a)))] → W p l e R s m args below meth c H locs 0 0 Q (F0 m 4 ls []) := by
    intro fu
    induction fu with
    | zero =>
      intro a H locs ls h1 h2 w hl
      exact absurd h1 (by omega)
    | succ fu ih_4 =>
      intro a H locs ls h1 h2 w hl
      refine lv_iload_n hx hbc dX8_pairs_4 rfl (lv_at hl 2 rfl) ?_
      refine lv_aload_n hx hbc dX8_pairs_5 rfl (lv_at hl 0 rfl) ?_
      refine wb_gi (v := nI (R9)) hx hbc hg hown w inG_X8 0 (by decide) rfl rfl 34 (by decide) rfl wk_701 hR9 dX8_pairs_6 ?_
      refine n_cmp_ge (tgt := 54) (by omega) (by omega) hx hbc dX8_pairs_9 (by decide) (fun c_9 => ?_) (fun c_9 => ?_)
      · refine lv_iload_n hx hbc dX8_pairs_54 rfl (lv_at hl 1 rfl) ?_
        exact hend _ _ _ _ _ _ ⟨(by obtain rfl : R9 = a := (by omega); rfl), rfl⟩ rfl w dX8_pairs_55
      · refine lv_iconst (v := nI (0)) hx hbc dX8_pairs_12 (by decide) ?_
        refine lv_istore_n (lv' := [(3, .int (nI (0))), (0, .ref (ad (0))), (1, .int (nI (pout (S.2.1 30) a))), (2, .int (nI (a)))]) hx hbc dX8_pairs_13 rfl hl (by decide) rfl (fun ls hl => ?_)
        have lp_14 : ∀ (fu : Nat) (b : Nat) (H : Heap) (locs : List Loc) (ls : Array Slot), (a < b + fu) → (b ≤ a) → WB D (tyM cy) 31 cy ad skM A s (S) H locs → lv_has ls 4 [(0, .ref (ad (0))), (1, .int (nI (pout (S.2.1 30) a + pin (S.2.1 30) a b))), (2, .int (nI (a))), (3, .int (nI (b)))] → W p l e R s m args below meth c H locs 0 0 Q (F0 m 14 ls []) := by
          intro fu
          induction fu with
          | zero =>
            intro b H locs ls g1 g2 w hl
            exact absurd g1 (by omega)
          | succ fu ih_14 =>
            intro b H locs ls g1 g2 w hl
            refine lv_iload_n hx hbc dX8_pairs_14 rfl (lv_at hl 3 rfl) ?_
            refine lv_iload_n hx hbc dX8_pairs_15 rfl (lv_at hl 2 rfl) ?_
            refine n_cmp_ge (tgt := 48) (by omega) (by omega) hx hbc dX8_pairs_16 (by decide) (fun c_16 => ?_) (fun c_16 => ?_)
            · obtain rfl : a = b := by omega
              have hl := lv_sub (l' := [(0, .ref (ad (0))), (1, .int (nI (pout (S.2.1 30) (a + 1)))), (2, .int (nI (a)))]) hl [0, 1, 2] rfl
              refine lv_iinc (v := nI (a + 1)) (lv' := [(2, .int (nI (a + 1))), (0, .ref (ad (0))), (1, .int (nI (pout (S.2.1 30) (a + 1))))]) hx hbc dX8_pairs_48 hl (k := 2) rfl (ni_inc _ _) (by decide) rfl (fun ls hl => ?_)
              refine lv_goto (tgt := 4) hx hbc dX8_pairs_51 (by decide) ?_
              exact ih_4 (a + 1) _ _ _ (by omega) (by omega) w (lv_sub hl [1, 2, 0] rfl)
            · refine lv_iload_n hx hbc dX8_pairs_19 rfl (lv_at hl 1 rfl) ?_
              refine lv_aload_n hx hbc dX8_pairs_20 rfl (lv_at hl 0 rfl) ?_
              refine wb_gr (t := 30) hx hbc hg hown w inG_X8 0 (by decide) rfl rfl 37 (by decide) rfl wk_704 dX8_pairs_21 ?_
              refine lv_iload_n hx hbc dX8_pairs_24 rfl (lv_at hl 2 rfl) ?_
              refine wb_iald (k := a) (v := (S.2.1 30) a) hx hbc w 30 (by decide) rfl 0 rfl rfl (by omega) (by decide) rfl dX8_pairs_25 ?_
              refine lv_aload_n hx hbc dX8_pairs_26 rfl (lv_at hl 0 rfl) ?_
              refine wb_gr (t := 30) hx hbc hg hown w inG_X8 0 (by decide) rfl rfl 37 (by decide) rfl wk_704 dX8_pairs_27 ?_
              refine lv_iload_n hx hbc dX8_pairs_30 rfl (lv_at hl 3 rfl) ?_
              refine wb_iald (k := b) (v := (S.2.1 30) b) hx hbc w 30 (by decide) rfl 0 rfl rfl (by omega) (by decide) rfl dX8_pairs_31 ?_
              refine lv_icmp_ne (tgt := 39) hx hbc dX8_pairs_32 (by decide) (fun c_32 => ?_) (fun c_32 => ?_)
              · refine lv_iconst (v := nI (0)) hx hbc dX8_pairs_39 (by decide) ?_
                refine n_iadd hx hbc dX8_pairs_40 ?_
                refine lv_ri (y := nI (pout (S.2.1 30) a + pin (S.2.1 30) a (b + 1))) (by simp only [pin]; rw [if_neg c_32]; rfl) ?_
                refine lv_istore_n (lv' := [(1, .int (nI (pout (S.2.1 30) a + pin (S.2.1 30) a (b + 1)))), (0, .ref (ad (0))), (2, .int (nI (a))), (3, .int (nI (b)))]) hx hbc dX8_pairs_41 rfl hl (by decide) rfl (fun ls hl => ?_)
                refine lv_iinc (v := nI (b + 1)) (lv' := [(3, .int (nI (b + 1))), (1, .int (nI (pout (S.2.1 30) a + pin (S.2.1 30) a (b + 1)))), (0, .ref (ad (0))), (2, .int (nI (a)))]) hx hbc dX8_pairs_42 hl (k := 3) rfl (ni_inc _ _) (by decide) rfl (fun ls hl => ?_)
                refine lv_goto (tgt := 14) hx hbc dX8_pairs_45 (by decide) ?_
                exact ih_14 (b + 1) _ _ _ (by omega) (by omega) w (lv_sub hl [2, 1, 3, 0] rfl)
              · refine lv_iconst (v := nI (1)) hx hbc dX8_pairs_35 (by decide) ?_
                refine lv_goto (tgt := 40) hx hbc dX8_pairs_36 (by decide) ?_
                refine n_iadd hx hbc dX8_pairs_40 ?_
                refine lv_ri (y := nI (pout (S.2.1 30) a + pin (S.2.1 30) a (b + 1))) (by simp only [pin]; rw [if_pos c_32]; rfl) ?_
                refine lv_istore_n (lv' := [(1, .int (nI (pout (S.2.1 30) a + pin (S.2.1 30) a (b + 1)))), (0, .ref (ad (0))), (2, .int (nI (a))), (3, .int (nI (b)))]) hx hbc dX8_pairs_41 rfl hl (by decide) rfl (fun ls hl => ?_)
                refine lv_iinc (v := nI (b + 1)) (lv' := [(3, .int (nI (b + 1))), (1, .int (nI (pout (S.2.1 30) a + pin (S.2.1 30) a (b + 1)))), (0, .ref (ad (0))), (2, .int (nI (a)))]) hx hbc dX8_pairs_42 hl (k := 3) rfl (ni_inc _ _) (by decide) rfl (fun ls hl => ?_)
                refine lv_goto (tgt := 14) hx hbc dX8_pairs_45 (by decide) ?_
                exact ih_14 (b + 1) _ _ _ (by omega) (by omega) w (lv_sub hl [2, 1, 3, 0] rfl)
        exact lp_14 (a + 1) 0 _ _ _ (by omega) (by omega) w (lv_sub hl [1, 2, 3, 0] rfl)
  exact lp_4 (R9 + 1) 0 _ _ _ (by omega) (by omega) w (lv_sub hl [2, 1, 0] rfl)
set_option maxHeartbeats 4000000 in
set_option maxRecDepth 100000 in
theorem k_X8_about (l : Launch) (D : va_G) (cy : Nat → ClassId) (ad : Nat → Nat) (S : wS) (x : Int32) (R9 : Nat) (hR9 : S.1 0 34 = nI R9) (hR2 : R9 ≤ 40) : CtI l yX8_about (Cond.code yX8_about cX8_about 2 (some .int) :: wsG) 1 23 [.ref (ad (0)), .int (x)] D (tyM cy) 31 cy ad skM E0 (S) (fun r S' => (x = nI 0 ∧ r = S.1 0 12 ∧ S' = sI S 0 0 (nI 0)) ∨ (x = nI 1 ∧ r = S.1 0 16 ∧ S' = sI S 0 0 (nI 0)) ∨ (x = nI 2 ∧ r = S.1 0 34 ∧ S' = sI S 0 0 (nI 0)) ∨ (x = nI 3 ∧ r = nI (pout (S.2.1 30) R9) ∧ S' = sI S 0 0 (nI 0)) ∨ (x = nI 4 ∧ r = S.1 0 38 ∧ S' = sI S 0 0 (nI 0)) ∨ (x = nI 5 ∧ r = nI 1 ∧ S' = sI S 0 0 (nI 0)) ∨ ((x.toInt < 0 ∨ (5 : Int) < x.toInt) ∧ r = (-102) ∧ S' = sI S 0 0 (nI 0))) := by
  refine CtI_of (by decide) (Nat.le_of_ble_eq_true rfl) ?_
  intro p e s m args below meth c A ls R Q hB hRf hRl hend
  obtain ⟨hx, hbc, hr, hg, hown, hml, hlk, w, hE, hl⟩ := hB
  have hl : lv_has ls 2 [(0, .ref (ad (0))), (1, .int (x))] := hl
  refine lv_aload_n hx hbc dX8_about_0 rfl (lv_at hl 0 rfl) ?_
  refine lv_iconst (v := nI (0)) hx hbc dX8_about_1 (by decide) ?_
  refine wb_pi (v := nI (0)) hx hbc hg hown w inG_X8 tyX8 tyX8_ok nmX8 0 (by decide) rfl rfl 0 (by decide) rfl wk_667 rfl rfl rfl rfl dX8_about_2 (fun H locs w => ?_)
  refine lv_iload_n hx hbc dX8_about_5 rfl (lv_at hl 1 rfl) ?_
  rcases sw_in x 5 (by decide) with ⟨k9, hk9, rfl⟩ | hsw
  · rcases (show k9 = 0 ∨ k9 = 1 ∨ k9 = 2 ∨ k9 = 3 ∨ k9 = 4 ∨ k9 = 5 by omega) with rfl | rfl | rfl | rfl | rfl | rfl
    · skip
      refine lv_tableIn (tgt := 44) hx hbc dX8_about_6 (by decide) (by decide) rfl (by decide) ?_
      refine lv_aload_n hx hbc dX8_about_44 rfl (lv_at hl 0 rfl) ?_
      refine wb_gi (v := S.1 0 12) hx hbc hg hown w inG_X8 0 (by decide) rfl rfl 12 (by decide) rfl wk_679 rfl dX8_about_45 ?_
      exact hend _ _ _ _ _ _ (Or.inl ⟨rfl, rfl, rfl⟩) rfl w dX8_about_48
    · skip
      refine lv_tableIn (tgt := 49) hx hbc dX8_about_6 (by decide) (by decide) rfl (by decide) ?_
      refine lv_aload_n hx hbc dX8_about_49 rfl (lv_at hl 0 rfl) ?_
      refine wb_gi (v := S.1 0 16) hx hbc hg hown w inG_X8 0 (by decide) rfl rfl 16 (by decide) rfl wk_683 rfl dX8_about_50 ?_
      exact hend _ _ _ _ _ _ (Or.inr (Or.inl ⟨rfl, rfl, rfl⟩)) rfl w dX8_about_53
    · skip
      refine lv_tableIn (tgt := 54) hx hbc dX8_about_6 (by decide) (by decide) rfl (by decide) ?_
      refine lv_aload_n hx hbc dX8_about_54 rfl (lv_at hl 0 rfl) ?_
      refine wb_gi (v := nI (R9)) hx hbc hg hown w inG_X8 0 (by decide) rfl rfl 34 (by decide) rfl wk_701 hR9 dX8_about_55 ?_
      exact hend _ _ _ _ _ _ (Or.inr (Or.inr (Or.inl ⟨rfl, hR9.symm, rfl⟩))) rfl w dX8_about_58
    · skip
      refine lv_tableIn (tgt := 59) hx hbc dX8_about_6 (by decide) (by decide) rfl (by decide) ?_
      refine lv_aload_n hx hbc dX8_about_59 rfl (lv_at hl 0 rfl) ?_
      refine wb_Vi (na := 0) (As := []) (rest := []) hx hbc hml hg hown w E0_ok trivial w.1 Sub.self 0 (by decide) rfl rfl (k_X8_pairs l D cy ad (sI S 0 0 (nI (0))) R9 hR9 hR2) wk_972 wk_9 wk_969 wk_971 ws_31 ⟨by decide, by decide, by decide⟩ ⟨by rw [hRf]; decide, by rw [hRl]; decide⟩ rfl hl.1 rfl (Nat.le_of_ble_eq_true rfl) dX8_about_60 ⟨Nat.zero_le _, Nat.zero_le _⟩ (fun r S9 H locs hp w => ?_)
      obtain ⟨hp, rfl⟩ := hp
      subst hp
      have w : WB D (tyM cy) 31 cy ad skM A s (sI S 0 0 (nI (0))) H locs := w
      exact hend _ _ _ _ _ _ (Or.inr (Or.inr (Or.inr (Or.inl ⟨rfl, rfl, rfl⟩)))) rfl w dX8_about_63
    · skip
      refine lv_tableIn (tgt := 64) hx hbc dX8_about_6 (by decide) (by decide) rfl (by decide) ?_
      refine lv_aload_n hx hbc dX8_about_64 rfl (lv_at hl 0 rfl) ?_
      refine wb_gi (v := S.1 0 38) hx hbc hg hown w inG_X8 0 (by decide) rfl rfl 38 (by decide) rfl wk_705 rfl dX8_about_65 ?_
      exact hend _ _ _ _ _ _ (Or.inr (Or.inr (Or.inr (Or.inr (Or.inl ⟨rfl, rfl, rfl⟩))))) rfl w dX8_about_68
    · skip
      refine lv_tableIn (tgt := 69) hx hbc dX8_about_6 (by decide) (by decide) rfl (by decide) ?_
      refine lv_iconst (v := nI (1)) hx hbc dX8_about_69 (by decide) ?_
      exact hend _ _ _ _ _ _ (Or.inr (Or.inr (Or.inr (Or.inr (Or.inr (Or.inl ⟨rfl, rfl, rfl⟩)))))) rfl w dX8_about_70
  · skip
    refine lv_tableOut (tgt := 71) hx hbc dX8_about_6 hsw (by decide) ?_
    refine lv_bipush (v := (-102)) hx hbc dX8_about_71 (by decide) ?_
    exact hend _ _ _ _ _ _ (Or.inr (Or.inr (Or.inr (Or.inr (Or.inr (Or.inr (⟨hsw, rfl, rfl⟩))))))) rfl w dX8_about_73
def clS (S : wS) : wS := sB (sB (sB (sB (sB (sB (sB (sB (sI (sI (sI (sI (sI (sI (sI S 0 0 (nI (0))) 0 12 (nI (0))) 0 14 (nI (0))) 0 16 (nI (0))) 0 32 (nI (0))) 0 34 (nI (0))) 0 38 (nI (0))) 22 (upd (S.2.1 22) 0 (nI (0)))) 20 (upd (S.2.1 20) 0 ((-1)))) 22 (upd (upd (S.2.1 22) 0 (nI (0))) 1 (nI (0)))) 20 (upd (upd (S.2.1 20) 0 ((-1))) 1 ((-1)))) 22 (upd (upd (upd (S.2.1 22) 0 (nI (0))) 1 (nI (0))) 2 (nI (0)))) 20 (upd (upd (upd (S.2.1 20) 0 ((-1))) 1 ((-1))) 2 ((-1)))) 22 (upd (upd (upd (upd (S.2.1 22) 0 (nI (0))) 1 (nI (0))) 2 (nI (0))) 3 (nI (0)))) 20 (upd (upd (upd (upd (S.2.1 20) 0 ((-1))) 1 ((-1))) 2 ((-1))) 3 ((-1)))
set_option maxHeartbeats 4000000 in
set_option maxRecDepth 100000 in
theorem k_X8_clear (l : Launch) (D : va_G) (cy : Nat → ClassId) (ad : Nat → Nat) (S : wS)  : CtI l yX8_clear (Cond.code yX8_clear cX8_clear 3 (some .int) :: wsG) 0 0 [.ref (ad (0))] D (tyM cy) 31 cy ad skM E0 (S) (fun r S' => r = S.1 0 16 ∧ S' = clS S) := by
  refine CtI_of (by decide) (Nat.le_of_ble_eq_true rfl) ?_
  intro p e s m args below meth c A ls R Q hB hRf hRl hend
  obtain ⟨hx, hbc, hr, hg, hown, hml, hlk, w, hE, hl⟩ := hB
  have hl : lv_has ls 3 [(0, .ref (ad (0)))] := hl
  refine lv_aload_n hx hbc dX8_clear_0 rfl (lv_at hl 0 rfl) ?_
  refine lv_iconst (v := nI (0)) hx hbc dX8_clear_1 (by decide) ?_
  refine wb_pi (v := nI (0)) hx hbc hg hown w inG_X8 tyX8 tyX8_ok nmX8 0 (by decide) rfl rfl 0 (by decide) rfl wk_667 rfl rfl rfl rfl dX8_clear_2 (fun H locs w => ?_)
  refine lv_aload_n hx hbc dX8_clear_5 rfl (lv_at hl 0 rfl) ?_
  refine wb_gi (v := S.1 0 16) hx hbc hg hown w inG_X8 0 (by decide) rfl rfl 16 (by decide) rfl wk_683 rfl dX8_clear_6 ?_
  refine lv_istore_n (lv' := [(1, .int (S.1 0 16)), (0, .ref (ad (0)))]) hx hbc dX8_clear_9 rfl hl (by decide) rfl (fun ls hl => ?_)
  refine lv_aload_n hx hbc dX8_clear_10 rfl (lv_at hl 1 rfl) ?_
  refine lv_iconst (v := nI (0)) hx hbc dX8_clear_11 (by decide) ?_
  refine wb_pi (v := nI (0)) hx hbc hg hown w inG_X8 tyX8 tyX8_ok nmX8 0 (by decide) rfl rfl 12 (by decide) rfl wk_679 rfl rfl rfl rfl dX8_clear_12 (fun H locs w => ?_)
  refine lv_aload_n hx hbc dX8_clear_15 rfl (lv_at hl 1 rfl) ?_
  refine lv_iconst (v := nI (0)) hx hbc dX8_clear_16 (by decide) ?_
  refine wb_pi (v := nI (0)) hx hbc hg hown w inG_X8 tyX8 tyX8_ok nmX8 0 (by decide) rfl rfl 14 (by decide) rfl wk_681 rfl rfl rfl rfl dX8_clear_17 (fun H locs w => ?_)
  refine lv_aload_n hx hbc dX8_clear_20 rfl (lv_at hl 1 rfl) ?_
  refine lv_iconst (v := nI (0)) hx hbc dX8_clear_21 (by decide) ?_
  refine wb_pi (v := nI (0)) hx hbc hg hown w inG_X8 tyX8 tyX8_ok nmX8 0 (by decide) rfl rfl 16 (by decide) rfl wk_683 rfl rfl rfl rfl dX8_clear_22 (fun H locs w => ?_)
  refine lv_aload_n hx hbc dX8_clear_25 rfl (lv_at hl 1 rfl) ?_
  refine lv_iconst (v := nI (0)) hx hbc dX8_clear_26 (by decide) ?_
  refine wb_pi (v := nI (0)) hx hbc hg hown w inG_X8 tyX8 tyX8_ok nmX8 0 (by decide) rfl rfl 32 (by decide) rfl wk_699 rfl rfl rfl rfl dX8_clear_27 (fun H locs w => ?_)
  refine lv_aload_n hx hbc dX8_clear_30 rfl (lv_at hl 1 rfl) ?_
  refine lv_iconst (v := nI (0)) hx hbc dX8_clear_31 (by decide) ?_
  refine wb_pi (v := nI (0)) hx hbc hg hown w inG_X8 tyX8 tyX8_ok nmX8 0 (by decide) rfl rfl 34 (by decide) rfl wk_701 rfl rfl rfl rfl dX8_clear_32 (fun H locs w => ?_)
  refine lv_aload_n hx hbc dX8_clear_35 rfl (lv_at hl 1 rfl) ?_
  refine lv_iconst (v := nI (0)) hx hbc dX8_clear_36 (by decide) ?_
  refine wb_pi (v := nI (0)) hx hbc hg hown w inG_X8 tyX8 tyX8_ok nmX8 0 (by decide) rfl rfl 38 (by decide) rfl wk_705 rfl rfl rfl rfl dX8_clear_37 (fun H locs w => ?_)
  refine lv_iconst (v := nI (0)) hx hbc dX8_clear_40 (by decide) ?_
  refine lv_istore_n (lv' := [(2, .int (nI (0))), (1, .int (S.1 0 16)), (0, .ref (ad (0)))]) hx hbc dX8_clear_41 rfl hl (by decide) rfl (fun ls hl => ?_)
  refine lv_iload_n hx hbc dX8_clear_42 rfl (lv_at hl 0 rfl) ?_
  refine lv_iconst (v := nI (4)) hx hbc dX8_clear_43 (by decide) ?_
  refine n_cmp_ge (tgt := 67) (by omega) (by omega) hx hbc dX8_clear_44 (by decide) (fun c_44 => ?_) (fun c_44 => ?_)
  · exact absurd c_44 (by decide)
  · refine lv_aload_n hx hbc dX8_clear_47 rfl (lv_at hl 2 rfl) ?_
    refine wb_gr (t := 22) hx hbc hg hown w inG_X8 0 (by decide) rfl rfl 27 (by decide) rfl wk_694 dX8_clear_48 ?_
    refine lv_iload_n hx hbc dX8_clear_51 rfl (lv_at hl 0 rfl) ?_
    refine lv_iconst (v := nI (0)) hx hbc dX8_clear_52 (by decide) ?_
    refine wb_iast (k := 0) (f := S.2.1 22) hx hbc w 22 (by decide) rfl 0 rfl rfl (by omega) (by decide) rfl rfl dX8_clear_53 (fun H locs w => ?_)
    refine lv_aload_n hx hbc dX8_clear_54 rfl (lv_at hl 2 rfl) ?_
    refine wb_gr (t := 20) hx hbc hg hown w inG_X8 0 (by decide) rfl rfl 25 (by decide) rfl wk_692 dX8_clear_55 ?_
    refine lv_iload_n hx hbc dX8_clear_58 rfl (lv_at hl 0 rfl) ?_
    refine lv_iconst (v := (-1)) hx hbc dX8_clear_59 (by decide) ?_
    refine wb_iast (k := 0) (f := S.2.1 20) hx hbc w 20 (by decide) rfl 0 rfl rfl (by omega) (by decide) rfl rfl dX8_clear_60 (fun H locs w => ?_)
    refine lv_iinc (v := nI (1)) (lv' := [(2, .int (nI (1))), (1, .int (S.1 0 16)), (0, .ref (ad (0)))]) hx hbc dX8_clear_61 hl (k := 0) rfl (by decide) (by decide) rfl (fun ls hl => ?_)
    refine lv_goto (tgt := 42) hx hbc dX8_clear_64 (by decide) ?_
    refine lv_iload_n hx hbc dX8_clear_42 rfl (lv_at hl 0 rfl) ?_
    refine lv_iconst (v := nI (4)) hx hbc dX8_clear_43 (by decide) ?_
    refine n_cmp_ge (tgt := 67) (by omega) (by omega) hx hbc dX8_clear_44 (by decide) (fun c_44 => ?_) (fun c_44 => ?_)
    · exact absurd c_44 (by decide)
    · refine lv_aload_n hx hbc dX8_clear_47 rfl (lv_at hl 2 rfl) ?_
      refine wb_gr (t := 22) hx hbc hg hown w inG_X8 0 (by decide) rfl rfl 27 (by decide) rfl wk_694 dX8_clear_48 ?_
      refine lv_iload_n hx hbc dX8_clear_51 rfl (lv_at hl 0 rfl) ?_
      refine lv_iconst (v := nI (0)) hx hbc dX8_clear_52 (by decide) ?_
      refine wb_iast (k := 1) (f := upd (S.2.1 22) 0 (nI (0))) hx hbc w 22 (by decide) rfl 0 rfl rfl (by omega) (by decide) rfl rfl dX8_clear_53 (fun H locs w => ?_)
      refine lv_aload_n hx hbc dX8_clear_54 rfl (lv_at hl 2 rfl) ?_
      refine wb_gr (t := 20) hx hbc hg hown w inG_X8 0 (by decide) rfl rfl 25 (by decide) rfl wk_692 dX8_clear_55 ?_
      refine lv_iload_n hx hbc dX8_clear_58 rfl (lv_at hl 0 rfl) ?_
      refine lv_iconst (v := (-1)) hx hbc dX8_clear_59 (by decide) ?_
      refine wb_iast (k := 1) (f := upd (S.2.1 20) 0 ((-1))) hx hbc w 20 (by decide) rfl 0 rfl rfl (by omega) (by decide) rfl rfl dX8_clear_60 (fun H locs w => ?_)
      refine lv_iinc (v := nI (2)) (lv' := [(2, .int (nI (2))), (1, .int (S.1 0 16)), (0, .ref (ad (0)))]) hx hbc dX8_clear_61 hl (k := 0) rfl (by decide) (by decide) rfl (fun ls hl => ?_)
      refine lv_goto (tgt := 42) hx hbc dX8_clear_64 (by decide) ?_
      refine lv_iload_n hx hbc dX8_clear_42 rfl (lv_at hl 0 rfl) ?_
      refine lv_iconst (v := nI (4)) hx hbc dX8_clear_43 (by decide) ?_
      refine n_cmp_ge (tgt := 67) (by omega) (by omega) hx hbc dX8_clear_44 (by decide) (fun c_44 => ?_) (fun c_44 => ?_)
      · exact absurd c_44 (by decide)
      · refine lv_aload_n hx hbc dX8_clear_47 rfl (lv_at hl 2 rfl) ?_
        refine wb_gr (t := 22) hx hbc hg hown w inG_X8 0 (by decide) rfl rfl 27 (by decide) rfl wk_694 dX8_clear_48 ?_
        refine lv_iload_n hx hbc dX8_clear_51 rfl (lv_at hl 0 rfl) ?_
        refine lv_iconst (v := nI (0)) hx hbc dX8_clear_52 (by decide) ?_
        refine wb_iast (k := 2) (f := upd (upd (S.2.1 22) 0 (nI (0))) 1 (nI (0))) hx hbc w 22 (by decide) rfl 0 rfl rfl (by omega) (by decide) rfl rfl dX8_clear_53 (fun H locs w => ?_)
        refine lv_aload_n hx hbc dX8_clear_54 rfl (lv_at hl 2 rfl) ?_
        refine wb_gr (t := 20) hx hbc hg hown w inG_X8 0 (by decide) rfl rfl 25 (by decide) rfl wk_692 dX8_clear_55 ?_
        refine lv_iload_n hx hbc dX8_clear_58 rfl (lv_at hl 0 rfl) ?_
        refine lv_iconst (v := (-1)) hx hbc dX8_clear_59 (by decide) ?_
        refine wb_iast (k := 2) (f := upd (upd (S.2.1 20) 0 ((-1))) 1 ((-1))) hx hbc w 20 (by decide) rfl 0 rfl rfl (by omega) (by decide) rfl rfl dX8_clear_60 (fun H locs w => ?_)
        refine lv_iinc (v := nI (3)) (lv' := [(2, .int (nI (3))), (1, .int (S.1 0 16)), (0, .ref (ad (0)))]) hx hbc dX8_clear_61 hl (k := 0) rfl (by decide) (by decide) rfl (fun ls hl => ?_)
        refine lv_goto (tgt := 42) hx hbc dX8_clear_64 (by decide) ?_
        refine lv_iload_n hx hbc dX8_clear_42 rfl (lv_at hl 0 rfl) ?_
        refine lv_iconst (v := nI (4)) hx hbc dX8_clear_43 (by decide) ?_
        refine n_cmp_ge (tgt := 67) (by omega) (by omega) hx hbc dX8_clear_44 (by decide) (fun c_44 => ?_) (fun c_44 => ?_)
        · exact absurd c_44 (by decide)
        · refine lv_aload_n hx hbc dX8_clear_47 rfl (lv_at hl 2 rfl) ?_
          refine wb_gr (t := 22) hx hbc hg hown w inG_X8 0 (by decide) rfl rfl 27 (by decide) rfl wk_694 dX8_clear_48 ?_
          refine lv_iload_n hx hbc dX8_clear_51 rfl (lv_at hl 0 rfl) ?_
          refine lv_iconst (v := nI (0)) hx hbc dX8_clear_52 (by decide) ?_
          refine wb_iast (k := 3) (f := upd (upd (upd (S.2.1 22) 0 (nI (0))) 1 (nI (0))) 2 (nI (0))) hx hbc w 22 (by decide) rfl 0 rfl rfl (by omega) (by decide) rfl rfl dX8_clear_53 (fun H locs w => ?_)
          refine lv_aload_n hx hbc dX8_clear_54 rfl (lv_at hl 2 rfl) ?_
          refine wb_gr (t := 20) hx hbc hg hown w inG_X8 0 (by decide) rfl rfl 25 (by decide) rfl wk_692 dX8_clear_55 ?_
          refine lv_iload_n hx hbc dX8_clear_58 rfl (lv_at hl 0 rfl) ?_
          refine lv_iconst (v := (-1)) hx hbc dX8_clear_59 (by decide) ?_
          refine wb_iast (k := 3) (f := upd (upd (upd (S.2.1 20) 0 ((-1))) 1 ((-1))) 2 ((-1))) hx hbc w 20 (by decide) rfl 0 rfl rfl (by omega) (by decide) rfl rfl dX8_clear_60 (fun H locs w => ?_)
          refine lv_iinc (v := nI (4)) (lv' := [(2, .int (nI (4))), (1, .int (S.1 0 16)), (0, .ref (ad (0)))]) hx hbc dX8_clear_61 hl (k := 0) rfl (by decide) (by decide) rfl (fun ls hl => ?_)
          refine lv_goto (tgt := 42) hx hbc dX8_clear_64 (by decide) ?_
          refine lv_iload_n hx hbc dX8_clear_42 rfl (lv_at hl 0 rfl) ?_
          refine lv_iconst (v := nI (4)) hx hbc dX8_clear_43 (by decide) ?_
          refine n_cmp_ge (tgt := 67) (by omega) (by omega) hx hbc dX8_clear_44 (by decide) (fun c_44 => ?_) (fun c_44 => ?_)
          · refine lv_iload_n hx hbc dX8_clear_67 rfl (lv_at hl 1 rfl) ?_
            exact hend _ _ _ _ _ _ ⟨rfl, rfl⟩ rfl w dX8_clear_68
          · exact absurd c_44 (by decide)
def rbS (S : wS) : wS := sB S 20 (upd (upd (upd (upd (S.2.1 20) 0 ((-1))) 1 ((-1))) 2 ((-1))) 3 ((-1)))
set_option maxHeartbeats 4000000 in
set_option maxRecDepth 100000 in
theorem k_X8_rowsBegin (l : Launch) (D : va_G) (cy : Nat → ClassId) (ad : Nat → Nat) (S : wS)  : CtV l yX8_rowsBegin (Cond.code yX8_rowsBegin cX8_rowsBegin 2 none :: wsG) 0 0 [.ref (ad (0))] D (tyM cy) 31 cy ad skM E0 (S) (fun S' => S' = rbS S) := by
  refine CtV_of (by decide) (Nat.le_of_ble_eq_true rfl) ?_
  intro p e s m args below meth c A ls R Q hB hRf hRl hend
  obtain ⟨hx, hbc, hr, hg, hown, hml, hlk, w, hE, hl⟩ := hB
  have hl : lv_has ls 2 [(0, .ref (ad (0)))] := hl
  refine lv_iconst (v := nI (0)) hx hbc dX8_rowsBegin_0 (by decide) ?_
  refine lv_istore_n (lv' := [(1, .int (nI (0))), (0, .ref (ad (0)))]) hx hbc dX8_rowsBegin_1 rfl hl (by decide) rfl (fun ls hl => ?_)
  refine lv_iload_n hx hbc dX8_rowsBegin_2 rfl (lv_at hl 0 rfl) ?_
  refine lv_iconst (v := nI (4)) hx hbc dX8_rowsBegin_3 (by decide) ?_
  refine n_cmp_ge (tgt := 20) (by omega) (by omega) hx hbc dX8_rowsBegin_4 (by decide) (fun c_4 => ?_) (fun c_4 => ?_)
  · exact absurd c_4 (by decide)
  · refine lv_aload_n hx hbc dX8_rowsBegin_7 rfl (lv_at hl 1 rfl) ?_
    refine wb_gr (t := 20) hx hbc hg hown w inG_X8 0 (by decide) rfl rfl 25 (by decide) rfl wk_692 dX8_rowsBegin_8 ?_
    refine lv_iload_n hx hbc dX8_rowsBegin_11 rfl (lv_at hl 0 rfl) ?_
    refine lv_iconst (v := (-1)) hx hbc dX8_rowsBegin_12 (by decide) ?_
    refine wb_iast (k := 0) (f := S.2.1 20) hx hbc w 20 (by decide) rfl 0 rfl rfl (by omega) (by decide) rfl rfl dX8_rowsBegin_13 (fun H locs w => ?_)
    refine lv_iinc (v := nI (1)) (lv' := [(1, .int (nI (1))), (0, .ref (ad (0)))]) hx hbc dX8_rowsBegin_14 hl (k := 0) rfl (by decide) (by decide) rfl (fun ls hl => ?_)
    refine lv_goto (tgt := 2) hx hbc dX8_rowsBegin_17 (by decide) ?_
    refine lv_iload_n hx hbc dX8_rowsBegin_2 rfl (lv_at hl 0 rfl) ?_
    refine lv_iconst (v := nI (4)) hx hbc dX8_rowsBegin_3 (by decide) ?_
    refine n_cmp_ge (tgt := 20) (by omega) (by omega) hx hbc dX8_rowsBegin_4 (by decide) (fun c_4 => ?_) (fun c_4 => ?_)
    · exact absurd c_4 (by decide)
    · refine lv_aload_n hx hbc dX8_rowsBegin_7 rfl (lv_at hl 1 rfl) ?_
      refine wb_gr (t := 20) hx hbc hg hown w inG_X8 0 (by decide) rfl rfl 25 (by decide) rfl wk_692 dX8_rowsBegin_8 ?_
      refine lv_iload_n hx hbc dX8_rowsBegin_11 rfl (lv_at hl 0 rfl) ?_
      refine lv_iconst (v := (-1)) hx hbc dX8_rowsBegin_12 (by decide) ?_
      refine wb_iast (k := 1) (f := upd (S.2.1 20) 0 ((-1))) hx hbc w 20 (by decide) rfl 0 rfl rfl (by omega) (by decide) rfl (sB_sB _ _ _ _) dX8_rowsBegin_13 (fun H locs w => ?_)
      refine lv_iinc (v := nI (2)) (lv' := [(1, .int (nI (2))), (0, .ref (ad (0)))]) hx hbc dX8_rowsBegin_14 hl (k := 0) rfl (by decide) (by decide) rfl (fun ls hl => ?_)
      refine lv_goto (tgt := 2) hx hbc dX8_rowsBegin_17 (by decide) ?_
      refine lv_iload_n hx hbc dX8_rowsBegin_2 rfl (lv_at hl 0 rfl) ?_
      refine lv_iconst (v := nI (4)) hx hbc dX8_rowsBegin_3 (by decide) ?_
      refine n_cmp_ge (tgt := 20) (by omega) (by omega) hx hbc dX8_rowsBegin_4 (by decide) (fun c_4 => ?_) (fun c_4 => ?_)
      · exact absurd c_4 (by decide)
      · refine lv_aload_n hx hbc dX8_rowsBegin_7 rfl (lv_at hl 1 rfl) ?_
        refine wb_gr (t := 20) hx hbc hg hown w inG_X8 0 (by decide) rfl rfl 25 (by decide) rfl wk_692 dX8_rowsBegin_8 ?_
        refine lv_iload_n hx hbc dX8_rowsBegin_11 rfl (lv_at hl 0 rfl) ?_
        refine lv_iconst (v := (-1)) hx hbc dX8_rowsBegin_12 (by decide) ?_
        refine wb_iast (k := 2) (f := upd (upd (S.2.1 20) 0 ((-1))) 1 ((-1))) hx hbc w 20 (by decide) rfl 0 rfl rfl (by omega) (by decide) rfl (sB_sB _ _ _ _) dX8_rowsBegin_13 (fun H locs w => ?_)
        refine lv_iinc (v := nI (3)) (lv' := [(1, .int (nI (3))), (0, .ref (ad (0)))]) hx hbc dX8_rowsBegin_14 hl (k := 0) rfl (by decide) (by decide) rfl (fun ls hl => ?_)
        refine lv_goto (tgt := 2) hx hbc dX8_rowsBegin_17 (by decide) ?_
        refine lv_iload_n hx hbc dX8_rowsBegin_2 rfl (lv_at hl 0 rfl) ?_
        refine lv_iconst (v := nI (4)) hx hbc dX8_rowsBegin_3 (by decide) ?_
        refine n_cmp_ge (tgt := 20) (by omega) (by omega) hx hbc dX8_rowsBegin_4 (by decide) (fun c_4 => ?_) (fun c_4 => ?_)
        · exact absurd c_4 (by decide)
        · refine lv_aload_n hx hbc dX8_rowsBegin_7 rfl (lv_at hl 1 rfl) ?_
          refine wb_gr (t := 20) hx hbc hg hown w inG_X8 0 (by decide) rfl rfl 25 (by decide) rfl wk_692 dX8_rowsBegin_8 ?_
          refine lv_iload_n hx hbc dX8_rowsBegin_11 rfl (lv_at hl 0 rfl) ?_
          refine lv_iconst (v := (-1)) hx hbc dX8_rowsBegin_12 (by decide) ?_
          refine wb_iast (k := 3) (f := upd (upd (upd (S.2.1 20) 0 ((-1))) 1 ((-1))) 2 ((-1))) hx hbc w 20 (by decide) rfl 0 rfl rfl (by omega) (by decide) rfl (sB_sB _ _ _ _) dX8_rowsBegin_13 (fun H locs w => ?_)
          refine lv_iinc (v := nI (4)) (lv' := [(1, .int (nI (4))), (0, .ref (ad (0)))]) hx hbc dX8_rowsBegin_14 hl (k := 0) rfl (by decide) (by decide) rfl (fun ls hl => ?_)
          refine lv_goto (tgt := 2) hx hbc dX8_rowsBegin_17 (by decide) ?_
          refine lv_iload_n hx hbc dX8_rowsBegin_2 rfl (lv_at hl 0 rfl) ?_
          refine lv_iconst (v := nI (4)) hx hbc dX8_rowsBegin_3 (by decide) ?_
          refine n_cmp_ge (tgt := 20) (by omega) (by omega) hx hbc dX8_rowsBegin_4 (by decide) (fun c_4 => ?_) (fun c_4 => ?_)
          · exact hend _ _ _ _ _ rfl w dX8_rowsBegin_20
          · exact absurd c_4 (by decide)
