set_option maxHeartbeats 4000000 in
set_option maxRecDepth 100000 in
theorem k_X8_root (l : Launch) (D : va_G) (cy : Nat → ClassId) (ad : Nat → Nat) (S : wS) (a : Int32) (d : Nat) (hd : S.1 0 16 = nI d) (hd2 : d ≤ 60) (lv : Nat → Nat) (hlv : ∀ j, j < 4 → S.2.1 22 j = nI (lv j) ∧ lv j ≤ 12) (lz : Nat → Nat) (hlz : ∀ tr, tr < 4 → ∀ i, i < lv tr → S.2.1 24 (12 * tr + i) = nI (lz (12 * tr + i)) ∧ lz (12 * tr + i) ≤ 40) (hq : ∃ q, S.1 0 11 = nI q) : CtI l yX8_root (Cond.code yX8_root cX8_root 3 (some .int) :: wsG) 4 101 [.ref (ad (0)), .int (a)] D (tyM cy) 31 cy ad skM E0 (S) (fun r S' => (inF a (nI 0) (nI 3) = 0 ∧ r = (-102) ∧ S' = sI S 0 0 (nI 0)) ∨ (∃ tr, tr ≤ 3 ∧ a = nI tr ∧ d = 60 ∧ r = (-103) ∧ S' = sI S 0 0 (nI 0)) ∨ (∃ tr S1, tr ≤ 3 ∧ a = nI tr ∧ d < 60 ∧ agM (sI S 0 0 (nI 0)) S1 ∧ (0 < lv tr → ∀ j, j < 8 → S1.2.1 26 j = topF (S.2.1 1) (S.2.1 2) 4 (lv tr) (lfF S lz tr) j) ∧ r = nI d ∧ S' = kst (wrS S1 (lv tr)) (nI 0) d (0 + padL (2 + 4 * 8) / 64))) := by
  refine CtI_of (by decide) (Nat.le_of_ble_eq_true rfl) ?_
  intro p e s m args below meth c A ls R Q hB hRf hRl hend
  obtain ⟨hx, hbc, hr, hg, hown, hml, hlk, w, hE, hl⟩ := hB
  have hl : lv_has ls 3 [(0, .ref (ad (0))), (1, .int (a))] := hl
  refine lv_aload_n hx hbc dX8_root_0 rfl (lv_at hl 0 rfl) ?_
  refine lv_iconst (v := nI (0)) hx hbc dX8_root_1 (by decide) ?_
  refine wb_pi (v := nI (0)) hx hbc hg hown w inG_X8 tyX8 tyX8_ok nmX8 0 (by decide) rfl rfl 0 (by decide) rfl wk_667 rfl rfl rfl rfl dX8_root_2 (fun H locs w => ?_)
  refine lv_iload_n hx hbc dX8_root_5 rfl (lv_at hl 1 rfl) ?_
  refine wb_Si (na := 1) (As := [.int (a)]) (rest := []) hx hbc hml hg hown w E0_ok trivial w.1 Sub.none (k_X8_isTree l D cy ad (sI S 0 0 (nI (0))) a) wk_888 wk_9 wk_886 wk_887 ⟨by decide, by decide, by decide⟩ ⟨by rw [hRf]; decide, by rw [hRl]; decide⟩ rfl hl.1 rfl (Nat.le_of_ble_eq_true rfl) dX8_root_6 ⟨Nat.zero_le _, Nat.zero_le _⟩ (fun r S9 H locs hp w => ?_)
  subst hp
  refine lv_if_ne (tgt := 15) hx hbc dX8_root_9 (by decide) (fun c_9 => ?_) (fun c_9 => ?_)
  · obtain ⟨tr, htr, rfl⟩ := inF_nzb c_9 (by decide)
    obtain ⟨hl1, hl2⟩ := hlv tr (by omega)
    refine lv_aload_n hx hbc dX8_root_15 rfl (lv_at hl 0 rfl) ?_
    refine wb_gi (v := nI (d)) hx hbc hg hown w inG_X8 0 (by decide) rfl rfl 16 (by decide) rfl wk_683 hd dX8_root_16 ?_
    refine lv_bipush (v := nI (60)) hx hbc dX8_root_19 (by decide) ?_
    refine n_cmp_ne (tgt := 27) (by omega) (by omega) hx hbc dX8_root_21 (by decide) (fun c_21 => ?_) (fun c_21 => ?_)
    · refine lv_aload_n hx hbc dX8_root_27 rfl (lv_at hl 0 rfl) ?_
      refine lv_iload_n hx hbc dX8_root_28 rfl (lv_at hl 1 rfl) ?_
      refine wb_Vv (na := 1) (As := [.int (nI (tr))]) (rest := []) hx hbc hml hg hown w E0_ok trivial w.1 Sub.self 0 (by decide) rfl rfl (k_X8_layLevel l D cy ad (sI S 0 0 (nI (0))) tr (by omega) (lv tr) hl1 hl2 (fun i => lz (12 * tr + i)) (fun i hi => hlz tr (by omega) i hi) hq) wk_904 wk_9 wk_901 wk_903 ws_22 ⟨by decide, by decide, by decide⟩ ⟨by rw [hRf]; decide, by rw [hRl]; decide⟩ rfl hl.1 rfl (Nat.le_of_ble_eq_true rfl) dX8_root_29 ⟨Nat.zero_le _, Nat.zero_le _⟩ (fun S9 H locs hp w => ?_)
      obtain ⟨hag, hlev⟩ := hp
      have w : WB D (tyM cy) 31 cy ad skM A s (S9) H locs := w
      refine lv_aload_n hx hbc dX8_root_32 rfl (lv_at hl 0 rfl) ?_
      refine wb_gr (t := 22) hx hbc hg hown w inG_X8 0 (by decide) rfl rfl 27 (by decide) rfl wk_694 dX8_root_33 ?_
      refine lv_iload_n hx hbc dX8_root_36 rfl (lv_at hl 1 rfl) ?_
      refine wb_iald (k := tr) (v := nI (lv tr)) hx hbc w 22 (by decide) rfl 0 rfl rfl (by omega) (by decide) ((congrFun (hag.2.1 22 (by decide) (by decide) (by decide) (by decide)) tr).trans hl1) dX8_root_37 ?_
      refine lv_istore_n (lv' := [(2, .int (nI (lv tr))), (0, .ref (ad (0))), (1, .int (nI (tr)))]) hx hbc dX8_root_38 rfl hl (by decide) rfl (fun ls hl => ?_)
      have hlev : ∀ a, a < lv tr → ∀ j, j < 8 → S9.2.1 26 (8 * a + j) = lfF S lz tr a j := hlev
      have lp_39 : ∀ (fu : Nat) (n9 : Nat) (S1 : wS) (f : Nat → Nat → Int32) (g : Nat) (H : Heap) (locs : List Loc) (ls : Array Slot), (n9 < fu) → (n9 ≤ 12) → (n9 ≤ 2 ^ g) → (agM (sI S 0 0 (nI 0)) S1) → (∀ a, a < n9 → ∀ j, j < 8 → S1.2.1 26 (8 * a + j) = f a j) → (topF (S.2.1 1) (S.2.1 2) g n9 f = topF (S.2.1 1) (S.2.1 2) 4 (lv tr) (lfF S lz tr)) → (0 < lv tr → 0 < n9) → WB D (tyM cy) 31 cy ad skM A s (S1) H locs → lv_has ls 3 [(0, .ref (ad (0))), (1, .int (nI (tr))), (2, .int (nI (n9)))] → W p l e R s m args below meth c H locs 0 0 Q (F0 m 39 ls []) := by
        intro fu
        induction fu with
        | zero =>
          intro n9 S1 f g H locs ls h1 h2 h3 hag hlv9 htop hpos w hl
          exact absurd h1 (by omega)
        | succ fu ih_39 =>
          intro n9 S1 f g H locs ls h1 h2 h3 hag hlv9 htop hpos w hl
          refine lv_iload_n hx hbc dX8_root_39 rfl (lv_at hl 2 rfl) ?_
          refine lv_iconst (v := nI (1)) hx hbc dX8_root_40 (by decide) ?_
          refine n_cmp_le (tgt := 53) (by omega) (by omega) hx hbc dX8_root_41 (by decide) (fun c_41 => ?_) (fun c_41 => ?_)
          · refine lv_aload_n hx hbc dX8_root_53 rfl (lv_at hl 0 rfl) ?_
            refine lv_aload_n hx hbc dX8_root_54 rfl (lv_at hl 0 rfl) ?_
            refine wb_gr (t := 22) hx hbc hg hown w inG_X8 0 (by decide) rfl rfl 27 (by decide) rfl wk_694 dX8_root_55 ?_
            refine lv_iload_n hx hbc dX8_root_58 rfl (lv_at hl 1 rfl) ?_
            refine wb_iald (k := tr) (v := nI (lv tr)) hx hbc w 22 (by decide) rfl 0 rfl rfl (by omega) (by decide) ((congrFun (hag.2.1 22 (by decide) (by decide) (by decide) (by decide)) tr).trans hl1) dX8_root_59 ?_
            refine wb_Vv (na := 1) (As := [.int (nI (lv tr))]) (rest := []) hx hbc hml hg hown w E0_ok trivial w.1 Sub.self 0 (by decide) rfl rfl (k_X8_workRoot l D cy ad (S1) (lv tr) (by omega)) wk_920 wk_9 wk_917 wk_919 ws_26 ⟨by decide, by decide, by decide⟩ ⟨by rw [hRf]; decide, by rw [hRl]; decide⟩ rfl hl.1 rfl (Nat.le_of_ble_eq_true rfl) dX8_root_60 ⟨Nat.zero_le _, Nat.zero_le _⟩ (fun S9 H locs hp w => ?_)
            subst hp
            have w : WB D (tyM cy) 31 cy ad skM A s (wrS S1 (lv tr)) H locs := w
            refine lv_aload_n hx hbc dX8_root_63 rfl (lv_at hl 0 rfl) ?_
            refine lv_iconst (v := nI (0)) hx hbc dX8_root_64 (by decide) ?_
            refine wb_Vi (na := 1) (As := [.int (nI (0))]) (rest := []) hx hbc hml hg hown w E0_ok trivial w.1 Sub.self 0 (by decide) rfl rfl (k_X8_keepDigest l D cy ad (wrS S1 (lv tr)) (nI (0)) d (0 + padL (2 + 4 * 8) / 64) (((hag.1 16 (by decide) (by decide)).trans hd)) (by omega) rfl) wk_840 wk_9 wk_837 wk_839 ws_19 ⟨by decide, by decide, by decide⟩ ⟨by rw [hRf]; decide, by rw [hRl]; decide⟩ rfl hl.1 rfl (Nat.le_of_ble_eq_true rfl) dX8_root_65 ⟨Nat.zero_le _, Nat.zero_le _⟩ (fun r S9 H locs hp w => ?_)
            obtain ⟨hp, rfl⟩ := hp
            subst hp
            have w : WB D (tyM cy) 31 cy ad skM A s (kst (wrS S1 (lv tr)) (nI (0)) d (0 + padL (2 + 4 * 8) / 64)) H locs := w
            exact hend _ _ _ _ _ _ (Or.inr (Or.inr (⟨tr, S1, htr, rfl, (by omega), hag, (fun hp9 j hj => (by have h9 := hlv9 0 (hpos hp9) j hj; rw [← htop, topF_1 _ _ _ _ _ c_41, ← h9, Nat.mul_zero, Nat.zero_add])), rfl, rfl⟩))) rfl w dX8_root_68
          · obtain ⟨g1, rfl, hg1⟩ := g_pos h3 c_41
            refine lv_aload_n hx hbc dX8_root_44 rfl (lv_at hl 0 rfl) ?_
            refine lv_iload_n hx hbc dX8_root_45 rfl (lv_at hl 2 rfl) ?_
            refine wb_Vi (na := 1) (As := [.int (nI (n9))]) (rest := []) hx hbc hml hg hown w E0_ok trivial w.1 Sub.self 0 (by decide) rfl rfl (k_X8_rise l D cy ad (S1) n9 (by omega) (by omega) hag.2.2) wk_912 wk_9 wk_909 wk_911 ws_24 ⟨by decide, by decide, by decide⟩ ⟨by rw [hRf]; decide, by rw [hRl]; decide⟩ rfl hl.1 rfl (Nat.le_of_ble_eq_true rfl) dX8_root_46 ⟨Nat.zero_le _, Nat.zero_le _⟩ (fun r S9 H locs hp w => ?_)
            obtain ⟨hp, hag9, hlev9⟩ := hp
            subst hp
            have w : WB D (tyM cy) 31 cy ad skM A s (S9) H locs := w
            refine lv_istore_n (lv' := [(2, .int (nI ((n9 + 1) / 2))), (0, .ref (ad (0))), (1, .int (nI (tr)))]) hx hbc dX8_root_49 rfl hl (by decide) rfl (fun ls hl => ?_)
            refine lv_goto (tgt := 39) hx hbc dX8_root_50 (by decide) ?_
            exact ih_39 ((n9 + 1) / 2) S9 (rsF (S.2.1 1) (S.2.1 2) n9 f) g1 _ _ _ (by omega) (by omega) hg1 (hag.tr hag9) (fun a ha j hj => (hlev9 a ha j hj).trans (riS_f (hag.2.1 1 (by decide) (by decide) (by decide) (by decide)) (hag.2.1 2 (by decide) (by decide) (by decide) (by decide)) (by omega) hlv9 a ha j hj)) ((topF_s _ _ _ _ _ c_41).symm.trans htop) (fun _ => by omega) w (lv_sub hl [1, 2, 0] rfl)
      exact lp_39 (lv tr + 1) (lv tr) S9 (lfF S lz tr) 4 _ _ _ (by omega) (by omega) (Nat.le_trans hl2 (by decide)) hag hlev rfl (fun h => h) w (lv_sub hl [1, 2, 0] rfl)
    · refine lv_bipush (v := (-103)) hx hbc dX8_root_24 (by decide) ?_
      exact hend _ _ _ _ _ _ (Or.inr (Or.inl ⟨tr, htr, rfl, c_21, rfl, rfl⟩)) rfl w dX8_root_26
  · refine lv_bipush (v := (-102)) hx hbc dX8_root_12 (by decide) ?_
    exact hend _ _ _ _ _ _ (Or.inl ⟨c_9, rfl, rfl⟩) rfl w dX8_root_14
set_option maxHeartbeats 4000000 in
set_option maxRecDepth 100000 in
theorem k_X8_prove (l : Launch) (D : va_G) (cy : Nat → ClassId) (ad : Nat → Nat) (S : wS) (a b : Int32) (lv : Nat → Nat) (hlv : ∀ j, j < 4 → S.2.1 22 j = nI (lv j) ∧ lv j ≤ 12) (lz : Nat → Nat) (hlz : ∀ tr, tr < 4 → ∀ i, i < lv tr → S.2.1 24 (12 * tr + i) = nI (lz (12 * tr + i)) ∧ lz (12 * tr + i) ≤ 40) (hq : ∃ q, S.1 0 11 = nI q) : CtI l yX8_prove (Cond.code yX8_prove cX8_prove 7 (some .int) :: wsG) 4 101 [.ref (ad (0)), .int (a), .int (b)] D (tyM cy) 31 cy ad skM E0 (S) (fun r S' => (inF a (nI 0) (nI 3) = 0 ∧ r = (-102) ∧ S' = sI S 0 0 (nI 0)) ∨ (∃ tr, tr ≤ 3 ∧ a = nI tr ∧ inF b (nI 0) (nI (lv tr) - nI 1) = 0 ∧ r = (-101) ∧ S' = sI S 0 0 (nI 0)) ∨ (∃ tr lf S1, tr ≤ 3 ∧ a = nI tr ∧ lf < lv tr ∧ b = nI lf ∧ (agP (sI S 0 0 (nI 0)) S1 ∧ r = nI (pvL (S.2.1 1) (S.2.1 2) 4 (lv tr) lf (lfF S lz tr)).length ∧ S1.1 0 32 = nI (pvL (S.2.1 1) (S.2.1 2) 4 (lv tr) lf (lfF S lz tr)).length ∧ ∀ k, k < (pvL (S.2.1 1) (S.2.1 2) 4 (lv tr) lf (lfF S lz tr)).length → ∀ j, j < 8 → S1.2.1 27 (8 * k + j) = (pvL (S.2.1 1) (S.2.1 2) 4 (lv tr) lf (lfF S lz tr)).getD k (fun _ => 0) j) ∧ S' = S1)) := by
  refine CtI_of (by decide) (Nat.le_of_ble_eq_true rfl) ?_
  intro p e s m args below meth c A ls R Q hB hRf hRl hend
  obtain ⟨hx, hbc, hr, hg, hown, hml, hlk, w, hE, hl⟩ := hB
  have hl : lv_has ls 7 [(0, .ref (ad (0))), (1, .int (a)), (2, .int (b))] := hl
  refine lv_aload_n hx hbc dX8_prove_0 rfl (lv_at hl 0 rfl) ?_
  refine lv_iconst (v := nI (0)) hx hbc dX8_prove_1 (by decide) ?_
  refine wb_pi (v := nI (0)) hx hbc hg hown w inG_X8 tyX8 tyX8_ok nmX8 0 (by decide) rfl rfl 0 (by decide) rfl wk_667 rfl rfl rfl rfl dX8_prove_2 (fun H locs w => ?_)
  refine lv_iload_n hx hbc dX8_prove_5 rfl (lv_at hl 1 rfl) ?_
  refine wb_Si (na := 1) (As := [.int (a)]) (rest := []) hx hbc hml hg hown w E0_ok trivial w.1 Sub.none (k_X8_isTree l D cy ad (sI S 0 0 (nI (0))) a) wk_888 wk_9 wk_886 wk_887 ⟨by decide, by decide, by decide⟩ ⟨by rw [hRf]; decide, by rw [hRl]; decide⟩ rfl hl.1 rfl (Nat.le_of_ble_eq_true rfl) dX8_prove_6 ⟨Nat.zero_le _, Nat.zero_le _⟩ (fun r S9 H locs hp w => ?_)
  subst hp
  refine lv_if_ne (tgt := 15) hx hbc dX8_prove_9 (by decide) (fun c_9 => ?_) (fun c_9 => ?_)
  · obtain ⟨tr, htr, rfl⟩ := inF_nzb c_9 (by decide)
    obtain ⟨hl1, hl2⟩ := hlv tr (by omega)
    refine lv_iload_n hx hbc dX8_prove_15 rfl (lv_at hl 2 rfl) ?_
    refine lv_iconst (v := nI (0)) hx hbc dX8_prove_16 (by decide) ?_
    refine lv_aload_n hx hbc dX8_prove_17 rfl (lv_at hl 0 rfl) ?_
    refine wb_gr (t := 22) hx hbc hg hown w inG_X8 0 (by decide) rfl rfl 27 (by decide) rfl wk_694 dX8_prove_18 ?_
    refine lv_iload_n hx hbc dX8_prove_21 rfl (lv_at hl 1 rfl) ?_
    refine wb_iald (k := tr) (v := nI (lv tr)) hx hbc w 22 (by decide) rfl 0 rfl rfl (by omega) (by decide) hl1 dX8_prove_22 ?_
    refine lv_iconst (v := nI (1)) hx hbc dX8_prove_23 (by decide) ?_
    refine lv_isub hx hbc dX8_prove_24 ?_
    refine wb_Si (na := 3) (As := [.int (b), .int (nI (0)), .int ((nI (lv tr)) - (nI (1)))]) (rest := []) hx hbc hml hg hown w E0_ok trivial w.1 Sub.none (k_X8_in l D cy ad (sI S 0 0 (nI (0))) b (nI (0)) ((nI (lv tr)) - (nI (1)))) wk_799 wk_9 wk_797 wk_798 ⟨by decide, by decide, by decide⟩ ⟨by rw [hRf]; decide, by rw [hRl]; decide⟩ rfl hl.1 rfl (Nat.le_of_ble_eq_true rfl) dX8_prove_25 ⟨Nat.zero_le _, Nat.zero_le _⟩ (fun r S9 H locs hp w => ?_)
    subst hp
    refine lv_if_ne (tgt := 34) hx hbc dX8_prove_28 (by decide) (fun c_28 => ?_) (fun c_28 => ?_)
    · obtain ⟨lf, hlf, rfl⟩ := inF_nzd c_28 (by omega)
      refine lv_aload_n hx hbc dX8_prove_34 rfl (lv_at hl 0 rfl) ?_
      refine lv_iload_n hx hbc dX8_prove_35 rfl (lv_at hl 1 rfl) ?_
      refine wb_Vv (na := 1) (As := [.int (nI (tr))]) (rest := []) hx hbc hml hg hown w E0_ok trivial w.1 Sub.self 0 (by decide) rfl rfl (k_X8_layLevel l D cy ad (sI S 0 0 (nI (0))) tr (by omega) (lv tr) hl1 hl2 (fun i => lz (12 * tr + i)) (fun i hi => hlz tr (by omega) i hi) hq) wk_904 wk_9 wk_901 wk_903 ws_22 ⟨by decide, by decide, by decide⟩ ⟨by rw [hRf]; decide, by rw [hRl]; decide⟩ rfl hl.1 rfl (Nat.le_of_ble_eq_true rfl) dX8_prove_36 ⟨Nat.zero_le _, Nat.zero_le _⟩ (fun S9 H locs hp w => ?_)
      obtain ⟨hag, hlev⟩ := hp
      have w : WB D (tyM cy) 31 cy ad skM A s (S9) H locs := w
      refine lv_aload_n hx hbc dX8_prove_39 rfl (lv_at hl 0 rfl) ?_
      refine lv_iconst (v := nI (0)) hx hbc dX8_prove_40 (by decide) ?_
      refine wb_pi (v := nI (0)) hx hbc hg hown w inG_X8 tyX8 tyX8_ok nmX8 0 (by decide) rfl rfl 32 (by decide) rfl wk_699 rfl rfl rfl rfl dX8_prove_41 (fun H locs w => ?_)
      refine lv_aload_n hx hbc dX8_prove_44 rfl (lv_at hl 0 rfl) ?_
      refine wb_gr (t := 22) hx hbc hg hown w inG_X8 0 (by decide) rfl rfl 27 (by decide) rfl wk_694 dX8_prove_45 ?_
      refine lv_iload_n hx hbc dX8_prove_48 rfl (lv_at hl 1 rfl) ?_
      refine wb_iald (k := tr) (v := nI (lv tr)) hx hbc w 22 (by decide) rfl 0 rfl rfl (by omega) (by decide) ((congrFun (hag.2.1 22 (by decide) (by decide) (by decide) (by decide)) tr).trans hl1) dX8_prove_49 ?_
      refine lv_istore_n (lv' := [(3, .int (nI (lv tr))), (0, .ref (ad (0))), (1, .int (nI (tr))), (2, .int (nI (lf)))]) hx hbc dX8_prove_50 rfl hl (by decide) rfl (fun ls hl => ?_)
      refine lv_iload_n hx hbc dX8_prove_51 rfl (lv_at hl 3 rfl) ?_
      refine lv_istore (lv' := [(4, .int (nI (lf))), (3, .int (nI (lv tr))), (0, .ref (ad (0))), (1, .int (nI (tr))), (2, .int (nI (lf)))]) hx hbc dX8_prove_52 hl (by decide) rfl (fun ls hl => ?_)
      have hlev : ∀ a, a < lv tr → ∀ j, j < 8 → S9.2.1 26 (8 * a + j) = lfF S lz tr a j := hlev
      have lp_54 : ∀ (fu : Nat) (n9 : Nat) (a9 : Nat) (S1 : wS) (f : Nat → Nat → Int32) (g : Nat) (P : List (Nat → Int32)) (H : Heap) (locs : List Loc) (ls : Array Slot), (n9 < fu) → (n9 ≤ 12) → (n9 ≤ 2 ^ g) → (a9 < n9) → (agP (sI S 0 0 (nI 0)) S1) → (∀ a, a < n9 → ∀ j, j < 8 → S1.2.1 26 (8 * a + j) = f a j) → (P ++ pvL (S.2.1 1) (S.2.1 2) g n9 a9 f = pvL (S.2.1 1) (S.2.1 2) 4 (lv tr) lf (lfF S lz tr)) → (P.length + g ≤ 4) → (S1.1 0 32 = nI P.length) → (∀ k, k < P.length → ∀ j, j < 8 → S1.2.1 27 (8 * k + j) = P.getD k (fun _ => 0) j) → WB D (tyM cy) 31 cy ad skM A s (S1) H locs → lv_has ls 7 [(0, .ref (ad (0))), (1, .int (nI (tr))), (3, .int (nI (n9))), (4, .int (nI (a9)))] → W p l e R s m args below meth c H locs 0 0 Q (F0 m 54 ls []) := by
        intro fu
        induction fu with
        | zero =>
          intro n9 a9 S1 f g P H locs ls h1 h2 h3 h4 hag hlv9 hP hPl hpv hpr w hl
          exact absurd h1 (by omega)
        | succ fu ih_54 =>
          intro n9 a9 S1 f g P H locs ls h1 h2 h3 h4 hag hlv9 hP hPl hpv hpr w hl
          refine lv_iload_n hx hbc dX8_prove_54 rfl (lv_at hl 2 rfl) ?_
          refine lv_iconst (v := nI (1)) hx hbc dX8_prove_55 (by decide) ?_
          refine n_cmp_le (tgt := 154) (by omega) (by omega) hx hbc dX8_prove_56 (by decide) (fun c_56 => ?_) (fun c_56 => ?_)
          · refine lv_aload_n hx hbc dX8_prove_154 rfl (lv_at hl 0 rfl) ?_
            refine wb_gi (v := nI (P.length)) hx hbc hg hown w inG_X8 0 (by decide) rfl rfl 32 (by decide) rfl wk_699 hpv dX8_prove_155 ?_
            exact hend _ _ _ _ _ _ (Or.inr (Or.inr (⟨tr, lf, S1, htr, rfl, hlf, rfl, (by have h9 := hP; rw [pvL_1 _ _ _ _ _ _ c_56, List.append_nil] at h9; subst h9; exact ⟨hag, rfl, hpv, hpr⟩), rfl⟩))) rfl w dX8_prove_158
          · obtain ⟨g1, rfl, hg1⟩ := g_pos h3 c_56
            refine lv_iload hx hbc dX8_prove_59 (lv_at hl 3 rfl) ?_
            refine lv_iconst (v := nI (2)) hx hbc dX8_prove_61 (by decide) ?_
            refine n_irem (by omega) (by omega) (by omega) hx hbc dX8_prove_62 ?_
            refine lv_if_ne (tgt := 73) hx hbc dX8_prove_63 (by decide) (fun c_63 => ?_) (fun c_63 => ?_)
            · have hodd : a9 % 2 = 1 := by
                rcases Nat.mod_two_eq_zero_or_one a9 with h | h
                · rw [h] at c_63; exact absurd rfl c_63
                · exact h
              have hbs : bsd a9 = a9 - 1 := by unfold bsd; rw [if_neg (by omega)]
              refine lv_iload hx hbc dX8_prove_73 (lv_at hl 3 rfl) ?_
              refine lv_iconst (v := nI (1)) hx hbc dX8_prove_75 (by decide) ?_
              refine n_isub (by omega) hx hbc dX8_prove_76 ?_
              refine lv_istore (lv' := [(5, .int (nI (a9 - 1))), (0, .ref (ad (0))), (1, .int (nI (tr))), (3, .int (nI (n9))), (4, .int (nI (a9)))]) hx hbc dX8_prove_77 hl (by decide) rfl (fun ls hl => ?_)
              refine lv_iload hx hbc dX8_prove_79 (lv_at hl 0 rfl) ?_
              refine lv_iload_n hx hbc dX8_prove_81 rfl (lv_at hl 3 rfl) ?_
              refine n_cmp_ge (tgt := 139) (by omega) (by omega) hx hbc dX8_prove_82 (by decide) (fun c_82 => ?_) (fun c_82 => ?_)
              · refine lv_aload_n hx hbc dX8_prove_139 rfl (lv_at hl 1 rfl) ?_
                refine lv_iload_n hx hbc dX8_prove_140 rfl (lv_at hl 3 rfl) ?_
                refine wb_Vi (na := 1) (As := [.int (nI (n9))]) (rest := []) hx hbc hml hg hown w E0_ok trivial w.1 Sub.self 0 (by decide) rfl rfl (k_X8_rise l D cy ad (S1) n9 (by omega) (by omega) hag.2.2) wk_912 wk_9 wk_909 wk_911 ws_24 ⟨by decide, by decide, by decide⟩ ⟨by rw [hRf]; decide, by rw [hRl]; decide⟩ rfl hl.1 rfl (Nat.le_of_ble_eq_true rfl) dX8_prove_141 ⟨Nat.zero_le _, Nat.zero_le _⟩ (fun r S9 H locs hp w => ?_)
                obtain ⟨hp, hag9, hlev9⟩ := hp
                subst hp
                have w : WB D (tyM cy) 31 cy ad skM A s (S9) H locs := w
                refine lv_istore_n (lv' := [(3, .int (nI ((n9 + 1) / 2))), (5, .int (nI (a9 - 1))), (0, .ref (ad (0))), (1, .int (nI (tr))), (4, .int (nI (a9)))]) hx hbc dX8_prove_144 rfl hl (by decide) rfl (fun ls hl => ?_)
                refine lv_iload hx hbc dX8_prove_145 (lv_at hl 4 rfl) ?_
                refine lv_iconst (v := nI (2)) hx hbc dX8_prove_147 (by decide) ?_
                refine n_idiv (by omega) (by omega) (by omega) hx hbc dX8_prove_148 ?_
                refine lv_istore (lv' := [(4, .int (nI (a9 / 2))), (3, .int (nI ((n9 + 1) / 2))), (5, .int (nI (a9 - 1))), (0, .ref (ad (0))), (1, .int (nI (tr)))]) hx hbc dX8_prove_149 hl (by decide) rfl (fun ls hl => ?_)
                refine lv_goto (tgt := 54) hx hbc dX8_prove_151 (by decide) ?_
                exact ih_54 ((n9 + 1) / 2) (a9 / 2) S9 (rsF (S.2.1 1) (S.2.1 2) n9 f) g1 P _ _ _ (by omega) (by omega) hg1 (by omega) (hag.tr hag9) (fun a ha j hj => (hlev9 a ha j hj).trans (riS_f (hag.2.1 1 (by decide) (by decide) (by decide) (by decide) (by decide)) (hag.2.1 2 (by decide) (by decide) (by decide) (by decide) (by decide)) (by omega) hlv9 a ha j hj)) (by rw [← pvL_n _ _ _ _ _ _ c_56 (by rw [hbs]; omega)]; exact hP) (by omega) ((hag9.1 32 (by decide) (by decide)).trans hpv) (fun k hk j hj => (congrFun (hag9.2.1 27 (by decide) (by decide) (by decide) (by decide)) _).trans (hpr k hk j hj)) w (lv_sub hl [3, 4, 1, 0] rfl)
              · refine lv_iconst (v := nI (0)) hx hbc dX8_prove_85 (by decide) ?_
                refine lv_istore (lv' := [(6, .int (nI (0))), (5, .int (nI (a9 - 1))), (0, .ref (ad (0))), (1, .int (nI (tr))), (3, .int (nI (n9))), (4, .int (nI (a9)))]) hx hbc dX8_prove_86 hl (by decide) rfl (fun ls hl => ?_)
                have lp_88 : ∀ (fu : Nat) (i : Nat) (H : Heap) (locs : List Loc) (ls : Array Slot), (8 < i + fu) → (i ≤ 8) → WB D (tyM cy) 31 cy ad skM A s (sB S1 27 (pts (S1.2.1 27) (8 * P.length) (fun i => S1.2.1 26 (8 * (a9 - 1) + i)) i)) H locs → lv_has ls 7 [(0, .ref (ad (0))), (1, .int (nI (tr))), (3, .int (nI (n9))), (4, .int (nI (a9))), (5, .int (nI (a9 - 1))), (6, .int (nI (i)))] → W p l e R s m args below meth c H locs 0 0 Q (F0 m 88 ls []) := by
                  intro fu
                  induction fu with
                  | zero =>
                    intro i H locs ls i1 i2 w hl
                    exact absurd i1 (by omega)
                  | succ fu ih_88 =>
                    intro i H locs ls i1 i2 w hl
                    refine lv_iload hx hbc dX8_prove_88 (lv_at hl 5 rfl) ?_
                    refine lv_bipush (v := nI (8)) hx hbc dX8_prove_90 (by decide) ?_
                    refine n_cmp_ge (tgt := 129) (by omega) (by omega) hx hbc dX8_prove_92 (by decide) (fun c_92 => ?_) (fun c_92 => ?_)
                    · obtain rfl : i = 8 := by omega
                      have hl := lv_sub (l' := [(0, .ref (ad (0))), (1, .int (nI (tr))), (3, .int (nI (n9))), (4, .int (nI (a9)))]) hl [0, 1, 2, 3] rfl
                      refine lv_aload_n hx hbc dX8_prove_129 rfl (lv_at hl 0 rfl) ?_
                      refine lv_dup hx hbc dX8_prove_130 rfl ?_
                      refine wb_gi (v := nI (P.length)) hx hbc hg hown w inG_X8 0 (by decide) rfl rfl 32 (by decide) rfl wk_699 hpv dX8_prove_131 ?_
                      refine lv_iconst (v := nI (1)) hx hbc dX8_prove_134 (by decide) ?_
                      refine n_iadd hx hbc dX8_prove_135 ?_
                      refine wb_pi (v := nI (P.length + 1)) hx hbc hg hown w inG_X8 tyX8 tyX8_ok nmX8 0 (by decide) rfl rfl 32 (by decide) rfl wk_699 rfl rfl rfl rfl dX8_prove_136 (fun H locs w => ?_)
                      refine lv_aload_n hx hbc dX8_prove_139 rfl (lv_at hl 0 rfl) ?_
                      refine lv_iload_n hx hbc dX8_prove_140 rfl (lv_at hl 2 rfl) ?_
                      refine wb_Vi (na := 1) (As := [.int (nI (n9))]) (rest := []) hx hbc hml hg hown w E0_ok trivial w.1 Sub.self 0 (by decide) rfl rfl (k_X8_rise l D cy ad (sI (sB S1 27 (pts (S1.2.1 27) (8 * P.length) (fun i => S1.2.1 26 (8 * (a9 - 1) + i)) 8)) 0 32 (nI (P.length + 1))) n9 (by omega) (by omega) hag.2.2) wk_912 wk_9 wk_909 wk_911 ws_24 ⟨by decide, by decide, by decide⟩ ⟨by rw [hRf]; decide, by rw [hRl]; decide⟩ rfl hl.1 rfl (Nat.le_of_ble_eq_true rfl) dX8_prove_141 ⟨Nat.zero_le _, Nat.zero_le _⟩ (fun r S9 H locs hp w => ?_)
                      obtain ⟨hp, hag9, hlev9⟩ := hp
                      subst hp
                      have w : WB D (tyM cy) 31 cy ad skM A s (S9) H locs := w
                      refine lv_istore_n (lv' := [(3, .int (nI ((n9 + 1) / 2))), (0, .ref (ad (0))), (1, .int (nI (tr))), (4, .int (nI (a9)))]) hx hbc dX8_prove_144 rfl hl (by decide) rfl (fun ls hl => ?_)
                      refine lv_iload hx hbc dX8_prove_145 (lv_at hl 3 rfl) ?_
                      refine lv_iconst (v := nI (2)) hx hbc dX8_prove_147 (by decide) ?_
                      refine n_idiv (by omega) (by omega) (by omega) hx hbc dX8_prove_148 ?_
                      refine lv_istore (lv' := [(4, .int (nI (a9 / 2))), (3, .int (nI ((n9 + 1) / 2))), (0, .ref (ad (0))), (1, .int (nI (tr)))]) hx hbc dX8_prove_149 hl (by decide) rfl (fun ls hl => ?_)
                      refine lv_goto (tgt := 54) hx hbc dX8_prove_151 (by decide) ?_
                      exact ih_54 ((n9 + 1) / 2) (a9 / 2) S9 (rsF (S.2.1 1) (S.2.1 2) n9 f) g1 (P ++ [f (bsd a9)]) _ _ _ (by omega) (by omega) hg1 (by omega) ((hag.pr _ _).tr hag9) (fun a ha j hj => (hlev9 a ha j hj).trans (riS_f (hag.2.1 1 (by decide) (by decide) (by decide) (by decide) (by decide)) (hag.2.1 2 (by decide) (by decide) (by decide) (by decide) (by decide)) (by omega) hlv9 a ha j hj)) (by rw [List.append_assoc, ← pvL_y _ _ _ _ _ _ c_56 (by rw [hbs]; exact c_82)]; exact hP) (by rw [List.length_append, List.length_singleton]; omega) ((hag9.1 32 (by decide) (by decide)).trans (by rw [List.length_append, List.length_singleton]; rfl)) (fun k hk j hj => (congrFun (hag9.2.1 27 (by decide) (by decide) (by decide) (by decide)) _).trans (prf_put hpr (fun j hj => (by rw [hbs]; exact hlv9 _ c_82 j hj)) k hk j hj)) w (lv_sub hl [2, 3, 1, 0] rfl)
                    · refine lv_aload_n hx hbc dX8_prove_95 rfl (lv_at hl 0 rfl) ?_
                      refine wb_gr (t := 27) hx hbc hg hown w inG_X8 0 (by decide) rfl rfl 33 (by decide) rfl wk_700 dX8_prove_96 ?_
                      refine lv_bipush (v := nI (8)) hx hbc dX8_prove_99 (by decide) ?_
                      refine lv_aload_n hx hbc dX8_prove_101 rfl (lv_at hl 0 rfl) ?_
                      refine wb_gi (v := nI (P.length)) hx hbc hg hown w inG_X8 0 (by decide) rfl rfl 32 (by decide) rfl wk_699 hpv dX8_prove_102 ?_
                      refine n_imul hx hbc dX8_prove_105 ?_
                      refine lv_iload hx hbc dX8_prove_106 (lv_at hl 5 rfl) ?_
                      refine n_iadd hx hbc dX8_prove_108 ?_
                      refine lv_aload_n hx hbc dX8_prove_109 rfl (lv_at hl 0 rfl) ?_
                      refine wb_gr (t := 26) hx hbc hg hown w inG_X8 0 (by decide) rfl rfl 31 (by decide) rfl wk_698 dX8_prove_110 ?_
                      refine lv_bipush (v := nI (8)) hx hbc dX8_prove_113 (by decide) ?_
                      refine lv_iload hx hbc dX8_prove_115 (lv_at hl 4 rfl) ?_
                      refine n_imul hx hbc dX8_prove_117 ?_
                      refine lv_iload hx hbc dX8_prove_118 (lv_at hl 5 rfl) ?_
                      refine n_iadd hx hbc dX8_prove_120 ?_
                      refine wb_iald (k := (8 * (a9 - 1)) + i) (v := (S1.2.1 26) ((8 * (a9 - 1)) + i)) hx hbc w 26 (by decide) rfl 0 rfl rfl (by omega) (by decide) rfl dX8_prove_121 ?_
                      refine wb_iast (k := (8 * P.length) + i) (f := pts (S1.2.1 27) (8 * P.length) (fun i => S1.2.1 26 (8 * (a9 - 1) + i)) i) hx hbc w 27 (by decide) rfl 0 rfl rfl (by omega) (by decide) rfl (sB_sB _ _ _ _) dX8_prove_122 (fun H locs w => ?_)
                      refine lv_iinc (v := nI (i + 1)) (lv' := [(6, .int (nI (i + 1))), (0, .ref (ad (0))), (1, .int (nI (tr))), (3, .int (nI (n9))), (4, .int (nI (a9))), (5, .int (nI (a9 - 1)))]) hx hbc dX8_prove_123 hl (k := 5) rfl (ni_inc _ _) (by decide) rfl (fun ls hl => ?_)
                      refine lv_goto (tgt := 88) hx hbc dX8_prove_126 (by decide) ?_
                      exact ih_88 (i + 1) _ _ _ (by omega) (by omega) w (lv_sub hl [1, 2, 3, 4, 5, 0] rfl)
                exact lp_88 9 0 _ _ _ (by omega) (by omega) (WB_cast w (sB_beg _ _ _ rfl)) (lv_sub hl [2, 3, 4, 5, 1, 0] rfl)
            · have hevn : a9 % 2 = 0 := by
                rcases Nat.mod_two_eq_zero_or_one a9 with h | h
                · exact h
                · rw [h] at c_63; exact absurd c_63 (by decide)
              have hbs : bsd a9 = a9 + 1 := by unfold bsd; rw [if_pos hevn]
              refine lv_iload hx hbc dX8_prove_66 (lv_at hl 3 rfl) ?_
              refine lv_iconst (v := nI (1)) hx hbc dX8_prove_68 (by decide) ?_
              refine n_iadd hx hbc dX8_prove_69 ?_
              refine lv_goto (tgt := 77) hx hbc dX8_prove_70 (by decide) ?_
              refine lv_istore (lv' := [(5, .int (nI (a9 + 1))), (0, .ref (ad (0))), (1, .int (nI (tr))), (3, .int (nI (n9))), (4, .int (nI (a9)))]) hx hbc dX8_prove_77 hl (by decide) rfl (fun ls hl => ?_)
              refine lv_iload hx hbc dX8_prove_79 (lv_at hl 0 rfl) ?_
              refine lv_iload_n hx hbc dX8_prove_81 rfl (lv_at hl 3 rfl) ?_
              refine n_cmp_ge (tgt := 139) (by omega) (by omega) hx hbc dX8_prove_82 (by decide) (fun c_82 => ?_) (fun c_82 => ?_)
              · refine lv_aload_n hx hbc dX8_prove_139 rfl (lv_at hl 1 rfl) ?_
                refine lv_iload_n hx hbc dX8_prove_140 rfl (lv_at hl 3 rfl) ?_
                refine wb_Vi (na := 1) (As := [.int (nI (n9))]) (rest := []) hx hbc hml hg hown w E0_ok trivial w.1 Sub.self 0 (by decide) rfl rfl (k_X8_rise l D cy ad (S1) n9 (by omega) (by omega) hag.2.2) wk_912 wk_9 wk_909 wk_911 ws_24 ⟨by decide, by decide, by decide⟩ ⟨by rw [hRf]; decide, by rw [hRl]; decide⟩ rfl hl.1 rfl (Nat.le_of_ble_eq_true rfl) dX8_prove_141 ⟨Nat.zero_le _, Nat.zero_le _⟩ (fun r S9 H locs hp w => ?_)
                obtain ⟨hp, hag9, hlev9⟩ := hp
                subst hp
                have w : WB D (tyM cy) 31 cy ad skM A s (S9) H locs := w
                refine lv_istore_n (lv' := [(3, .int (nI ((n9 + 1) / 2))), (5, .int (nI (a9 + 1))), (0, .ref (ad (0))), (1, .int (nI (tr))), (4, .int (nI (a9)))]) hx hbc dX8_prove_144 rfl hl (by decide) rfl (fun ls hl => ?_)
                refine lv_iload hx hbc dX8_prove_145 (lv_at hl 4 rfl) ?_
                refine lv_iconst (v := nI (2)) hx hbc dX8_prove_147 (by decide) ?_
                refine n_idiv (by omega) (by omega) (by omega) hx hbc dX8_prove_148 ?_
                refine lv_istore (lv' := [(4, .int (nI (a9 / 2))), (3, .int (nI ((n9 + 1) / 2))), (5, .int (nI (a9 + 1))), (0, .ref (ad (0))), (1, .int (nI (tr)))]) hx hbc dX8_prove_149 hl (by decide) rfl (fun ls hl => ?_)
                refine lv_goto (tgt := 54) hx hbc dX8_prove_151 (by decide) ?_
                exact ih_54 ((n9 + 1) / 2) (a9 / 2) S9 (rsF (S.2.1 1) (S.2.1 2) n9 f) g1 P _ _ _ (by omega) (by omega) hg1 (by omega) (hag.tr hag9) (fun a ha j hj => (hlev9 a ha j hj).trans (riS_f (hag.2.1 1 (by decide) (by decide) (by decide) (by decide) (by decide)) (hag.2.1 2 (by decide) (by decide) (by decide) (by decide) (by decide)) (by omega) hlv9 a ha j hj)) (by rw [← pvL_n _ _ _ _ _ _ c_56 (by rw [hbs]; omega)]; exact hP) (by omega) ((hag9.1 32 (by decide) (by decide)).trans hpv) (fun k hk j hj => (congrFun (hag9.2.1 27 (by decide) (by decide) (by decide) (by decide)) _).trans (hpr k hk j hj)) w (lv_sub hl [3, 4, 1, 0] rfl)
              · refine lv_iconst (v := nI (0)) hx hbc dX8_prove_85 (by decide) ?_
                refine lv_istore (lv' := [(6, .int (nI (0))), (5, .int (nI (a9 + 1))), (0, .ref (ad (0))), (1, .int (nI (tr))), (3, .int (nI (n9))), (4, .int (nI (a9)))]) hx hbc dX8_prove_86 hl (by decide) rfl (fun ls hl => ?_)
                have lp_88 : ∀ (fu : Nat) (i : Nat) (H : Heap) (locs : List Loc) (ls : Array Slot), (8 < i + fu) → (i ≤ 8) → WB D (tyM cy) 31 cy ad skM A s (sB S1 27 (pts (S1.2.1 27) (8 * P.length) (fun i => S1.2.1 26 (8 * (a9 + 1) + i)) i)) H locs → lv_has ls 7 [(0, .ref (ad (0))), (1, .int (nI (tr))), (3, .int (nI (n9))), (4, .int (nI (a9))), (5, .int (nI (a9 + 1))), (6, .int (nI (i)))] → W p l e R s m args below meth c H locs 0 0 Q (F0 m 88 ls []) := by
                  intro fu
                  induction fu with
                  | zero =>
                    intro i H locs ls i1 i2 w hl
                    exact absurd i1 (by omega)
                  | succ fu ih_88 =>
                    intro i H locs ls i1 i2 w hl
                    refine lv_iload hx hbc dX8_prove_88 (lv_at hl 5 rfl) ?_
                    refine lv_bipush (v := nI (8)) hx hbc dX8_prove_90 (by decide) ?_
                    refine n_cmp_ge (tgt := 129) (by omega) (by omega) hx hbc dX8_prove_92 (by decide) (fun c_92 => ?_) (fun c_92 => ?_)
                    · obtain rfl : i = 8 := by omega
                      have hl := lv_sub (l' := [(0, .ref (ad (0))), (1, .int (nI (tr))), (3, .int (nI (n9))), (4, .int (nI (a9)))]) hl [0, 1, 2, 3] rfl
                      refine lv_aload_n hx hbc dX8_prove_129 rfl (lv_at hl 0 rfl) ?_
                      refine lv_dup hx hbc dX8_prove_130 rfl ?_
                      refine wb_gi (v := nI (P.length)) hx hbc hg hown w inG_X8 0 (by decide) rfl rfl 32 (by decide) rfl wk_699 hpv dX8_prove_131 ?_
                      refine lv_iconst (v := nI (1)) hx hbc dX8_prove_134 (by decide) ?_
                      refine n_iadd hx hbc dX8_prove_135 ?_
                      refine wb_pi (v := nI (P.length + 1)) hx hbc hg hown w inG_X8 tyX8 tyX8_ok nmX8 0 (by decide) rfl rfl 32 (by decide) rfl wk_699 rfl rfl rfl rfl dX8_prove_136 (fun H locs w => ?_)
                      refine lv_aload_n hx hbc dX8_prove_139 rfl (lv_at hl 0 rfl) ?_
                      refine lv_iload_n hx hbc dX8_prove_140 rfl (lv_at hl 2 rfl) ?_
                      refine wb_Vi (na := 1) (As := [.int (nI (n9))]) (rest := []) hx hbc hml hg hown w E0_ok trivial w.1 Sub.self 0 (by decide) rfl rfl (k_X8_rise l D cy ad (sI (sB S1 27 (pts (S1.2.1 27) (8 * P.length) (fun i => S1.2.1 26 (8 * (a9 + 1) + i)) 8)) 0 32 (nI (P.length + 1))) n9 (by omega) (by omega) hag.2.2) wk_912 wk_9 wk_909 wk_911 ws_24 ⟨by decide, by decide, by decide⟩ ⟨by rw [hRf]; decide, by rw [hRl]; decide⟩ rfl hl.1 rfl (Nat.le_of_ble_eq_true rfl) dX8_prove_141 ⟨Nat.zero_le _, Nat.zero_le _⟩ (fun r S9 H locs hp w => ?_)
                      obtain ⟨hp, hag9, hlev9⟩ := hp
                      subst hp
                      have w : WB D (tyM cy) 31 cy ad skM A s (S9) H locs := w
                      refine lv_istore_n (lv' := [(3, .int (nI ((n9 + 1) / 2))), (0, .ref (ad (0))), (1, .int (nI (tr))), (4, .int (nI (a9)))]) hx hbc dX8_prove_144 rfl hl (by decide) rfl (fun ls hl => ?_)
                      refine lv_iload hx hbc dX8_prove_145 (lv_at hl 3 rfl) ?_
                      refine lv_iconst (v := nI (2)) hx hbc dX8_prove_147 (by decide) ?_
                      refine n_idiv (by omega) (by omega) (by omega) hx hbc dX8_prove_148 ?_
                      refine lv_istore (lv' := [(4, .int (nI (a9 / 2))), (3, .int (nI ((n9 + 1) / 2))), (0, .ref (ad (0))), (1, .int (nI (tr)))]) hx hbc dX8_prove_149 hl (by decide) rfl (fun ls hl => ?_)
                      refine lv_goto (tgt := 54) hx hbc dX8_prove_151 (by decide) ?_
                      exact ih_54 ((n9 + 1) / 2) (a9 / 2) S9 (rsF (S.2.1 1) (S.2.1 2) n9 f) g1 (P ++ [f (bsd a9)]) _ _ _ (by omega) (by omega) hg1 (by omega) ((hag.pr _ _).tr hag9) (fun a ha j hj => (hlev9 a ha j hj).trans (riS_f (hag.2.1 1 (by decide) (by decide) (by decide) (by decide) (by decide)) (hag.2.1 2 (by decide) (by decide) (by decide) (by decide) (by decide)) (by omega) hlv9 a ha j hj)) (by rw [List.append_assoc, ← pvL_y _ _ _ _ _ _ c_56 (by rw [hbs]; exact c_82)]; exact hP) (by rw [List.length_append, List.length_singleton]; omega) ((hag9.1 32 (by decide) (by decide)).trans (by rw [List.length_append, List.length_singleton]; rfl)) (fun k hk j hj => (congrFun (hag9.2.1 27 (by decide) (by decide) (by decide) (by decide)) _).trans (prf_put hpr (fun j hj => (by rw [hbs]; exact hlv9 _ c_82 j hj)) k hk j hj)) w (lv_sub hl [2, 3, 1, 0] rfl)
                    · refine lv_aload_n hx hbc dX8_prove_95 rfl (lv_at hl 0 rfl) ?_
                      refine wb_gr (t := 27) hx hbc hg hown w inG_X8 0 (by decide) rfl rfl 33 (by decide) rfl wk_700 dX8_prove_96 ?_
                      refine lv_bipush (v := nI (8)) hx hbc dX8_prove_99 (by decide) ?_
                      refine lv_aload_n hx hbc dX8_prove_101 rfl (lv_at hl 0 rfl) ?_
                      refine wb_gi (v := nI (P.length)) hx hbc hg hown w inG_X8 0 (by decide) rfl rfl 32 (by decide) rfl wk_699 hpv dX8_prove_102 ?_
                      refine n_imul hx hbc dX8_prove_105 ?_
                      refine lv_iload hx hbc dX8_prove_106 (lv_at hl 5 rfl) ?_
                      refine n_iadd hx hbc dX8_prove_108 ?_
                      refine lv_aload_n hx hbc dX8_prove_109 rfl (lv_at hl 0 rfl) ?_
                      refine wb_gr (t := 26) hx hbc hg hown w inG_X8 0 (by decide) rfl rfl 31 (by decide) rfl wk_698 dX8_prove_110 ?_
                      refine lv_bipush (v := nI (8)) hx hbc dX8_prove_113 (by decide) ?_
                      refine lv_iload hx hbc dX8_prove_115 (lv_at hl 4 rfl) ?_
                      refine n_imul hx hbc dX8_prove_117 ?_
                      refine lv_iload hx hbc dX8_prove_118 (lv_at hl 5 rfl) ?_
                      refine n_iadd hx hbc dX8_prove_120 ?_
                      refine wb_iald (k := (8 * (a9 + 1)) + i) (v := (S1.2.1 26) ((8 * (a9 + 1)) + i)) hx hbc w 26 (by decide) rfl 0 rfl rfl (by omega) (by decide) rfl dX8_prove_121 ?_
                      refine wb_iast (k := (8 * P.length) + i) (f := pts (S1.2.1 27) (8 * P.length) (fun i => S1.2.1 26 (8 * (a9 + 1) + i)) i) hx hbc w 27 (by decide) rfl 0 rfl rfl (by omega) (by decide) rfl (sB_sB _ _ _ _) dX8_prove_122 (fun H locs w => ?_)
                      refine lv_iinc (v := nI (i + 1)) (lv' := [(6, .int (nI (i + 1))), (0, .ref (ad (0))), (1, .int (nI (tr))), (3, .int (nI (n9))), (4, .int (nI (a9))), (5, .int (nI (a9 + 1)))]) hx hbc dX8_prove_123 hl (k := 5) rfl (ni_inc _ _) (by decide) rfl (fun ls hl => ?_)
                      refine lv_goto (tgt := 88) hx hbc dX8_prove_126 (by decide) ?_
                      exact ih_88 (i + 1) _ _ _ (by omega) (by omega) w (lv_sub hl [1, 2, 3, 4, 5, 0] rfl)
                exact lp_88 9 0 _ _ _ (by omega) (by omega) (WB_cast w (sB_beg _ _ _ rfl)) (lv_sub hl [2, 3, 4, 5, 1, 0] rfl)
      exact lp_54 (lv tr + 1) (lv tr) lf (sI S9 0 32 (nI 0)) (lfF S lz tr) 4 ([]) _ _ _ (by omega) (by omega) (Nat.le_trans hl2 (by decide)) (by omega) (hag.P.p0 _) hlev rfl (by decide) rfl (fun _ h9 => absurd h9 (Nat.not_lt_zero _)) w (lv_sub hl [2, 3, 1, 0] rfl)
    · refine lv_bipush (v := (-101)) hx hbc dX8_prove_31 (by decide) ?_
      exact hend _ _ _ _ _ _ (Or.inr (Or.inl ⟨tr, htr, rfl, c_28, rfl, rfl⟩)) rfl w dX8_prove_33
  · refine lv_bipush (v := (-102)) hx hbc dX8_prove_12 (by decide) ?_
    exact hend _ _ _ _ _ _ (Or.inl ⟨c_9, rfl, rfl⟩) rfl w dX8_prove_14
set_option maxHeartbeats 4000000 in
set_option maxRecDepth 100000 in
theorem k_X8_check (l : Launch) (D : va_G) (cy : Nat → ClassId) (ad : Nat → Nat) (S : wS) (gd gn gi gk : Int32) (d : Nat) (hd : S.1 0 16 = nI d) (hd2 : d ≤ 60) (t : Nat) (ht : S.1 0 12 = nI t) (ht2 : t ≤ 200) (pv : Nat) (hpv : S.1 0 32 = nI pv) (hpv2 : pv ≤ 4) (hq : ∃ q, S.1 0 11 = nI q) : CtI l yX8_check (Cond.code yX8_check cX8_check 10 (some .int) :: wsG) 4 101 [.ref (ad (0)), .int (gd), .int (gn), .int (gi), .int (gk)] D (tyM cy) 31 cy ad skM E0 (S) (fun r S' => (inF gd (nI 0) (nI d - nI 1) = 0 ∧ r = (-101) ∧ S' = sI S 0 0 (nI 0)) ∨ (∃ e, e < d ∧ gd = nI e ∧ (inF gn (nI 1) (nI 12) = 0 ∨ (∃ n, 1 ≤ n ∧ n ≤ 12 ∧ gn = nI n ∧ inF gi (nI 0) (nI (n - 1)) = 0) ∨ inF gk (nI 0) (nI 7) = 0 ∨ 40 < t) ∧ r = (-102) ∧ S' = sI S 0 0 (nI 0)) ∨ (∃ e n i kd S1, e < d ∧ gd = nI e ∧ 1 ≤ n ∧ n ≤ 12 ∧ gn = nI n ∧ i < n ∧ gi = nI i ∧ kd ≤ 7 ∧ gk = nI kd ∧ t ≤ 40 ∧ ckF (S.2.1 1) (S.2.1 2) (fun u j => S.2.1 27 (8 * u + j)) pv 4 n i 0 (shaC (S.2.1 1) (S.2.1 2) (lfB (nI kd) (nI t) (S.2.1 10)) (3 + t)) = none ∧ agM (sI S 0 0 (nI 0)) S1 ∧ r = nI 0 ∧ S' = S1) ∨ (∃ e n i kd S1 u c, e < d ∧ gd = nI e ∧ 1 ≤ n ∧ n ≤ 12 ∧ gn = nI n ∧ i < n ∧ gi = nI i ∧ kd ≤ 7 ∧ gk = nI kd ∧ t ≤ 40 ∧ ckF (S.2.1 1) (S.2.1 2) (fun u j => S.2.1 27 (8 * u + j)) pv 4 n i 0 (shaC (S.2.1 1) (S.2.1 2) (lfB (nI kd) (nI t) (S.2.1 10)) (3 + t)) = some (u, c) ∧ agM (sI S 0 0 (nI 0)) S1 ∧ (∀ j, j < 8 → S1.2.1 8 j = c j) ∧ ((r = nI 1 ∧ (u = pv ∧ ¬ S.2.1 12 e = nI 1) ∧ ∀ q, q < 32 → byH ((wrS (tlS S1 0) n).2.1 8) q = S.2.1 14 (32 * e + q)) ∨ (r = nI 0 ∧ ¬ ((u = pv ∧ ¬ S.2.1 12 e = nI 1) ∧ ∀ q, q < 32 → byH ((wrS (tlS S1 0) n).2.1 8) q = S.2.1 14 (32 * e + q)))) ∧ S' = wrS (tlS S1 0) n)) := by
  refine CtI_of (by decide) (Nat.le_of_ble_eq_true rfl) ?_
  intro p e s m args below meth c A ls R Q hB hRf hRl hend
  obtain ⟨hx, hbc, hr, hg, hown, hml, hlk, w, hE, hl⟩ := hB
  have hl : lv_has ls 10 [(0, .ref (ad (0))), (1, .int (gd)), (2, .int (gn)), (3, .int (gi)), (4, .int (gk))] := hl
  obtain ⟨q, hq⟩ := hq
  refine lv_aload_n hx hbc dX8_check_0 rfl (lv_at hl 0 rfl) ?_
  refine lv_iconst (v := nI (0)) hx hbc dX8_check_1 (by decide) ?_
  refine wb_pi (v := nI (0)) hx hbc hg hown w inG_X8 tyX8 tyX8_ok nmX8 0 (by decide) rfl rfl 0 (by decide) rfl wk_667 rfl rfl rfl rfl dX8_check_2 (fun H locs w => ?_)
  refine lv_aload_n hx hbc dX8_check_5 rfl (lv_at hl 0 rfl) ?_
  refine lv_iload_n hx hbc dX8_check_6 rfl (lv_at hl 1 rfl) ?_
  refine wb_Vi (na := 1) (As := [.int (gd)]) (rest := []) hx hbc hml hg hown w E0_ok trivial w.1 Sub.self 0 (by decide) rfl rfl (k_X8_isDigest l D cy ad (sI S 0 0 (nI (0))) gd d hd) wk_860 wk_9 wk_857 wk_859 ws_20 ⟨by decide, by decide, by decide⟩ ⟨by rw [hRf]; decide, by rw [hRl]; decide⟩ rfl hl.1 rfl (Nat.le_of_ble_eq_true rfl) dX8_check_7 ⟨Nat.zero_le _, Nat.zero_le _⟩ (fun r S9 H locs hp w => ?_)
  obtain ⟨hp, rfl⟩ := hp
  subst hp
  have w : WB D (tyM cy) 31 cy ad skM A s (sI S 0 0 (nI (0))) H locs := w
  refine lv_if_ne (tgt := 16) hx hbc dX8_check_10 (by decide) (fun c_10 => ?_) (fun c_10 => ?_)
  · obtain ⟨e9, he9, rfl⟩ := inF_nzd c_10 (by omega)
    refine lv_iload_n hx hbc dX8_check_16 rfl (lv_at hl 2 rfl) ?_
    refine lv_iconst (v := nI (1)) hx hbc dX8_check_17 (by decide) ?_
    refine lv_bipush (v := nI (12)) hx hbc dX8_check_18 (by decide) ?_
    refine wb_Si (na := 3) (As := [.int (gn), .int (nI (1)), .int (nI (12))]) (rest := []) hx hbc hml hg hown w E0_ok trivial w.1 Sub.none (k_X8_in l D cy ad (sI S 0 0 (nI (0))) gn (nI (1)) (nI (12))) wk_799 wk_9 wk_797 wk_798 ⟨by decide, by decide, by decide⟩ ⟨by rw [hRf]; decide, by rw [hRl]; decide⟩ rfl hl.1 rfl (Nat.le_of_ble_eq_true rfl) dX8_check_20 ⟨Nat.zero_le _, Nat.zero_le _⟩ (fun r S9 H locs hp w => ?_)
    subst hp
    refine lv_if_eq (tgt := 57) hx hbc dX8_check_23 (by decide) (fun c_23 => ?_) (fun c_23 => ?_)
    · refine lv_bipush (v := (-102)) hx hbc dX8_check_57 (by decide) ?_
      exact hend _ _ _ _ _ _ (Or.inr (Or.inl ⟨e9, he9, rfl, Or.inl c_23, rfl, rfl⟩)) rfl w dX8_check_59
    · obtain ⟨n, hn1, hn2, rfl⟩ := inF_nz c_23 (by decide) (by decide)
      refine lv_iload_n hx hbc dX8_check_26 rfl (lv_at hl 3 rfl) ?_
      refine lv_iconst (v := nI (0)) hx hbc dX8_check_27 (by decide) ?_
      refine lv_iload_n hx hbc dX8_check_28 rfl (lv_at hl 2 rfl) ?_
      refine lv_iconst (v := nI (1)) hx hbc dX8_check_29 (by decide) ?_
      refine n_isub (by omega) hx hbc dX8_check_30 ?_
      refine wb_Si (na := 3) (As := [.int (gi), .int (nI (0)), .int (nI (n - 1))]) (rest := []) hx hbc hml hg hown w E0_ok trivial w.1 Sub.none (k_X8_in l D cy ad (sI S 0 0 (nI (0))) gi (nI (0)) (nI (n - 1))) wk_799 wk_9 wk_797 wk_798 ⟨by decide, by decide, by decide⟩ ⟨by rw [hRf]; decide, by rw [hRl]; decide⟩ rfl hl.1 rfl (Nat.le_of_ble_eq_true rfl) dX8_check_31 ⟨Nat.zero_le _, Nat.zero_le _⟩ (fun r S9 H locs hp w => ?_)
      subst hp
      refine lv_if_eq (tgt := 57) hx hbc dX8_check_34 (by decide) (fun c_34 => ?_) (fun c_34 => ?_)
      · refine lv_bipush (v := (-102)) hx hbc dX8_check_57 (by decide) ?_
        exact hend _ _ _ _ _ _ (Or.inr (Or.inl ⟨e9, he9, rfl, Or.inr (Or.inl ⟨n, hn1, hn2, rfl, c_34⟩), rfl, rfl⟩)) rfl w dX8_check_59
      · obtain ⟨i0, hi0, rfl⟩ := inF_nzb c_34 (by omega)
        have hi0 : i0 < n := by omega
        refine lv_iload hx hbc dX8_check_37 (lv_at hl 4 rfl) ?_
        refine lv_iconst (v := nI (0)) hx hbc dX8_check_39 (by decide) ?_
        refine lv_bipush (v := nI (7)) hx hbc dX8_check_40 (by decide) ?_
        refine wb_Si (na := 3) (As := [.int (gk), .int (nI (0)), .int (nI (7))]) (rest := []) hx hbc hml hg hown w E0_ok trivial w.1 Sub.none (k_X8_in l D cy ad (sI S 0 0 (nI (0))) gk (nI (0)) (nI (7))) wk_799 wk_9 wk_797 wk_798 ⟨by decide, by decide, by decide⟩ ⟨by rw [hRf]; decide, by rw [hRl]; decide⟩ rfl hl.1 rfl (Nat.le_of_ble_eq_true rfl) dX8_check_42 ⟨Nat.zero_le _, Nat.zero_le _⟩ (fun r S9 H locs hp w => ?_)
        subst hp
        refine lv_if_eq (tgt := 57) hx hbc dX8_check_45 (by decide) (fun c_45 => ?_) (fun c_45 => ?_)
        · refine lv_bipush (v := (-102)) hx hbc dX8_check_57 (by decide) ?_
          exact hend _ _ _ _ _ _ (Or.inr (Or.inl ⟨e9, he9, rfl, Or.inr (Or.inr (Or.inl c_45)), rfl, rfl⟩)) rfl w dX8_check_59
        · obtain ⟨kd, hkd, rfl⟩ := inF_nzb c_45 (by decide)
          refine lv_aload_n hx hbc dX8_check_48 rfl (lv_at hl 0 rfl) ?_
          refine wb_gi (v := nI (t)) hx hbc hg hown w inG_X8 0 (by decide) rfl rfl 12 (by decide) rfl wk_679 ht dX8_check_49 ?_
          refine lv_bipush (v := nI (40)) hx hbc dX8_check_52 (by decide) ?_
          refine n_cmp_le (tgt := 60) (by omega) (by omega) hx hbc dX8_check_54 (by decide) (fun c_54 => ?_) (fun c_54 => ?_)
          · refine lv_aload_n hx hbc dX8_check_60 rfl (lv_at hl 0 rfl) ?_
            refine lv_iconst (v := nI (0)) hx hbc dX8_check_61 (by decide) ?_
            refine wb_pi (v := nI (0)) hx hbc hg hown w inG_X8 tyX8 tyX8_ok nmX8 0 (by decide) rfl rfl 8 (by decide) rfl wk_675 rfl rfl rfl rfl dX8_check_62 (fun H locs w => ?_)
            have w : WB D (tyM cy) 31 cy ad skM A s (pst (sI S 0 0 (nI (0))) (S.2.1 7) 0) H locs := WB_cast w (pst_0 _)
            refine lv_aload_n hx hbc dX8_check_65 rfl (lv_at hl 0 rfl) ?_
            refine lv_iconst (v := nI (0)) hx hbc dX8_check_66 (by decide) ?_
            refine wb_Vv (na := 1) (As := [.int (nI (0))]) (rest := []) hx hbc hml hg hown w E0_ok trivial w.1 Sub.self 0 (by decide) rfl rfl (k_X8_put l D cy ad (pst (sI S 0 0 (nI (0))) (S.2.1 7) 0) (nI (0)) 0 rfl (by omega)) wk_816 wk_9 wk_813 wk_815 ws_14 ⟨by decide, by decide, by decide⟩ ⟨by rw [hRf]; decide, by rw [hRl]; decide⟩ rfl hl.1 rfl (Nat.le_of_ble_eq_true rfl) dX8_check_67 ⟨Nat.zero_le _, Nat.zero_le _⟩ (fun S9 H locs hp w => ?_)
            subst hp
            have w := WB_cast w (pst_pst _ _ _ _ _)
            have w : WB D (tyM cy) 31 cy ad skM A s (pst (sI S 0 0 (nI (0))) (upd (S.2.1 7) 0 (nI (0))) 1) H locs := w
            refine lv_aload_n hx hbc dX8_check_70 rfl (lv_at hl 0 rfl) ?_
            refine lv_iload hx hbc dX8_check_71 (lv_at hl 4 rfl) ?_
            refine wb_Vv (na := 1) (As := [.int (nI (kd))]) (rest := []) hx hbc hml hg hown w E0_ok trivial w.1 Sub.self 0 (by decide) rfl rfl (k_X8_put l D cy ad (pst (sI S 0 0 (nI (0))) (upd (S.2.1 7) 0 (nI (0))) 1) (nI (kd)) 1 rfl (by omega)) wk_816 wk_9 wk_813 wk_815 ws_14 ⟨by decide, by decide, by decide⟩ ⟨by rw [hRf]; decide, by rw [hRl]; decide⟩ rfl hl.1 rfl (Nat.le_of_ble_eq_true rfl) dX8_check_73 ⟨Nat.zero_le _, Nat.zero_le _⟩ (fun S9 H locs hp w => ?_)
            subst hp
            have w := WB_cast w (pst_pst _ _ _ _ _)
            have w : WB D (tyM cy) 31 cy ad skM A s (pst (sI S 0 0 (nI (0))) (upd (upd (S.2.1 7) 0 (nI (0))) 1 (nI (kd))) 2) H locs := w
            refine lv_aload_n hx hbc dX8_check_76 rfl (lv_at hl 0 rfl) ?_
            refine lv_aload_n hx hbc dX8_check_77 rfl (lv_at hl 0 rfl) ?_
            refine wb_gi (v := nI (t)) hx hbc hg hown w inG_X8 0 (by decide) rfl rfl 12 (by decide) rfl wk_679 ht dX8_check_78 ?_
            refine wb_Vv (na := 1) (As := [.int (nI (t))]) (rest := []) hx hbc hml hg hown w E0_ok trivial w.1 Sub.self 0 (by decide) rfl rfl (k_X8_put l D cy ad (pst (sI S 0 0 (nI (0))) (upd (upd (S.2.1 7) 0 (nI (0))) 1 (nI (kd))) 2) (nI (t)) 2 rfl (by omega)) wk_816 wk_9 wk_813 wk_815 ws_14 ⟨by decide, by decide, by decide⟩ ⟨by rw [hRf]; decide, by rw [hRl]; decide⟩ rfl hl.1 rfl (Nat.le_of_ble_eq_true rfl) dX8_check_81 ⟨Nat.zero_le _, Nat.zero_le _⟩ (fun S9 H locs hp w => ?_)
            subst hp
            have w := WB_cast w (pst_pst _ _ _ _ _)
            have w : WB D (tyM cy) 31 cy ad skM A s (pst (sI S 0 0 (nI (0))) (upd (upd (upd (S.2.1 7) 0 (nI (0))) 1 (nI (kd))) 2 (nI (t))) 3) H locs := w
            refine lv_iconst (v := nI (0)) hx hbc dX8_check_84 (by decide) ?_
            refine lv_istore (lv' := [(5, .int (nI (0))), (0, .ref (ad (0))), (1, .int (nI (e9))), (2, .int (nI (n))), (3, .int (nI (i0))), (4, .int (nI (kd)))]) hx hbc dX8_check_85 hl (by decide) rfl (fun ls hl => ?_)
            have lp_87 : ∀ (fu : Nat) (k : Nat) (H : Heap) (locs : List Loc) (ls : Array Slot), (t < k + fu) → (k ≤ t) → WB D (tyM cy) 31 cy ad skM A s (pst (sI S 0 0 (nI 0)) (pts (upd (upd (upd (S.2.1 7) 0 (nI (0))) 1 (nI (kd))) 2 (nI (t))) 3 (S.2.1 10) k) (3 + k)) H locs → lv_has ls 10 [(0, .ref (ad (0))), (1, .int (nI (e9))), (2, .int (nI (n))), (3, .int (nI (i0))), (4, .int (nI (kd))), (5, .int (nI (k)))] → W p l e R s m args below meth c H locs 0 0 Q (F0 m 87 ls []) := by
              intro fu
              induction fu with
              | zero =>
                intro k H locs ls i1 i2 w hl
                exact absurd i1 (by omega)
              | succ fu ih_87 =>
                intro k H locs ls i1 i2 w hl
                refine lv_iload hx hbc dX8_check_87 (lv_at hl 5 rfl) ?_
                refine lv_aload_n hx hbc dX8_check_89 rfl (lv_at hl 0 rfl) ?_
                refine wb_gi (v := nI (t)) hx hbc hg hown w inG_X8 0 (by decide) rfl rfl 12 (by decide) rfl wk_679 ht dX8_check_90 ?_
                refine n_cmp_ge (tgt := 113) (by omega) (by omega) hx hbc dX8_check_93 (by decide) (fun c_93 => ?_) (fun c_93 => ?_)
                · obtain rfl : t = k := by omega
                  have hl := lv_sub (l' := [(0, .ref (ad (0))), (1, .int (nI (e9))), (2, .int (nI (n))), (3, .int (nI (i0))), (4, .int (nI (kd)))]) hl [0, 1, 2, 3, 4] rfl
                  refine lv_aload_n hx hbc dX8_check_113 rfl (lv_at hl 0 rfl) ?_
                  refine lv_iconst (v := nI (0)) hx hbc dX8_check_114 (by decide) ?_
                  refine wb_Vv (na := 1) (As := [.int (nI (0))]) (rest := []) hx hbc hml hg hown w E0_ok trivial w.1 Sub.self 0 (by decide) rfl rfl (k_X8_work l D cy ad (sI S 0 0 (nI 0)) (pts (upd (upd (upd (S.2.1 7) 0 (nI (0))) 1 (nI (kd))) 2 (nI (t))) 3 (S.2.1 10) t) (nI (0)) (3 + t) q (by omega) hq) wk_820 wk_9 wk_817 wk_819 ws_15 ⟨by decide, by decide, by decide⟩ ⟨by rw [hRf]; decide, by rw [hRl]; decide⟩ rfl hl.1 rfl (Nat.le_of_ble_eq_true rfl) dX8_check_115 ⟨Nat.zero_le _, Nat.zero_le _⟩ (fun S9 H locs hp w => ?_)
                  subst hp
                  have w : WB D (tyM cy) 31 cy ad skM A s (wrk (sI S 0 0 (nI 0)) (nI (0)) (pts (upd (upd (upd (S.2.1 7) 0 (nI (0))) 1 (nI (kd))) 2 (nI (t))) 3 (S.2.1 10) t) (3 + t) q) H locs := w
                  refine lv_iconst (v := nI (0)) hx hbc dX8_check_118 (by decide) ?_
                  refine lv_istore (lv' := [(5, .int (nI (0))), (0, .ref (ad (0))), (1, .int (nI (e9))), (2, .int (nI (n))), (3, .int (nI (i0))), (4, .int (nI (kd)))]) hx hbc dX8_check_119 hl (by decide) rfl (fun ls hl => ?_)
                  refine lv_iload_n hx hbc dX8_check_121 rfl (lv_at hl 3 rfl) ?_
                  refine lv_istore (lv' := [(6, .int (nI (n))), (5, .int (nI (0))), (0, .ref (ad (0))), (1, .int (nI (e9))), (2, .int (nI (n))), (3, .int (nI (i0))), (4, .int (nI (kd)))]) hx hbc dX8_check_122 hl (by decide) rfl (fun ls hl => ?_)
                  refine lv_iload_n hx hbc dX8_check_124 rfl (lv_at hl 5 rfl) ?_
                  refine lv_istore (lv' := [(7, .int (nI (i0))), (6, .int (nI (n))), (5, .int (nI (0))), (0, .ref (ad (0))), (1, .int (nI (e9))), (2, .int (nI (n))), (3, .int (nI (i0))), (4, .int (nI (kd)))]) hx hbc dX8_check_125 hl (by decide) rfl (fun ls hl => ?_)
                  have lp_127 : ∀ (fu : Nat) (n9 : Nat) (a9 : Nat) (u : Nat) (S1 : wS) (c9 : Nat → Int32) (g : Nat) (H : Heap) (locs : List Loc) (ls : Array Slot), (n9 < fu) → (n9 ≤ 12) → (n9 ≤ 2 ^ g) → (a9 < n9) → (u ≤ pv) → (agM (sI S 0 0 (nI 0)) S1) → (∀ j, j < 8 → S1.2.1 8 j = c9 j) → (ckF (S.2.1 1) (S.2.1 2) (fun u j => S.2.1 27 (8 * u + j)) pv g n9 a9 u c9 = ckF (S.2.1 1) (S.2.1 2) (fun u j => S.2.1 27 (8 * u + j)) pv 4 n i0 0 (shaC (S.2.1 1) (S.2.1 2) (lfB (nI kd) (nI t) (S.2.1 10)) (3 + t))) → WB D (tyM cy) 31 cy ad skM A s (S1) H locs → lv_has ls 10 [(0, .ref (ad (0))), (1, .int (nI (e9))), (2, .int (nI (n))), (5, .int (nI (u))), (6, .int (nI (n9))), (7, .int (nI (a9)))] → W p l e R s m args below meth c H locs 0 0 Q (F0 m 127 ls []) := by
                    intro fu
                    induction fu with
                    | zero =>
                      intro n9 a9 u S1 c9 g H locs ls h1 h2 h3 h4 hu hag hc9 hck w hl
                      exact absurd h1 (by omega)
                    | succ fu ih_127 =>
                      intro n9 a9 u S1 c9 g H locs ls h1 h2 h3 h4 hu hag hc9 hck w hl
                      obtain ⟨q1, hq1⟩ := hag.2.2
                      refine lv_iload hx hbc dX8_check_127 (lv_at hl 4 rfl) ?_
                      refine lv_iconst (v := nI (1)) hx hbc dX8_check_129 (by decide) ?_
                      refine n_cmp_le (tgt := 209) (by omega) (by omega) hx hbc dX8_check_130 (by decide) (fun c_130 => ?_) (fun c_130 => ?_)
                      · refine lv_aload_n hx hbc dX8_check_209 rfl (lv_at hl 0 rfl) ?_
                        refine lv_iconst (v := nI (0)) hx hbc dX8_check_210 (by decide) ?_
                        refine wb_Vv (na := 1) (As := [.int (nI (0))]) (rest := []) hx hbc hml hg hown w E0_ok trivial w.1 Sub.self 0 (by decide) rfl rfl (k_X8_toLevel l D cy ad (S1) 0 (by omega)) wk_908 wk_9 wk_905 wk_907 ws_23 ⟨by decide, by decide, by decide⟩ ⟨by rw [hRf]; decide, by rw [hRl]; decide⟩ rfl hl.1 rfl (Nat.le_of_ble_eq_true rfl) dX8_check_211 ⟨Nat.zero_le _, Nat.zero_le _⟩ (fun S9 H locs hp w => ?_)
                        subst hp
                        have w : WB D (tyM cy) 31 cy ad skM A s (tlS S1 0) H locs := w
                        refine lv_aload_n hx hbc dX8_check_214 rfl (lv_at hl 0 rfl) ?_
                        refine lv_iload_n hx hbc dX8_check_215 rfl (lv_at hl 2 rfl) ?_
                        refine wb_Vv (na := 1) (As := [.int (nI (n))]) (rest := []) hx hbc hml hg hown w E0_ok trivial w.1 Sub.self 0 (by decide) rfl rfl (k_X8_workRoot l D cy ad (tlS S1 0) n (by omega)) wk_920 wk_9 wk_917 wk_919 ws_26 ⟨by decide, by decide, by decide⟩ ⟨by rw [hRf]; decide, by rw [hRl]; decide⟩ rfl hl.1 rfl (Nat.le_of_ble_eq_true rfl) dX8_check_216 ⟨Nat.zero_le _, Nat.zero_le _⟩ (fun S9 H locs hp w => ?_)
                        subst hp
                        have w : WB D (tyM cy) 31 cy ad skM A s (wrS (tlS S1 0) n) H locs := w
                        refine lv_iload hx hbc dX8_check_219 (lv_at hl 3 rfl) ?_
                        refine lv_aload_n hx hbc dX8_check_221 rfl (lv_at hl 0 rfl) ?_
                        refine wb_gi (v := nI (pv)) hx hbc hg hown w inG_X8 0 (by decide) rfl rfl 32 (by decide) rfl wk_699 ((hag.1 32 (by decide) (by decide)).trans hpv) dX8_check_222 ?_
                        refine n_cmp_ne (tgt := 242) (by omega) (by omega) hx hbc dX8_check_225 (by decide) (fun c_225 => ?_) (fun c_225 => ?_)
                        · refine lv_iconst (v := nI (0)) hx hbc dX8_check_242 (by decide) ?_
                          refine lv_istore (lv' := [(8, .int (nI (0))), (0, .ref (ad (0))), (1, .int (nI (e9))), (2, .int (nI (n))), (5, .int (nI (u))), (6, .int (nI (n9))), (7, .int (nI (a9)))]) hx hbc dX8_check_243 hl (by decide) rfl (fun ls hl => ?_)
                          refine lv_iconst (v := nI (0)) hx hbc dX8_check_245 (by decide) ?_
                          refine lv_istore (lv' := [(9, .int (nI (0))), (8, .int (nI (0))), (0, .ref (ad (0))), (1, .int (nI (e9))), (2, .int (nI (n))), (5, .int (nI (u))), (6, .int (nI (n9))), (7, .int (nI (a9)))]) hx hbc dX8_check_246 hl (by decide) rfl (fun ls hl => ?_)
                          have lp_248 : ∀ (fu : Nat) (k : Nat) (z : Int32) (H : Heap) (locs : List Loc) (ls : Array Slot), (32 < k + fu) → (k ≤ 32) → ((z = nI 1 ∧ (u = pv ∧ ¬ S.2.1 12 e9 = nI 1) ∧ ∀ q, q < k → byH ((wrS (tlS S1 0) n).2.1 8) q = S.2.1 14 (32 * e9 + q)) ∨ (z = nI 0 ∧ (¬ (u = pv ∧ ¬ S.2.1 12 e9 = nI 1) ∨ ∃ q, q < 32 ∧ ¬ byH ((wrS (tlS S1 0) n).2.1 8) q = S.2.1 14 (32 * e9 + q)))) → WB D (tyM cy) 31 cy ad skM A s (wrS (tlS S1 0) n) H locs → lv_has ls 10 [(0, .ref (ad (0))), (1, .int (nI (e9))), (8, .int (z)), (9, .int (nI (k)))] → W p l e R s m args below meth c H locs 0 0 Q (F0 m 248 ls []) := by
                            intro fu
                            induction fu with
                            | zero =>
                              intro k z H locs ls i1 i2 i3 w hl
                              exact absurd i1 (by omega)
                            | succ fu ih_248 =>
                              intro k z H locs ls i1 i2 i3 w hl
                              refine lv_iload hx hbc dX8_check_248 (lv_at hl 3 rfl) ?_
                              refine lv_bipush (v := nI (32)) hx hbc dX8_check_250 (by decide) ?_
                              refine n_cmp_ge (tgt := 294) (by omega) (by omega) hx hbc dX8_check_252 (by decide) (fun c_252 => ?_) (fun c_252 => ?_)
                              · refine lv_iload hx hbc dX8_check_294 (lv_at hl 2 rfl) ?_
                                refine lv_if_eq (tgt := 303) hx hbc dX8_check_296 (by decide) (fun c_296 => ?_) (fun c_296 => ?_)
                                · refine lv_iconst (v := nI (0)) hx hbc dX8_check_303 (by decide) ?_
                                  exact hend _ _ _ _ _ _ (Or.inr (Or.inr (Or.inr (⟨e9, n, i0, kd, S1, u, c9, he9, rfl, hn1, hn2, rfl, hi0, rfl, hkd, rfl, c_54, ((ckF_1 _ _ _ _ _ _ _ _ _ c_130).symm.trans hck).symm, hag, hc9, (by rcases i3 with h | h; exact absurd (h.1.symm.trans c_296) (by decide); exact Or.inr ⟨rfl, fun h9 => h.2.elim (fun g9 => g9 h9.1) (fun ⟨q, g1, g2⟩ => g2 (h9.2 q g1))⟩), rfl⟩)))) rfl w dX8_check_304
                                · refine lv_iconst (v := nI (1)) hx hbc dX8_check_299 (by decide) ?_
                                  refine lv_goto (tgt := 304) hx hbc dX8_check_300 (by decide) ?_
                                  exact hend _ _ _ _ _ _ (Or.inr (Or.inr (Or.inr (⟨e9, n, i0, kd, S1, u, c9, he9, rfl, hn1, hn2, rfl, hi0, rfl, hkd, rfl, c_54, ((ckF_1 _ _ _ _ _ _ _ _ _ c_130).symm.trans hck).symm, hag, hc9, (by rcases i3 with h | h; exact Or.inl ⟨rfl, h.2.1, fun q hq => h.2.2 q (by omega)⟩; exact absurd h.1 c_296), rfl⟩)))) rfl w dX8_check_304
                              · refine lv_iload hx hbc dX8_check_255 (lv_at hl 2 rfl) ?_
                                refine lv_if_eq (tgt := 294) hx hbc dX8_check_257 (by decide) (fun c_257 => ?_) (fun c_257 => ?_)
                                · refine lv_iload hx hbc dX8_check_294 (lv_at hl 2 rfl) ?_
                                  refine lv_if_eq (tgt := 303) hx hbc dX8_check_296 (by decide) (fun c_296 => ?_) (fun c_296 => ?_)
                                  · refine lv_iconst (v := nI (0)) hx hbc dX8_check_303 (by decide) ?_
                                    exact hend _ _ _ _ _ _ (Or.inr (Or.inr (Or.inr (⟨e9, n, i0, kd, S1, u, c9, he9, rfl, hn1, hn2, rfl, hi0, rfl, hkd, rfl, c_54, ((ckF_1 _ _ _ _ _ _ _ _ _ c_130).symm.trans hck).symm, hag, hc9, (by rcases i3 with h | h; exact absurd (h.1.symm.trans c_296) (by decide); exact Or.inr ⟨rfl, fun h9 => h.2.elim (fun g9 => g9 h9.1) (fun ⟨q, g1, g2⟩ => g2 (h9.2 q g1))⟩), rfl⟩)))) rfl w dX8_check_304
                                  · refine lv_iconst (v := nI (1)) hx hbc dX8_check_299 (by decide) ?_
                                    refine lv_goto (tgt := 304) hx hbc dX8_check_300 (by decide) ?_
                                    exact hend _ _ _ _ _ _ (Or.inr (Or.inr (Or.inr (⟨e9, n, i0, kd, S1, u, c9, he9, rfl, hn1, hn2, rfl, hi0, rfl, hkd, rfl, c_54, ((ckF_1 _ _ _ _ _ _ _ _ _ c_130).symm.trans hck).symm, hag, hc9, (absurd c_257 c_296), rfl⟩)))) rfl w dX8_check_304
                                · refine lv_aload_n hx hbc dX8_check_260 rfl (lv_at hl 0 rfl) ?_
                                  refine lv_iload hx hbc dX8_check_261 (lv_at hl 3 rfl) ?_
                                  refine wb_Vi (na := 1) (As := [.int (nI (k))]) (rest := []) hx hbc hml hg hown w E0_ok trivial w.1 Sub.self 0 (by decide) rfl rfl (k_X8_byteOfH l D cy ad (wrS (tlS S1 0) n) k (by omega)) wk_832 wk_9 wk_829 wk_831 ws_17 ⟨by decide, by decide, by decide⟩ ⟨by rw [hRf]; decide, by rw [hRl]; decide⟩ rfl hl.1 rfl (Nat.le_of_ble_eq_true rfl) dX8_check_263 ⟨Nat.zero_le _, Nat.zero_le _⟩ (fun r S9 H locs hp w => ?_)
                                  obtain ⟨hp, rfl⟩ := hp
                                  subst hp
                                  have w : WB D (tyM cy) 31 cy ad skM A s (wrS (tlS S1 0) n) H locs := w
                                  refine lv_aload_n hx hbc dX8_check_266 rfl (lv_at hl 0 rfl) ?_
                                  refine wb_gr (t := 14) hx hbc hg hown w inG_X8 0 (by decide) rfl rfl 19 (by decide) rfl wk_686 dX8_check_267 ?_
                                  refine lv_bipush (v := nI (32)) hx hbc dX8_check_270 (by decide) ?_
                                  refine lv_iload_n hx hbc dX8_check_272 rfl (lv_at hl 1 rfl) ?_
                                  refine n_imul hx hbc dX8_check_273 ?_
                                  refine lv_iload hx hbc dX8_check_274 (lv_at hl 3 rfl) ?_
                                  refine n_iadd hx hbc dX8_check_276 ?_
                                  refine wb_iald (k := (32 * e9) + k) (v := S.2.1 14 (32 * e9 + k)) hx hbc w 14 (by decide) rfl 0 rfl rfl (by omega) (by decide) (congrFun (hag.2.1 14 (by decide) (by decide) (by decide) (by decide)) _) dX8_check_277 ?_
                                  refine lv_icmp_ne (tgt := 285) hx hbc dX8_check_278 (by decide) (fun c_278 => ?_) (fun c_278 => ?_)
                                  · refine lv_iconst (v := nI (0)) hx hbc dX8_check_285 (by decide) ?_
                                    refine lv_istore (lv' := [(8, .int (nI (0))), (0, .ref (ad (0))), (1, .int (nI (e9))), (9, .int (nI (k)))]) hx hbc dX8_check_286 hl (by decide) rfl (fun ls hl => ?_)
                                    refine lv_iinc (v := nI (k + 1)) (lv' := [(9, .int (nI (k + 1))), (8, .int (nI (0))), (0, .ref (ad (0))), (1, .int (nI (e9)))]) hx hbc dX8_check_288 hl (k := 3) rfl (ni_inc _ _) (by decide) rfl (fun ls hl => ?_)
                                    refine lv_goto (tgt := 248) hx hbc dX8_check_291 (by decide) ?_
                                    exact ih_248 (k + 1) (nI (0)) _ _ _ (by omega) (by omega) (Or.inr ⟨rfl, Or.inr ⟨k, c_252, c_278⟩⟩) w (lv_sub hl [2, 3, 1, 0] rfl)
                                  · refine lv_iconst (v := nI (1)) hx hbc dX8_check_281 (by decide) ?_
                                    refine lv_goto (tgt := 286) hx hbc dX8_check_282 (by decide) ?_
                                    refine lv_istore (lv' := [(8, .int (nI (1))), (0, .ref (ad (0))), (1, .int (nI (e9))), (9, .int (nI (k)))]) hx hbc dX8_check_286 hl (by decide) rfl (fun ls hl => ?_)
                                    refine lv_iinc (v := nI (k + 1)) (lv' := [(9, .int (nI (k + 1))), (8, .int (nI (1))), (0, .ref (ad (0))), (1, .int (nI (e9)))]) hx hbc dX8_check_288 hl (k := 3) rfl (ni_inc _ _) (by decide) rfl (fun ls hl => ?_)
                                    refine lv_goto (tgt := 248) hx hbc dX8_check_291 (by decide) ?_
                                    exact ih_248 (k + 1) (nI (1)) _ _ _ (by omega) (by omega) (Or.inl ⟨rfl, (by rcases i3 with h | h; exact h.2.1; exact absurd h.1 c_257), fun q hq => (by rcases Nat.lt_or_ge q k with h9 | h9; (rcases i3 with h | h; exact h.2.2 q h9; exact absurd h.1 c_257); (obtain rfl : q = k := (by omega); exact c_278))⟩) w (lv_sub hl [2, 3, 1, 0] rfl)
                          exact lp_248 33 0 ((nI 0)) _ _ _ (by omega) (by omega) (Or.inr ⟨rfl, Or.inl (fun h9 => c_225 h9.1)⟩) w (lv_sub hl [2, 3, 1, 0] rfl)
                        · refine lv_aload_n hx hbc dX8_check_228 rfl (lv_at hl 0 rfl) ?_
                          refine wb_gr (t := 12) hx hbc hg hown w inG_X8 0 (by decide) rfl rfl 17 (by decide) rfl wk_684 dX8_check_229 ?_
                          refine lv_iload_n hx hbc dX8_check_232 rfl (lv_at hl 1 rfl) ?_
                          refine wb_iald (k := e9) (v := S.2.1 12 e9) hx hbc w 12 (by decide) rfl 0 rfl rfl (by omega) (by decide) (congrFun (hag.2.1 12 (by decide) (by decide) (by decide) (by decide)) _) dX8_check_233 ?_
                          refine lv_iconst (v := nI (1)) hx hbc dX8_check_234 (by decide) ?_
                          refine lv_icmp_eq (tgt := 242) hx hbc dX8_check_235 (by decide) (fun c_235 => ?_) (fun c_235 => ?_)
                          · refine lv_iconst (v := nI (0)) hx hbc dX8_check_242 (by decide) ?_
                            refine lv_istore (lv' := [(8, .int (nI (0))), (0, .ref (ad (0))), (1, .int (nI (e9))), (2, .int (nI (n))), (5, .int (nI (u))), (6, .int (nI (n9))), (7, .int (nI (a9)))]) hx hbc dX8_check_243 hl (by decide) rfl (fun ls hl => ?_)
                            refine lv_iconst (v := nI (0)) hx hbc dX8_check_245 (by decide) ?_
                            refine lv_istore (lv' := [(9, .int (nI (0))), (8, .int (nI (0))), (0, .ref (ad (0))), (1, .int (nI (e9))), (2, .int (nI (n))), (5, .int (nI (u))), (6, .int (nI (n9))), (7, .int (nI (a9)))]) hx hbc dX8_check_246 hl (by decide) rfl (fun ls hl => ?_)
                            have lp_248 : ∀ (fu : Nat) (k : Nat) (z : Int32) (H : Heap) (locs : List Loc) (ls : Array Slot), (32 < k + fu) → (k ≤ 32) → ((z = nI 1 ∧ (u = pv ∧ ¬ S.2.1 12 e9 = nI 1) ∧ ∀ q, q < k → byH ((wrS (tlS S1 0) n).2.1 8) q = S.2.1 14 (32 * e9 + q)) ∨ (z = nI 0 ∧ (¬ (u = pv ∧ ¬ S.2.1 12 e9 = nI 1) ∨ ∃ q, q < 32 ∧ ¬ byH ((wrS (tlS S1 0) n).2.1 8) q = S.2.1 14 (32 * e9 + q)))) → WB D (tyM cy) 31 cy ad skM A s (wrS (tlS S1 0) n) H locs → lv_has ls 10 [(0, .ref (ad (0))), (1, .int (nI (e9))), (8, .int (z)), (9, .int (nI (k)))] → W p l e R s m args below meth c H locs 0 0 Q (F0 m 248 ls []) := by
                              intro fu
                              induction fu with
                              | zero =>
                                intro k z H locs ls i1 i2 i3 w hl
                                exact absurd i1 (by omega)
                              | succ fu ih_248 =>
                                intro k z H locs ls i1 i2 i3 w hl
                                refine lv_iload hx hbc dX8_check_248 (lv_at hl 3 rfl) ?_
                                refine lv_bipush (v := nI (32)) hx hbc dX8_check_250 (by decide) ?_
                                refine n_cmp_ge (tgt := 294) (by omega) (by omega) hx hbc dX8_check_252 (by decide) (fun c_252 => ?_) (fun c_252 => ?_)
                                · refine lv_iload hx hbc dX8_check_294 (lv_at hl 2 rfl) ?_
                                  refine lv_if_eq (tgt := 303) hx hbc dX8_check_296 (by decide) (fun c_296 => ?_) (fun c_296 => ?_)
                                  · refine lv_iconst (v := nI (0)) hx hbc dX8_check_303 (by decide) ?_
                                    exact hend _ _ _ _ _ _ (Or.inr (Or.inr (Or.inr (⟨e9, n, i0, kd, S1, u, c9, he9, rfl, hn1, hn2, rfl, hi0, rfl, hkd, rfl, c_54, ((ckF_1 _ _ _ _ _ _ _ _ _ c_130).symm.trans hck).symm, hag, hc9, (by rcases i3 with h | h; exact absurd (h.1.symm.trans c_296) (by decide); exact Or.inr ⟨rfl, fun h9 => h.2.elim (fun g9 => g9 h9.1) (fun ⟨q, g1, g2⟩ => g2 (h9.2 q g1))⟩), rfl⟩)))) rfl w dX8_check_304
                                  · refine lv_iconst (v := nI (1)) hx hbc dX8_check_299 (by decide) ?_
                                    refine lv_goto (tgt := 304) hx hbc dX8_check_300 (by decide) ?_
                                    exact hend _ _ _ _ _ _ (Or.inr (Or.inr (Or.inr (⟨e9, n, i0, kd, S1, u, c9, he9, rfl, hn1, hn2, rfl, hi0, rfl, hkd, rfl, c_54, ((ckF_1 _ _ _ _ _ _ _ _ _ c_130).symm.trans hck).symm, hag, hc9, (by rcases i3 with h | h; exact Or.inl ⟨rfl, h.2.1, fun q hq => h.2.2 q (by omega)⟩; exact absurd h.1 c_296), rfl⟩)))) rfl w dX8_check_304
                                · refine lv_iload hx hbc dX8_check_255 (lv_at hl 2 rfl) ?_
                                  refine lv_if_eq (tgt := 294) hx hbc dX8_check_257 (by decide) (fun c_257 => ?_) (fun c_257 => ?_)
                                  · refine lv_iload hx hbc dX8_check_294 (lv_at hl 2 rfl) ?_
                                    refine lv_if_eq (tgt := 303) hx hbc dX8_check_296 (by decide) (fun c_296 => ?_) (fun c_296 => ?_)
                                    · refine lv_iconst (v := nI (0)) hx hbc dX8_check_303 (by decide) ?_
                                      exact hend _ _ _ _ _ _ (Or.inr (Or.inr (Or.inr (⟨e9, n, i0, kd, S1, u, c9, he9, rfl, hn1, hn2, rfl, hi0, rfl, hkd, rfl, c_54, ((ckF_1 _ _ _ _ _ _ _ _ _ c_130).symm.trans hck).symm, hag, hc9, (by rcases i3 with h | h; exact absurd (h.1.symm.trans c_296) (by decide); exact Or.inr ⟨rfl, fun h9 => h.2.elim (fun g9 => g9 h9.1) (fun ⟨q, g1, g2⟩ => g2 (h9.2 q g1))⟩), rfl⟩)))) rfl w dX8_check_304
                                    · refine lv_iconst (v := nI (1)) hx hbc dX8_check_299 (by decide) ?_
                                      refine lv_goto (tgt := 304) hx hbc dX8_check_300 (by decide) ?_
                                      exact hend _ _ _ _ _ _ (Or.inr (Or.inr (Or.inr (⟨e9, n, i0, kd, S1, u, c9, he9, rfl, hn1, hn2, rfl, hi0, rfl, hkd, rfl, c_54, ((ckF_1 _ _ _ _ _ _ _ _ _ c_130).symm.trans hck).symm, hag, hc9, (absurd c_257 c_296), rfl⟩)))) rfl w dX8_check_304
                                  · refine lv_aload_n hx hbc dX8_check_260 rfl (lv_at hl 0 rfl) ?_
                                    refine lv_iload hx hbc dX8_check_261 (lv_at hl 3 rfl) ?_
                                    refine wb_Vi (na := 1) (As := [.int (nI (k))]) (rest := []) hx hbc hml hg hown w E0_ok trivial w.1 Sub.self 0 (by decide) rfl rfl (k_X8_byteOfH l D cy ad (wrS (tlS S1 0) n) k (by omega)) wk_832 wk_9 wk_829 wk_831 ws_17 ⟨by decide, by decide, by decide⟩ ⟨by rw [hRf]; decide, by rw [hRl]; decide⟩ rfl hl.1 rfl (Nat.le_of_ble_eq_true rfl) dX8_check_263 ⟨Nat.zero_le _, Nat.zero_le _⟩ (fun r S9 H locs hp w => ?_)
                                    obtain ⟨hp, rfl⟩ := hp
                                    subst hp
                                    have w : WB D (tyM cy) 31 cy ad skM A s (wrS (tlS S1 0) n) H locs := w
                                    refine lv_aload_n hx hbc dX8_check_266 rfl (lv_at hl 0 rfl) ?_
                                    refine wb_gr (t := 14) hx hbc hg hown w inG_X8 0 (by decide) rfl rfl 19 (by decide) rfl wk_686 dX8_check_267 ?_
                                    refine lv_bipush (v := nI (32)) hx hbc dX8_check_270 (by decide) ?_
                                    refine lv_iload_n hx hbc dX8_check_272 rfl (lv_at hl 1 rfl) ?_
                                    refine n_imul hx hbc dX8_check_273 ?_
                                    refine lv_iload hx hbc dX8_check_274 (lv_at hl 3 rfl) ?_
                                    refine n_iadd hx hbc dX8_check_276 ?_
                                    refine wb_iald (k := (32 * e9) + k) (v := S.2.1 14 (32 * e9 + k)) hx hbc w 14 (by decide) rfl 0 rfl rfl (by omega) (by decide) (congrFun (hag.2.1 14 (by decide) (by decide) (by decide) (by decide)) _) dX8_check_277 ?_
                                    refine lv_icmp_ne (tgt := 285) hx hbc dX8_check_278 (by decide) (fun c_278 => ?_) (fun c_278 => ?_)
                                    · refine lv_iconst (v := nI (0)) hx hbc dX8_check_285 (by decide) ?_
                                      refine lv_istore (lv' := [(8, .int (nI (0))), (0, .ref (ad (0))), (1, .int (nI (e9))), (9, .int (nI (k)))]) hx hbc dX8_check_286 hl (by decide) rfl (fun ls hl => ?_)
                                      refine lv_iinc (v := nI (k + 1)) (lv' := [(9, .int (nI (k + 1))), (8, .int (nI (0))), (0, .ref (ad (0))), (1, .int (nI (e9)))]) hx hbc dX8_check_288 hl (k := 3) rfl (ni_inc _ _) (by decide) rfl (fun ls hl => ?_)
                                      refine lv_goto (tgt := 248) hx hbc dX8_check_291 (by decide) ?_
                                      exact ih_248 (k + 1) (nI (0)) _ _ _ (by omega) (by omega) (Or.inr ⟨rfl, Or.inr ⟨k, c_252, c_278⟩⟩) w (lv_sub hl [2, 3, 1, 0] rfl)
                                    · refine lv_iconst (v := nI (1)) hx hbc dX8_check_281 (by decide) ?_
                                      refine lv_goto (tgt := 286) hx hbc dX8_check_282 (by decide) ?_
                                      refine lv_istore (lv' := [(8, .int (nI (1))), (0, .ref (ad (0))), (1, .int (nI (e9))), (9, .int (nI (k)))]) hx hbc dX8_check_286 hl (by decide) rfl (fun ls hl => ?_)
                                      refine lv_iinc (v := nI (k + 1)) (lv' := [(9, .int (nI (k + 1))), (8, .int (nI (1))), (0, .ref (ad (0))), (1, .int (nI (e9)))]) hx hbc dX8_check_288 hl (k := 3) rfl (ni_inc _ _) (by decide) rfl (fun ls hl => ?_)
                                      refine lv_goto (tgt := 248) hx hbc dX8_check_291 (by decide) ?_
                                      exact ih_248 (k + 1) (nI (1)) _ _ _ (by omega) (by omega) (Or.inl ⟨rfl, (by rcases i3 with h | h; exact h.2.1; exact absurd h.1 c_257), fun q hq => (by rcases Nat.lt_or_ge q k with h9 | h9; (rcases i3 with h | h; exact h.2.2 q h9; exact absurd h.1 c_257); (obtain rfl : q = k := (by omega); exact c_278))⟩) w (lv_sub hl [2, 3, 1, 0] rfl)
                            exact lp_248 33 0 ((nI 0)) _ _ _ (by omega) (by omega) (Or.inr ⟨rfl, Or.inl (fun h9 => h9.2 c_235)⟩) w (lv_sub hl [2, 3, 1, 0] rfl)
                          · refine lv_iconst (v := nI (1)) hx hbc dX8_check_238 (by decide) ?_
                            refine lv_goto (tgt := 243) hx hbc dX8_check_239 (by decide) ?_
                            refine lv_istore (lv' := [(8, .int (nI (1))), (0, .ref (ad (0))), (1, .int (nI (e9))), (2, .int (nI (n))), (5, .int (nI (u))), (6, .int (nI (n9))), (7, .int (nI (a9)))]) hx hbc dX8_check_243 hl (by decide) rfl (fun ls hl => ?_)
                            refine lv_iconst (v := nI (0)) hx hbc dX8_check_245 (by decide) ?_
                            refine lv_istore (lv' := [(9, .int (nI (0))), (8, .int (nI (1))), (0, .ref (ad (0))), (1, .int (nI (e9))), (2, .int (nI (n))), (5, .int (nI (u))), (6, .int (nI (n9))), (7, .int (nI (a9)))]) hx hbc dX8_check_246 hl (by decide) rfl (fun ls hl => ?_)
                            have lp_248 : ∀ (fu : Nat) (k : Nat) (z : Int32) (H : Heap) (locs : List Loc) (ls : Array Slot), (32 < k + fu) → (k ≤ 32) → ((z = nI 1 ∧ (u = pv ∧ ¬ S.2.1 12 e9 = nI 1) ∧ ∀ q, q < k → byH ((wrS (tlS S1 0) n).2.1 8) q = S.2.1 14 (32 * e9 + q)) ∨ (z = nI 0 ∧ (¬ (u = pv ∧ ¬ S.2.1 12 e9 = nI 1) ∨ ∃ q, q < 32 ∧ ¬ byH ((wrS (tlS S1 0) n).2.1 8) q = S.2.1 14 (32 * e9 + q)))) → WB D (tyM cy) 31 cy ad skM A s (wrS (tlS S1 0) n) H locs → lv_has ls 10 [(0, .ref (ad (0))), (1, .int (nI (e9))), (8, .int (z)), (9, .int (nI (k)))] → W p l e R s m args below meth c H locs 0 0 Q (F0 m 248 ls []) := by
                              intro fu
                              induction fu with
                              | zero =>
                                intro k z H locs ls i1 i2 i3 w hl
                                exact absurd i1 (by omega)
                              | succ fu ih_248 =>
                                intro k z H locs ls i1 i2 i3 w hl
                                refine lv_iload hx hbc dX8_check_248 (lv_at hl 3 rfl) ?_
                                refine lv_bipush (v := nI (32)) hx hbc dX8_check_250 (by decide) ?_
                                refine n_cmp_ge (tgt := 294) (by omega) (by omega) hx hbc dX8_check_252 (by decide) (fun c_252 => ?_) (fun c_252 => ?_)
                                · refine lv_iload hx hbc dX8_check_294 (lv_at hl 2 rfl) ?_
                                  refine lv_if_eq (tgt := 303) hx hbc dX8_check_296 (by decide) (fun c_296 => ?_) (fun c_296 => ?_)
                                  · refine lv_iconst (v := nI (0)) hx hbc dX8_check_303 (by decide) ?_
                                    exact hend _ _ _ _ _ _ (Or.inr (Or.inr (Or.inr (⟨e9, n, i0, kd, S1, u, c9, he9, rfl, hn1, hn2, rfl, hi0, rfl, hkd, rfl, c_54, ((ckF_1 _ _ _ _ _ _ _ _ _ c_130).symm.trans hck).symm, hag, hc9, (by rcases i3 with h | h; exact absurd (h.1.symm.trans c_296) (by decide); exact Or.inr ⟨rfl, fun h9 => h.2.elim (fun g9 => g9 h9.1) (fun ⟨q, g1, g2⟩ => g2 (h9.2 q g1))⟩), rfl⟩)))) rfl w dX8_check_304
                                  · refine lv_iconst (v := nI (1)) hx hbc dX8_check_299 (by decide) ?_
                                    refine lv_goto (tgt := 304) hx hbc dX8_check_300 (by decide) ?_
                                    exact hend _ _ _ _ _ _ (Or.inr (Or.inr (Or.inr (⟨e9, n, i0, kd, S1, u, c9, he9, rfl, hn1, hn2, rfl, hi0, rfl, hkd, rfl, c_54, ((ckF_1 _ _ _ _ _ _ _ _ _ c_130).symm.trans hck).symm, hag, hc9, (by rcases i3 with h | h; exact Or.inl ⟨rfl, h.2.1, fun q hq => h.2.2 q (by omega)⟩; exact absurd h.1 c_296), rfl⟩)))) rfl w dX8_check_304
                                · refine lv_iload hx hbc dX8_check_255 (lv_at hl 2 rfl) ?_
                                  refine lv_if_eq (tgt := 294) hx hbc dX8_check_257 (by decide) (fun c_257 => ?_) (fun c_257 => ?_)
                                  · refine lv_iload hx hbc dX8_check_294 (lv_at hl 2 rfl) ?_
                                    refine lv_if_eq (tgt := 303) hx hbc dX8_check_296 (by decide) (fun c_296 => ?_) (fun c_296 => ?_)
                                    · refine lv_iconst (v := nI (0)) hx hbc dX8_check_303 (by decide) ?_
                                      exact hend _ _ _ _ _ _ (Or.inr (Or.inr (Or.inr (⟨e9, n, i0, kd, S1, u, c9, he9, rfl, hn1, hn2, rfl, hi0, rfl, hkd, rfl, c_54, ((ckF_1 _ _ _ _ _ _ _ _ _ c_130).symm.trans hck).symm, hag, hc9, (by rcases i3 with h | h; exact absurd (h.1.symm.trans c_296) (by decide); exact Or.inr ⟨rfl, fun h9 => h.2.elim (fun g9 => g9 h9.1) (fun ⟨q, g1, g2⟩ => g2 (h9.2 q g1))⟩), rfl⟩)))) rfl w dX8_check_304
                                    · refine lv_iconst (v := nI (1)) hx hbc dX8_check_299 (by decide) ?_
                                      refine lv_goto (tgt := 304) hx hbc dX8_check_300 (by decide) ?_
                                      exact hend _ _ _ _ _ _ (Or.inr (Or.inr (Or.inr (⟨e9, n, i0, kd, S1, u, c9, he9, rfl, hn1, hn2, rfl, hi0, rfl, hkd, rfl, c_54, ((ckF_1 _ _ _ _ _ _ _ _ _ c_130).symm.trans hck).symm, hag, hc9, (absurd c_257 c_296), rfl⟩)))) rfl w dX8_check_304
                                  · refine lv_aload_n hx hbc dX8_check_260 rfl (lv_at hl 0 rfl) ?_
                                    refine lv_iload hx hbc dX8_check_261 (lv_at hl 3 rfl) ?_
                                    refine wb_Vi (na := 1) (As := [.int (nI (k))]) (rest := []) hx hbc hml hg hown w E0_ok trivial w.1 Sub.self 0 (by decide) rfl rfl (k_X8_byteOfH l D cy ad (wrS (tlS S1 0) n) k (by omega)) wk_832 wk_9 wk_829 wk_831 ws_17 ⟨by decide, by decide, by decide⟩ ⟨by rw [hRf]; decide, by rw [hRl]; decide⟩ rfl hl.1 rfl (Nat.le_of_ble_eq_true rfl) dX8_check_263 ⟨Nat.zero_le _, Nat.zero_le _⟩ (fun r S9 H locs hp w => ?_)
                                    obtain ⟨hp, rfl⟩ := hp
                                    subst hp
                                    have w : WB D (tyM cy) 31 cy ad skM A s (wrS (tlS S1 0) n) H locs := w
                                    refine lv_aload_n hx hbc dX8_check_266 rfl (lv_at hl 0 rfl) ?_
                                    refine wb_gr (t := 14) hx hbc hg hown w inG_X8 0 (by decide) rfl rfl 19 (by decide) rfl wk_686 dX8_check_267 ?_
                                    refine lv_bipush (v := nI (32)) hx hbc dX8_check_270 (by decide) ?_
                                    refine lv_iload_n hx hbc dX8_check_272 rfl (lv_at hl 1 rfl) ?_
                                    refine n_imul hx hbc dX8_check_273 ?_
                                    refine lv_iload hx hbc dX8_check_274 (lv_at hl 3 rfl) ?_
                                    refine n_iadd hx hbc dX8_check_276 ?_
                                    refine wb_iald (k := (32 * e9) + k) (v := S.2.1 14 (32 * e9 + k)) hx hbc w 14 (by decide) rfl 0 rfl rfl (by omega) (by decide) (congrFun (hag.2.1 14 (by decide) (by decide) (by decide) (by decide)) _) dX8_check_277 ?_
                                    refine lv_icmp_ne (tgt := 285) hx hbc dX8_check_278 (by decide) (fun c_278 => ?_) (fun c_278 => ?_)
                                    · refine lv_iconst (v := nI (0)) hx hbc dX8_check_285 (by decide) ?_
                                      refine lv_istore (lv' := [(8, .int (nI (0))), (0, .ref (ad (0))), (1, .int (nI (e9))), (9, .int (nI (k)))]) hx hbc dX8_check_286 hl (by decide) rfl (fun ls hl => ?_)
                                      refine lv_iinc (v := nI (k + 1)) (lv' := [(9, .int (nI (k + 1))), (8, .int (nI (0))), (0, .ref (ad (0))), (1, .int (nI (e9)))]) hx hbc dX8_check_288 hl (k := 3) rfl (ni_inc _ _) (by decide) rfl (fun ls hl => ?_)
                                      refine lv_goto (tgt := 248) hx hbc dX8_check_291 (by decide) ?_
                                      exact ih_248 (k + 1) (nI (0)) _ _ _ (by omega) (by omega) (Or.inr ⟨rfl, Or.inr ⟨k, c_252, c_278⟩⟩) w (lv_sub hl [2, 3, 1, 0] rfl)
                                    · refine lv_iconst (v := nI (1)) hx hbc dX8_check_281 (by decide) ?_
                                      refine lv_goto (tgt := 286) hx hbc dX8_check_282 (by decide) ?_
                                      refine lv_istore (lv' := [(8, .int (nI (1))), (0, .ref (ad (0))), (1, .int (nI (e9))), (9, .int (nI (k)))]) hx hbc dX8_check_286 hl (by decide) rfl (fun ls hl => ?_)
                                      refine lv_iinc (v := nI (k + 1)) (lv' := [(9, .int (nI (k + 1))), (8, .int (nI (1))), (0, .ref (ad (0))), (1, .int (nI (e9)))]) hx hbc dX8_check_288 hl (k := 3) rfl (ni_inc _ _) (by decide) rfl (fun ls hl => ?_)
                                      refine lv_goto (tgt := 248) hx hbc dX8_check_291 (by decide) ?_
                                      exact ih_248 (k + 1) (nI (1)) _ _ _ (by omega) (by omega) (Or.inl ⟨rfl, (by rcases i3 with h | h; exact h.2.1; exact absurd h.1 c_257), fun q hq => (by rcases Nat.lt_or_ge q k with h9 | h9; (rcases i3 with h | h; exact h.2.2 q h9; exact absurd h.1 c_257); (obtain rfl : q = k := (by omega); exact c_278))⟩) w (lv_sub hl [2, 3, 1, 0] rfl)
                            exact lp_248 33 0 ((nI 1)) _ _ _ (by omega) (by omega) (Or.inl ⟨rfl, ⟨c_225, c_235⟩, fun _ h9 => absurd h9 (Nat.not_lt_zero _)⟩) w (lv_sub hl [2, 3, 1, 0] rfl)
                      · obtain ⟨g1, rfl, hg1⟩ := g_pos h3 c_130
                        refine lv_iload hx hbc dX8_check_133 (lv_at hl 5 rfl) ?_
                        refine lv_iconst (v := nI (2)) hx hbc dX8_check_135 (by decide) ?_
                        refine n_irem (by omega) (by omega) (by omega) hx hbc dX8_check_136 ?_
                        refine lv_if_ne (tgt := 147) hx hbc dX8_check_137 (by decide) (fun c_137 => ?_) (fun c_137 => ?_)
                        · have hodd : a9 % 2 = 1 := by
                            rcases Nat.mod_two_eq_zero_or_one a9 with h | h
                            · rw [h] at c_137; exact absurd rfl c_137
                            · exact h
                          have hbs : bsd a9 = a9 - 1 := by unfold bsd; rw [if_neg (by omega)]
                          refine lv_iload hx hbc dX8_check_147 (lv_at hl 5 rfl) ?_
                          refine lv_iconst (v := nI (1)) hx hbc dX8_check_149 (by decide) ?_
                          refine n_isub (by omega) hx hbc dX8_check_150 ?_
                          refine lv_istore (lv' := [(8, .int (nI (a9 - 1))), (0, .ref (ad (0))), (1, .int (nI (e9))), (2, .int (nI (n))), (5, .int (nI (u))), (6, .int (nI (n9))), (7, .int (nI (a9)))]) hx hbc dX8_check_151 hl (by decide) rfl (fun ls hl => ?_)
                          refine lv_iload hx hbc dX8_check_153 (lv_at hl 0 rfl) ?_
                          refine lv_iload hx hbc dX8_check_155 (lv_at hl 5 rfl) ?_
                          refine n_cmp_ge (tgt := 192) (by omega) (by omega) hx hbc dX8_check_157 (by decide) (fun c_157 => ?_) (fun c_157 => ?_)
                          · refine lv_iload hx hbc dX8_check_192 (lv_at hl 5 rfl) ?_
                            refine lv_iconst (v := nI (1)) hx hbc dX8_check_194 (by decide) ?_
                            refine n_iadd hx hbc dX8_check_195 ?_
                            refine lv_iconst (v := nI (2)) hx hbc dX8_check_196 (by decide) ?_
                            refine n_idiv (by omega) (by omega) (by omega) hx hbc dX8_check_197 ?_
                            refine lv_istore (lv' := [(6, .int (nI ((n9 + 1) / 2))), (8, .int (nI (a9 - 1))), (0, .ref (ad (0))), (1, .int (nI (e9))), (2, .int (nI (n))), (5, .int (nI (u))), (7, .int (nI (a9)))]) hx hbc dX8_check_198 hl (by decide) rfl (fun ls hl => ?_)
                            refine lv_iload hx hbc dX8_check_200 (lv_at hl 6 rfl) ?_
                            refine lv_iconst (v := nI (2)) hx hbc dX8_check_202 (by decide) ?_
                            refine n_idiv (by omega) (by omega) (by omega) hx hbc dX8_check_203 ?_
                            refine lv_istore (lv' := [(7, .int (nI (a9 / 2))), (6, .int (nI ((n9 + 1) / 2))), (8, .int (nI (a9 - 1))), (0, .ref (ad (0))), (1, .int (nI (e9))), (2, .int (nI (n))), (5, .int (nI (u)))]) hx hbc dX8_check_204 hl (by decide) rfl (fun ls hl => ?_)
                            refine lv_goto (tgt := 127) hx hbc dX8_check_206 (by decide) ?_
                            exact ih_127 ((n9 + 1) / 2) (a9 / 2) u S1 c9 g1 _ _ _ (by omega) (by omega) hg1 (by omega) hu hag hc9 ((ckF_n _ _ _ _ _ _ _ _ _ c_130 (by rw [hbs]; omega)).symm.trans hck) w (lv_sub hl [3, 4, 5, 6, 1, 0] rfl)
                          · refine lv_iload hx hbc dX8_check_160 (lv_at hl 4 rfl) ?_
                            refine lv_aload_n hx hbc dX8_check_162 rfl (lv_at hl 1 rfl) ?_
                            refine wb_gi (v := nI (pv)) hx hbc hg hown w inG_X8 0 (by decide) rfl rfl 32 (by decide) rfl wk_699 ((hag.1 32 (by decide) (by decide)).trans hpv) dX8_check_163 ?_
                            refine n_cmp_ne (tgt := 171) (by omega) (by omega) hx hbc dX8_check_166 (by decide) (fun c_166 => ?_) (fun c_166 => ?_)
                            · refine lv_aload_n hx hbc dX8_check_171 rfl (lv_at hl 1 rfl) ?_
                              refine lv_iload hx hbc dX8_check_172 (lv_at hl 4 rfl) ?_
                              refine lv_iload hx hbc dX8_check_174 (lv_at hl 6 rfl) ?_
                              refine lv_iconst (v := nI (2)) hx hbc dX8_check_176 (by decide) ?_
                              refine n_irem (by omega) (by omega) (by omega) hx hbc dX8_check_177 ?_
                              refine lv_if_ne (tgt := 185) hx hbc dX8_check_178 (by decide) (fun c_178 => ?_) (fun c_178 => ?_)
                              · refine lv_iconst (v := nI (0)) hx hbc dX8_check_185 (by decide) ?_
                                refine wb_Vv (na := 2) (As := [.int (nI (u)), .int (nI (0))]) (rest := []) hx hbc hml hg hown w E0_ok trivial w.1 Sub.self 0 (by decide) rfl rfl (k_X8_join0 l D cy ad (S1) u (by omega) q1 hq1) wk_940 wk_9 wk_937 wk_939 ws_27 ⟨by decide, by decide, by decide⟩ ⟨by rw [hRf]; decide, by rw [hRl]; decide⟩ rfl hl.1 rfl (Nat.le_of_ble_eq_true rfl) dX8_check_186 ⟨Nat.zero_le _, Nat.zero_le _⟩ (fun S9 H locs hp w => ?_)
                                subst hp
                                have w : WB D (tyM cy) 31 cy ad skM A s (jnS S1 u 0 q1) H locs := w
                                refine lv_iinc (v := nI (u + 1)) (lv' := [(5, .int (nI (u + 1))), (8, .int (nI (a9 - 1))), (0, .ref (ad (0))), (1, .int (nI (e9))), (2, .int (nI (n))), (6, .int (nI (n9))), (7, .int (nI (a9)))]) hx hbc dX8_check_189 hl (k := 4) rfl (ni_inc _ _) (by decide) rfl (fun ls hl => ?_)
                                refine lv_iload hx hbc dX8_check_192 (lv_at hl 5 rfl) ?_
                                refine lv_iconst (v := nI (1)) hx hbc dX8_check_194 (by decide) ?_
                                refine n_iadd hx hbc dX8_check_195 ?_
                                refine lv_iconst (v := nI (2)) hx hbc dX8_check_196 (by decide) ?_
                                refine n_idiv (by omega) (by omega) (by omega) hx hbc dX8_check_197 ?_
                                refine lv_istore (lv' := [(6, .int (nI ((n9 + 1) / 2))), (5, .int (nI (u + 1))), (8, .int (nI (a9 - 1))), (0, .ref (ad (0))), (1, .int (nI (e9))), (2, .int (nI (n))), (7, .int (nI (a9)))]) hx hbc dX8_check_198 hl (by decide) rfl (fun ls hl => ?_)
                                refine lv_iload hx hbc dX8_check_200 (lv_at hl 6 rfl) ?_
                                refine lv_iconst (v := nI (2)) hx hbc dX8_check_202 (by decide) ?_
                                refine n_idiv (by omega) (by omega) (by omega) hx hbc dX8_check_203 ?_
                                refine lv_istore (lv' := [(7, .int (nI (a9 / 2))), (6, .int (nI ((n9 + 1) / 2))), (5, .int (nI (u + 1))), (8, .int (nI (a9 - 1))), (0, .ref (ad (0))), (1, .int (nI (e9))), (2, .int (nI (n)))]) hx hbc dX8_check_204 hl (by decide) rfl (fun ls hl => ?_)
                                refine lv_goto (tgt := 127) hx hbc dX8_check_206 (by decide) ?_
                                exact ih_127 ((n9 + 1) / 2) (a9 / 2) (u + 1) (jnS S1 u 0 q1) (prH (S.2.1 1) (S.2.1 2) (fun j => S.2.1 27 (8 * u + j)) c9) g1 _ _ _ (by omega) (by omega) hg1 (by omega) (by omega) (hag.wk _ _ _ _) (jn0_eq (S := sI S 0 0 (nI 0)) hag hc9) ((ckF_y _ _ _ _ _ _ _ _ _ c_130 (by rw [hbs]; exact c_157) c_166).trans (by rw [if_neg (by omega)]) |>.symm.trans hck) w (lv_sub hl [4, 5, 6, 2, 1, 0] rfl)
                              · exact absurd c_178 (by rw [hodd]; decide)
                            · refine lv_iconst (v := nI (0)) hx hbc dX8_check_169 (by decide) ?_
                              exact hend _ _ _ _ _ _ (Or.inr (Or.inr (Or.inl ⟨e9, n, i0, kd, S1, he9, rfl, hn1, hn2, rfl, hi0, rfl, hkd, rfl, c_54, ((ckF_x _ _ _ _ _ _ _ _ _ c_130 (by rw [hbs]; exact c_157) c_166).symm.trans hck).symm, hag, rfl, rfl⟩))) rfl w dX8_check_170
                        · have hevn : a9 % 2 = 0 := by
                            rcases Nat.mod_two_eq_zero_or_one a9 with h | h
                            · exact h
                            · rw [h] at c_137; exact absurd c_137 (by decide)
                          have hbs : bsd a9 = a9 + 1 := by unfold bsd; rw [if_pos hevn]
                          refine lv_iload hx hbc dX8_check_140 (lv_at hl 5 rfl) ?_
                          refine lv_iconst (v := nI (1)) hx hbc dX8_check_142 (by decide) ?_
                          refine n_iadd hx hbc dX8_check_143 ?_
                          refine lv_goto (tgt := 151) hx hbc dX8_check_144 (by decide) ?_
                          refine lv_istore (lv' := [(8, .int (nI (a9 + 1))), (0, .ref (ad (0))), (1, .int (nI (e9))), (2, .int (nI (n))), (5, .int (nI (u))), (6, .int (nI (n9))), (7, .int (nI (a9)))]) hx hbc dX8_check_151 hl (by decide) rfl (fun ls hl => ?_)
                          refine lv_iload hx hbc dX8_check_153 (lv_at hl 0 rfl) ?_
                          refine lv_iload hx hbc dX8_check_155 (lv_at hl 5 rfl) ?_
                          refine n_cmp_ge (tgt := 192) (by omega) (by omega) hx hbc dX8_check_157 (by decide) (fun c_157 => ?_) (fun c_157 => ?_)
                          · refine lv_iload hx hbc dX8_check_192 (lv_at hl 5 rfl) ?_
                            refine lv_iconst (v := nI (1)) hx hbc dX8_check_194 (by decide) ?_
                            refine n_iadd hx hbc dX8_check_195 ?_
                            refine lv_iconst (v := nI (2)) hx hbc dX8_check_196 (by decide) ?_
                            refine n_idiv (by omega) (by omega) (by omega) hx hbc dX8_check_197 ?_
                            refine lv_istore (lv' := [(6, .int (nI ((n9 + 1) / 2))), (8, .int (nI (a9 + 1))), (0, .ref (ad (0))), (1, .int (nI (e9))), (2, .int (nI (n))), (5, .int (nI (u))), (7, .int (nI (a9)))]) hx hbc dX8_check_198 hl (by decide) rfl (fun ls hl => ?_)
                            refine lv_iload hx hbc dX8_check_200 (lv_at hl 6 rfl) ?_
                            refine lv_iconst (v := nI (2)) hx hbc dX8_check_202 (by decide) ?_
                            refine n_idiv (by omega) (by omega) (by omega) hx hbc dX8_check_203 ?_
                            refine lv_istore (lv' := [(7, .int (nI (a9 / 2))), (6, .int (nI ((n9 + 1) / 2))), (8, .int (nI (a9 + 1))), (0, .ref (ad (0))), (1, .int (nI (e9))), (2, .int (nI (n))), (5, .int (nI (u)))]) hx hbc dX8_check_204 hl (by decide) rfl (fun ls hl => ?_)
                            refine lv_goto (tgt := 127) hx hbc dX8_check_206 (by decide) ?_
                            exact ih_127 ((n9 + 1) / 2) (a9 / 2) u S1 c9 g1 _ _ _ (by omega) (by omega) hg1 (by omega) hu hag hc9 ((ckF_n _ _ _ _ _ _ _ _ _ c_130 (by rw [hbs]; omega)).symm.trans hck) w (lv_sub hl [3, 4, 5, 6, 1, 0] rfl)
                          · refine lv_iload hx hbc dX8_check_160 (lv_at hl 4 rfl) ?_
                            refine lv_aload_n hx hbc dX8_check_162 rfl (lv_at hl 1 rfl) ?_
                            refine wb_gi (v := nI (pv)) hx hbc hg hown w inG_X8 0 (by decide) rfl rfl 32 (by decide) rfl wk_699 ((hag.1 32 (by decide) (by decide)).trans hpv) dX8_check_163 ?_
                            refine n_cmp_ne (tgt := 171) (by omega) (by omega) hx hbc dX8_check_166 (by decide) (fun c_166 => ?_) (fun c_166 => ?_)
                            · refine lv_aload_n hx hbc dX8_check_171 rfl (lv_at hl 1 rfl) ?_
                              refine lv_iload hx hbc dX8_check_172 (lv_at hl 4 rfl) ?_
                              refine lv_iload hx hbc dX8_check_174 (lv_at hl 6 rfl) ?_
                              refine lv_iconst (v := nI (2)) hx hbc dX8_check_176 (by decide) ?_
                              refine n_irem (by omega) (by omega) (by omega) hx hbc dX8_check_177 ?_
                              refine lv_if_ne (tgt := 185) hx hbc dX8_check_178 (by decide) (fun c_178 => ?_) (fun c_178 => ?_)
                              · exact absurd (congrArg nI hevn) c_178
                              · refine lv_iconst (v := nI (1)) hx hbc dX8_check_181 (by decide) ?_
                                refine lv_goto (tgt := 186) hx hbc dX8_check_182 (by decide) ?_
                                refine wb_Vv (na := 2) (As := [.int (nI (u)), .int (nI (1))]) (rest := []) hx hbc hml hg hown w E0_ok trivial w.1 Sub.self 0 (by decide) rfl rfl (k_X8_join1 l D cy ad (S1) u (by omega) q1 hq1) wk_940 wk_9 wk_937 wk_939 ws_27 ⟨by decide, by decide, by decide⟩ ⟨by rw [hRf]; decide, by rw [hRl]; decide⟩ rfl hl.1 rfl (Nat.le_of_ble_eq_true rfl) dX8_check_186 ⟨Nat.zero_le _, Nat.zero_le _⟩ (fun S9 H locs hp w => ?_)
                                subst hp
                                have w : WB D (tyM cy) 31 cy ad skM A s (jnS S1 u 1 q1) H locs := w
                                refine lv_iinc (v := nI (u + 1)) (lv' := [(5, .int (nI (u + 1))), (8, .int (nI (a9 + 1))), (0, .ref (ad (0))), (1, .int (nI (e9))), (2, .int (nI (n))), (6, .int (nI (n9))), (7, .int (nI (a9)))]) hx hbc dX8_check_189 hl (k := 4) rfl (ni_inc _ _) (by decide) rfl (fun ls hl => ?_)
                                refine lv_iload hx hbc dX8_check_192 (lv_at hl 5 rfl) ?_
                                refine lv_iconst (v := nI (1)) hx hbc dX8_check_194 (by decide) ?_
                                refine n_iadd hx hbc dX8_check_195 ?_
                                refine lv_iconst (v := nI (2)) hx hbc dX8_check_196 (by decide) ?_
                                refine n_idiv (by omega) (by omega) (by omega) hx hbc dX8_check_197 ?_
                                refine lv_istore (lv' := [(6, .int (nI ((n9 + 1) / 2))), (5, .int (nI (u + 1))), (8, .int (nI (a9 + 1))), (0, .ref (ad (0))), (1, .int (nI (e9))), (2, .int (nI (n))), (7, .int (nI (a9)))]) hx hbc dX8_check_198 hl (by decide) rfl (fun ls hl => ?_)
                                refine lv_iload hx hbc dX8_check_200 (lv_at hl 6 rfl) ?_
                                refine lv_iconst (v := nI (2)) hx hbc dX8_check_202 (by decide) ?_
                                refine n_idiv (by omega) (by omega) (by omega) hx hbc dX8_check_203 ?_
                                refine lv_istore (lv' := [(7, .int (nI (a9 / 2))), (6, .int (nI ((n9 + 1) / 2))), (5, .int (nI (u + 1))), (8, .int (nI (a9 + 1))), (0, .ref (ad (0))), (1, .int (nI (e9))), (2, .int (nI (n)))]) hx hbc dX8_check_204 hl (by decide) rfl (fun ls hl => ?_)
                                refine lv_goto (tgt := 127) hx hbc dX8_check_206 (by decide) ?_
                                exact ih_127 ((n9 + 1) / 2) (a9 / 2) (u + 1) (jnS S1 u 1 q1) (prH (S.2.1 1) (S.2.1 2) c9 (fun j => S.2.1 27 (8 * u + j))) g1 _ _ _ (by omega) (by omega) hg1 (by omega) (by omega) (hag.wk _ _ _ _) (jn1_eq (S := sI S 0 0 (nI 0)) hag hc9) ((ckF_y _ _ _ _ _ _ _ _ _ c_130 (by rw [hbs]; exact c_157) c_166).trans (by rw [if_pos hevn]) |>.symm.trans hck) w (lv_sub hl [4, 5, 6, 2, 1, 0] rfl)
                            · refine lv_iconst (v := nI (0)) hx hbc dX8_check_169 (by decide) ?_
                              exact hend _ _ _ _ _ _ (Or.inr (Or.inr (Or.inl ⟨e9, n, i0, kd, S1, he9, rfl, hn1, hn2, rfl, hi0, rfl, hkd, rfl, c_54, ((ckF_x _ _ _ _ _ _ _ _ _ c_130 (by rw [hbs]; exact c_157) c_166).symm.trans hck).symm, hag, rfl, rfl⟩))) rfl w dX8_check_170
                  exact lp_127 (n + 1) n i0 0 (wrk (sI S 0 0 (nI 0)) (nI (0)) (pts (upd (upd (upd (S.2.1 7) 0 (nI (0))) 1 (nI (kd))) 2 (nI (t))) 3 (S.2.1 10) t) (3 + t) q) (shaC (S.2.1 1) (S.2.1 2) (lfB (nI kd) (nI t) (S.2.1 10)) (3 + t)) 4 _ _ _ (by omega) (by omega) (Nat.le_trans (show n ≤ 12 by omega) (by decide)) (by omega) (by omega) ((agM.rf (S := sI S 0 0 (nI 0)) ⟨q, hq⟩).wk _ _ _ _) (fun j hj => ck_beg (by rfl) (by rfl) _ _ _ _ _ j hj) rfl w (lv_sub hl [3, 4, 5, 2, 1, 0] rfl)
                · refine lv_aload_n hx hbc dX8_check_96 rfl (lv_at hl 0 rfl) ?_
                  refine lv_aload_n hx hbc dX8_check_97 rfl (lv_at hl 0 rfl) ?_
                  refine wb_gr (t := 10) hx hbc hg hown w inG_X8 0 (by decide) rfl rfl 13 (by decide) rfl wk_680 dX8_check_98 ?_
                  refine lv_iload hx hbc dX8_check_101 (lv_at hl 5 rfl) ?_
                  refine wb_iald (k := k) (v := (S.2.1 10) k) hx hbc w 10 (by decide) rfl 0 rfl rfl (by omega) (by decide) rfl dX8_check_103 ?_
                  refine wb_Vv (na := 1) (As := [.int ((S.2.1 10) k)]) (rest := []) hx hbc hml hg hown w E0_ok trivial w.1 Sub.self 0 (by decide) rfl rfl (k_X8_put l D cy ad (pst (sI S 0 0 (nI 0)) (pts (upd (upd (upd (S.2.1 7) 0 (nI (0))) 1 (nI (kd))) 2 (nI (t))) 3 (S.2.1 10) k) (3 + k)) ((S.2.1 10) k) (3 + k) rfl (by omega)) wk_816 wk_9 wk_813 wk_815 ws_14 ⟨by decide, by decide, by decide⟩ ⟨by rw [hRf]; decide, by rw [hRl]; decide⟩ rfl hl.1 rfl (Nat.le_of_ble_eq_true rfl) dX8_check_104 ⟨Nat.zero_le _, Nat.zero_le _⟩ (fun S9 H locs hp w => ?_)
                  subst hp
                  have w := WB_cast w (pst_pst _ _ _ _ _)
                  have w : WB D (tyM cy) 31 cy ad skM A s (pst (sI S 0 0 (nI 0)) (upd (pts (upd (upd (upd (S.2.1 7) 0 (nI (0))) 1 (nI (kd))) 2 (nI (t))) 3 (S.2.1 10) k) (3 + k) ((S.2.1 10) k)) (3 + k + 1)) H locs := w
                  refine lv_iinc (v := nI (k + 1)) (lv' := [(5, .int (nI (k + 1))), (0, .ref (ad (0))), (1, .int (nI (e9))), (2, .int (nI (n))), (3, .int (nI (i0))), (4, .int (nI (kd)))]) hx hbc dX8_check_107 hl (k := 5) rfl (ni_inc _ _) (by decide) rfl (fun ls hl => ?_)
                  refine lv_goto (tgt := 87) hx hbc dX8_check_110 (by decide) ?_
                  exact ih_87 (k + 1) _ _ _ (by omega) (by omega) w (lv_sub hl [1, 2, 3, 4, 5, 0] rfl)
            exact lp_87 (t + 1) 0 _ _ _ (by omega) (by omega) w (lv_sub hl [1, 2, 3, 4, 5, 0] rfl)
          · refine lv_bipush (v := (-102)) hx hbc dX8_check_57 (by decide) ?_
            exact hend _ _ _ _ _ _ (Or.inr (Or.inl ⟨e9, he9, rfl, Or.inr (Or.inr (Or.inr c_54)), rfl, rfl⟩)) rfl w dX8_check_59
  · refine lv_bipush (v := (-101)) hx hbc dX8_check_13 (by decide) ?_
    exact hend _ _ _ _ _ _ (Or.inl ⟨c_10, rfl, rfl⟩) rfl w dX8_check_15
