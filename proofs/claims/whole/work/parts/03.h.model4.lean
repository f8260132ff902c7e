set_option maxHeartbeats 4000000 in
set_option maxRecDepth 100000 in
theorem k_X8_digest (l : Launch) (D : va_G) (cy : Nat → ClassId) (ad : Nat → Nat) (S : wS) (x : Int32) (t d ks : Nat) (ht : S.1 0 12 = nI t) (ht2 : t ≤ 200) (hd : S.1 0 16 = nI d) (hd2 : d ≤ 60) (hks : S.1 0 14 = nI ks) (hks2 : ks ≤ 200) : CtI l yX8_digest (Cond.code yX8_digest cX8_digest 3 (some .int) :: wsG) 4 102 [.ref (ad (0)), .int (x)] D (tyM cy) 31 cy ad skM E0 (S) (fun r S' => (inF x (nI 0) (nI 2) = 0 ∧ r = (-102) ∧ S' = sI S 0 0 (nI 0)) ∨ (∃ k, k ≤ 2 ∧ x = nI k ∧ d = 60 ∧ r = (-103) ∧ S' = sI S 0 0 (nI 0)) ∨ (x = nI 0 ∧ d < 60 ∧ r = nI d ∧ S' = sI (md0t (sI S 0 0 (nI 0)) d t) 0 12 (nI 0)) ∨ (x = nI 1 ∧ d < 60 ∧ r = nI d ∧ S' = sI (md1t (sI S 0 0 (nI 0)) d t) 0 12 (nI 0)) ∨ (x = nI 2 ∧ d < 60 ∧ r = nI d ∧ S' = sI (md2t (pkS (sI S 0 0 (nI 0)) ks 0) d t (pkQ ks)) 0 12 (nI 0))) := by
  refine CtI_of (by decide) (Nat.le_of_ble_eq_true rfl) ?_
  intro p e s m args below meth c A ls R Q hB hRf hRl hend
  obtain ⟨hx, hbc, hr, hg, hown, hml, hlk, w, hE, hl⟩ := hB
  have hl : lv_has ls 3 [(0, .ref (ad (0))), (1, .int (x))] := hl
  refine lv_aload_n hx hbc dX8_digest_0 rfl (lv_at hl 0 rfl) ?_
  refine lv_iconst (v := nI (0)) hx hbc dX8_digest_1 (by decide) ?_
  refine wb_pi (v := nI (0)) hx hbc hg hown w inG_X8 tyX8 tyX8_ok nmX8 0 (by decide) rfl rfl 0 (by decide) rfl wk_667 rfl rfl rfl rfl dX8_digest_2 (fun H locs w => ?_)
  refine lv_iload_n hx hbc dX8_digest_5 rfl (lv_at hl 1 rfl) ?_
  refine lv_iconst (v := nI (0)) hx hbc dX8_digest_6 (by decide) ?_
  refine lv_iconst (v := nI (2)) hx hbc dX8_digest_7 (by decide) ?_
  refine wb_Si (na := 3) (As := [.int (x), .int (nI (0)), .int (nI (2))]) (rest := []) hx hbc hml hg hown w E0_ok trivial w.1 Sub.none (k_X8_in l D cy ad (sI S 0 0 (nI (0))) x (nI (0)) (nI (2))) wk_799 wk_9 wk_797 wk_798 ⟨by decide, by decide, by decide⟩ ⟨by rw [hRf]; decide, by rw [hRl]; decide⟩ rfl hl.1 rfl (Nat.le_of_ble_eq_true rfl) dX8_digest_8 ⟨Nat.zero_le _, Nat.zero_le _⟩ (fun r S9 H locs hp w => ?_)
  subst hp
  refine lv_if_ne (tgt := 17) hx hbc dX8_digest_11 (by decide) (fun c_11 => ?_) (fun c_11 => ?_)
  · obtain ⟨k, hk, rfl⟩ := inF_nzb c_11 (by decide)
    refine lv_aload_n hx hbc dX8_digest_17 rfl (lv_at hl 0 rfl) ?_
    refine wb_gi (v := nI (d)) hx hbc hg hown w inG_X8 0 (by decide) rfl rfl 16 (by decide) rfl wk_683 hd dX8_digest_18 ?_
    refine lv_bipush (v := nI (60)) hx hbc dX8_digest_21 (by decide) ?_
    refine n_cmp_ne (tgt := 29) (by omega) (by omega) hx hbc dX8_digest_23 (by decide) (fun c_23 => ?_) (fun c_23 => ?_)
    · rcases (show k = 0 ∨ k = 1 ∨ k = 2 by omega) with rfl | rfl | rfl
      · have hl : lv_has ls 3 [(0, .ref (ad (0))), (1, .int (nI (0)))] := hl
        refine lv_iload_n hx hbc dX8_digest_29 rfl (lv_at hl 1 rfl) ?_
        refine lv_iconst (v := nI (2)) hx hbc dX8_digest_30 (by decide) ?_
        refine n_cmp_ne (tgt := 39) (by omega) (by omega) hx hbc dX8_digest_31 (by decide) (fun c_31 => ?_) (fun c_31 => ?_)
        · refine lv_aload_n hx hbc dX8_digest_39 rfl (lv_at hl 0 rfl) ?_
          refine lv_iload_n hx hbc dX8_digest_40 rfl (lv_at hl 1 rfl) ?_
          refine lv_iconst (v := (-1)) hx hbc dX8_digest_41 (by decide) ?_
          refine wb_Vi (na := 2) (As := [.int (nI (0)), .int ((-1))]) (rest := []) hx hbc hml hg hown w E0_ok trivial w.1 Sub.self 0 (by decide) rfl rfl (k_X8_made0t l D cy ad (sI S 0 0 (nI (0))) d hd (by omega) t ht (by omega)) wk_836 wk_9 wk_833 wk_835 ws_18 ⟨by decide, by decide, by decide⟩ ⟨by rw [hRf]; decide, by rw [hRl]; decide⟩ rfl hl.1 rfl (Nat.le_of_ble_eq_true rfl) dX8_digest_42 ⟨Nat.zero_le _, Nat.zero_le _⟩ (fun r S9 H locs hp w => ?_)
          obtain ⟨hp, rfl⟩ := hp
          subst hp
          have w : WB D (tyM cy) 31 cy ad skM A s (md0t (sI S 0 0 (nI (0))) d t) H locs := w
          refine lv_istore_n (lv' := [(2, .int (nI (d))), (0, .ref (ad (0))), (1, .int (nI (0)))]) hx hbc dX8_digest_45 rfl hl (by decide) rfl (fun ls hl => ?_)
          refine lv_aload_n hx hbc dX8_digest_46 rfl (lv_at hl 1 rfl) ?_
          refine lv_iconst (v := nI (0)) hx hbc dX8_digest_47 (by decide) ?_
          refine wb_pi (v := nI (0)) hx hbc hg hown w inG_X8 tyX8 tyX8_ok nmX8 0 (by decide) rfl rfl 12 (by decide) rfl wk_679 rfl rfl rfl rfl dX8_digest_48 (fun H locs w => ?_)
          refine lv_iload_n hx hbc dX8_digest_51 rfl (lv_at hl 0 rfl) ?_
          exact hend _ _ _ _ _ _ (Or.inr (Or.inr (Or.inl ⟨rfl, (by omega), rfl, rfl⟩))) rfl w dX8_digest_52
        · exact absurd c_31 (by decide)
      · have hl : lv_has ls 3 [(0, .ref (ad (0))), (1, .int (nI (1)))] := hl
        refine lv_iload_n hx hbc dX8_digest_29 rfl (lv_at hl 1 rfl) ?_
        refine lv_iconst (v := nI (2)) hx hbc dX8_digest_30 (by decide) ?_
        refine n_cmp_ne (tgt := 39) (by omega) (by omega) hx hbc dX8_digest_31 (by decide) (fun c_31 => ?_) (fun c_31 => ?_)
        · refine lv_aload_n hx hbc dX8_digest_39 rfl (lv_at hl 0 rfl) ?_
          refine lv_iload_n hx hbc dX8_digest_40 rfl (lv_at hl 1 rfl) ?_
          refine lv_iconst (v := (-1)) hx hbc dX8_digest_41 (by decide) ?_
          refine wb_Vi (na := 2) (As := [.int (nI (1)), .int ((-1))]) (rest := []) hx hbc hml hg hown w E0_ok trivial w.1 Sub.self 0 (by decide) rfl rfl (k_X8_made1t l D cy ad (sI S 0 0 (nI (0))) d hd (by omega) t ht (by omega)) wk_836 wk_9 wk_833 wk_835 ws_18 ⟨by decide, by decide, by decide⟩ ⟨by rw [hRf]; decide, by rw [hRl]; decide⟩ rfl hl.1 rfl (Nat.le_of_ble_eq_true rfl) dX8_digest_42 ⟨Nat.zero_le _, Nat.zero_le _⟩ (fun r S9 H locs hp w => ?_)
          obtain ⟨hp, rfl⟩ := hp
          subst hp
          have w : WB D (tyM cy) 31 cy ad skM A s (md1t (sI S 0 0 (nI (0))) d t) H locs := w
          refine lv_istore_n (lv' := [(2, .int (nI (d))), (0, .ref (ad (0))), (1, .int (nI (1)))]) hx hbc dX8_digest_45 rfl hl (by decide) rfl (fun ls hl => ?_)
          refine lv_aload_n hx hbc dX8_digest_46 rfl (lv_at hl 1 rfl) ?_
          refine lv_iconst (v := nI (0)) hx hbc dX8_digest_47 (by decide) ?_
          refine wb_pi (v := nI (0)) hx hbc hg hown w inG_X8 tyX8 tyX8_ok nmX8 0 (by decide) rfl rfl 12 (by decide) rfl wk_679 rfl rfl rfl rfl dX8_digest_48 (fun H locs w => ?_)
          refine lv_iload_n hx hbc dX8_digest_51 rfl (lv_at hl 0 rfl) ?_
          exact hend _ _ _ _ _ _ (Or.inr (Or.inr (Or.inr (Or.inl ⟨rfl, (by omega), rfl, rfl⟩)))) rfl w dX8_digest_52
        · exact absurd c_31 (by decide)
      · have hl : lv_has ls 3 [(0, .ref (ad (0))), (1, .int (nI (2)))] := hl
        refine lv_iload_n hx hbc dX8_digest_29 rfl (lv_at hl 1 rfl) ?_
        refine lv_iconst (v := nI (2)) hx hbc dX8_digest_30 (by decide) ?_
        refine n_cmp_ne (tgt := 39) (by omega) (by omega) hx hbc dX8_digest_31 (by decide) (fun c_31 => ?_) (fun c_31 => ?_)
        · exact absurd c_31 (by decide)
        · refine lv_aload_n hx hbc dX8_digest_34 rfl (lv_at hl 0 rfl) ?_
          refine lv_iconst (v := nI (0)) hx hbc dX8_digest_35 (by decide) ?_
          refine wb_Vv (na := 1) (As := [.int (nI (0))]) (rest := []) hx hbc hml hg hown w E0_ok trivial w.1 Sub.self 0 (by decide) rfl rfl (k_X8_padKey l D cy ad (sI S 0 0 (nI (0))) 0 ks (by omega) hks (by omega)) wk_812 wk_9 wk_809 wk_811 ws_13 ⟨by decide, by decide, by decide⟩ ⟨by rw [hRf]; decide, by rw [hRl]; decide⟩ rfl hl.1 rfl (Nat.le_of_ble_eq_true rfl) dX8_digest_36 ⟨Nat.zero_le _, Nat.zero_le _⟩ (fun S9 H locs hp w => ?_)
          subst hp
          have w : WB D (tyM cy) 31 cy ad skM A s (pkS (sI S 0 0 (nI (0))) ks 0) H locs := w
          refine lv_aload_n hx hbc dX8_digest_39 rfl (lv_at hl 0 rfl) ?_
          refine lv_iload_n hx hbc dX8_digest_40 rfl (lv_at hl 1 rfl) ?_
          refine lv_iconst (v := (-1)) hx hbc dX8_digest_41 (by decide) ?_
          refine wb_Vi (na := 2) (As := [.int (nI (2)), .int ((-1))]) (rest := []) hx hbc hml hg hown w E0_ok trivial w.1 Sub.self 0 (by decide) rfl rfl (k_X8_made2t l D cy ad (pkS (sI S 0 0 (nI (0))) ks 0) d (((pkS_I _ _ _ 16 (by decide) (by decide)).trans hd)) (by omega) t (((pkS_I _ _ _ 12 (by decide) (by decide)).trans ht)) (by omega) (pkQ ks) (pkS_17 _ _ 0)) wk_836 wk_9 wk_833 wk_835 ws_18 ⟨by decide, by decide, by decide⟩ ⟨by rw [hRf]; decide, by rw [hRl]; decide⟩ rfl hl.1 rfl (Nat.le_of_ble_eq_true rfl) dX8_digest_42 ⟨Nat.zero_le _, Nat.zero_le _⟩ (fun r S9 H locs hp w => ?_)
          obtain ⟨hp, rfl⟩ := hp
          subst hp
          have w : WB D (tyM cy) 31 cy ad skM A s (md2t (pkS (sI S 0 0 (nI (0))) ks 0) d t (pkQ ks)) H locs := w
          refine lv_istore_n (lv' := [(2, .int (nI (d))), (0, .ref (ad (0))), (1, .int (nI (2)))]) hx hbc dX8_digest_45 rfl hl (by decide) rfl (fun ls hl => ?_)
          refine lv_aload_n hx hbc dX8_digest_46 rfl (lv_at hl 1 rfl) ?_
          refine lv_iconst (v := nI (0)) hx hbc dX8_digest_47 (by decide) ?_
          refine wb_pi (v := nI (0)) hx hbc hg hown w inG_X8 tyX8 tyX8_ok nmX8 0 (by decide) rfl rfl 12 (by decide) rfl wk_679 rfl rfl rfl rfl dX8_digest_48 (fun H locs w => ?_)
          refine lv_iload_n hx hbc dX8_digest_51 rfl (lv_at hl 0 rfl) ?_
          exact hend _ _ _ _ _ _ (Or.inr (Or.inr (Or.inr (Or.inr (⟨rfl, (by omega), rfl, rfl⟩))))) rfl w dX8_digest_52
    · refine lv_bipush (v := (-103)) hx hbc dX8_digest_26 (by decide) ?_
      exact hend _ _ _ _ _ _ (Or.inr (Or.inl ⟨k, hk, rfl, c_23, rfl, rfl⟩)) rfl w dX8_digest_28
  · refine lv_bipush (v := (-102)) hx hbc dX8_digest_14 (by decide) ?_
    exact hend _ _ _ _ _ _ (Or.inl ⟨c_11, rfl, rfl⟩) rfl w dX8_digest_16
set_option maxHeartbeats 4000000 in
set_option maxRecDepth 100000 in
theorem k_X8_open (l : Launch) (D : va_G) (cy : Nat → ClassId) (ad : Nat → Nat) (S : wS) (s0 x : Int32) (ks : Nat) (hks : S.1 0 14 = nI ks) (hks2 : ks ≤ 200) : CtI l yX8_open (Cond.code yX8_open cX8_open 3 (some .int) :: wsG) 4 99 [.ref (ad (0)), .int (s0), .int (x)] D (tyM cy) 31 cy ad skM E0 (S) (fun r S' => ((inF s0 (nI 0) (nI 3) = 0 ∨ inF x (nI 0) (nI 2) = 0) ∧ r = (-102) ∧ S' = sI S 0 0 (nI 0)) ∨ (∃ j k, j ≤ 3 ∧ k ≤ 2 ∧ s0 = nI j ∧ x = nI k ∧ ¬ S.2.1 20 j < 0 ∧ r = (-104) ∧ S' = sI S 0 0 (nI 0)) ∨ (∃ j k, j ≤ 3 ∧ k ≤ 2 ∧ s0 = nI j ∧ x = nI k ∧ S.2.1 20 j < 0 ∧ ¬ k = 2 ∧ r = nI 1 ∧ S' = sB (sB (sI S 0 0 (nI 0)) 20 (upd (S.2.1 20) j (nI k))) 19 (upd (S.2.1 19) j (nI 0))) ∨ (∃ j, j ≤ 3 ∧ s0 = nI j ∧ x = nI 2 ∧ S.2.1 20 j < 0 ∧ r = nI 1 ∧ S' = pkS (sB (sB (sI S 0 0 (nI 0)) 20 (upd (S.2.1 20) j (nI 2))) 19 (upd (S.2.1 19) j (nI 0))) ks (j + 1))) := by
  refine CtI_of (by decide) (Nat.le_of_ble_eq_true rfl) ?_
  intro p e s m args below meth c A ls R Q hB hRf hRl hend
  obtain ⟨hx, hbc, hr, hg, hown, hml, hlk, w, hE, hl⟩ := hB
  have hl : lv_has ls 3 [(0, .ref (ad (0))), (1, .int (s0)), (2, .int (x))] := hl
  refine lv_aload_n hx hbc dX8_open_0 rfl (lv_at hl 0 rfl) ?_
  refine lv_iconst (v := nI (0)) hx hbc dX8_open_1 (by decide) ?_
  refine wb_pi (v := nI (0)) hx hbc hg hown w inG_X8 tyX8 tyX8_ok nmX8 0 (by decide) rfl rfl 0 (by decide) rfl wk_667 rfl rfl rfl rfl dX8_open_2 (fun H locs w => ?_)
  refine lv_iload_n hx hbc dX8_open_5 rfl (lv_at hl 1 rfl) ?_
  refine lv_iconst (v := nI (0)) hx hbc dX8_open_6 (by decide) ?_
  refine lv_iconst (v := nI (3)) hx hbc dX8_open_7 (by decide) ?_
  refine wb_Si (na := 3) (As := [.int (s0), .int (nI (0)), .int (nI (3))]) (rest := []) hx hbc hml hg hown w E0_ok trivial w.1 Sub.none (k_X8_in l D cy ad (sI S 0 0 (nI (0))) s0 (nI (0)) (nI (3))) wk_799 wk_9 wk_797 wk_798 ⟨by decide, by decide, by decide⟩ ⟨by rw [hRf]; decide, by rw [hRl]; decide⟩ rfl hl.1 rfl (Nat.le_of_ble_eq_true rfl) dX8_open_8 ⟨Nat.zero_le _, Nat.zero_le _⟩ (fun r S9 H locs hp w => ?_)
  subst hp
  refine lv_if_eq (tgt := 23) hx hbc dX8_open_11 (by decide) (fun c_11 => ?_) (fun c_11 => ?_)
  · refine lv_bipush (v := (-102)) hx hbc dX8_open_23 (by decide) ?_
    exact hend _ _ _ _ _ _ (Or.inl ⟨Or.inl c_11, rfl, rfl⟩) rfl w dX8_open_25
  · obtain ⟨j, hj, rfl⟩ := inF_nzb c_11 (by decide)
    refine lv_iload_n hx hbc dX8_open_14 rfl (lv_at hl 2 rfl) ?_
    refine lv_iconst (v := nI (0)) hx hbc dX8_open_15 (by decide) ?_
    refine lv_iconst (v := nI (2)) hx hbc dX8_open_16 (by decide) ?_
    refine wb_Si (na := 3) (As := [.int (x), .int (nI (0)), .int (nI (2))]) (rest := []) hx hbc hml hg hown w E0_ok trivial w.1 Sub.none (k_X8_in l D cy ad (sI S 0 0 (nI (0))) x (nI (0)) (nI (2))) wk_799 wk_9 wk_797 wk_798 ⟨by decide, by decide, by decide⟩ ⟨by rw [hRf]; decide, by rw [hRl]; decide⟩ rfl hl.1 rfl (Nat.le_of_ble_eq_true rfl) dX8_open_17 ⟨Nat.zero_le _, Nat.zero_le _⟩ (fun r S9 H locs hp w => ?_)
    subst hp
    refine lv_if_ne (tgt := 26) hx hbc dX8_open_20 (by decide) (fun c_20 => ?_) (fun c_20 => ?_)
    · obtain ⟨k, hk, rfl⟩ := inF_nzb c_20 (by decide)
      refine lv_aload_n hx hbc dX8_open_26 rfl (lv_at hl 0 rfl) ?_
      refine wb_gr (t := 20) hx hbc hg hown w inG_X8 0 (by decide) rfl rfl 25 (by decide) rfl wk_692 dX8_open_27 ?_
      refine lv_iload_n hx hbc dX8_open_30 rfl (lv_at hl 1 rfl) ?_
      refine wb_iald (k := j) (v := (S.2.1 20) j) hx hbc w 20 (by decide) rfl 0 rfl rfl (by omega) (by decide) rfl dX8_open_31 ?_
      refine lv_if_lt (tgt := 38) hx hbc dX8_open_32 (by decide) (fun c_32 => ?_) (fun c_32 => ?_)
      · refine lv_aload_n hx hbc dX8_open_38 rfl (lv_at hl 0 rfl) ?_
        refine wb_gr (t := 20) hx hbc hg hown w inG_X8 0 (by decide) rfl rfl 25 (by decide) rfl wk_692 dX8_open_39 ?_
        refine lv_iload_n hx hbc dX8_open_42 rfl (lv_at hl 1 rfl) ?_
        refine lv_iload_n hx hbc dX8_open_43 rfl (lv_at hl 2 rfl) ?_
        refine wb_iast (k := j) (f := S.2.1 20) hx hbc w 20 (by decide) rfl 0 rfl rfl (by omega) (by decide) rfl rfl dX8_open_44 (fun H locs w => ?_)
        refine lv_aload_n hx hbc dX8_open_45 rfl (lv_at hl 0 rfl) ?_
        refine wb_gr (t := 19) hx hbc hg hown w inG_X8 0 (by decide) rfl rfl 24 (by decide) rfl wk_691 dX8_open_46 ?_
        refine lv_iload_n hx hbc dX8_open_49 rfl (lv_at hl 1 rfl) ?_
        refine lv_iconst (v := nI (0)) hx hbc dX8_open_50 (by decide) ?_
        refine wb_iast (k := j) (f := S.2.1 19) hx hbc w 19 (by decide) rfl 0 rfl rfl (by omega) (by decide) rfl rfl dX8_open_51 (fun H locs w => ?_)
        refine lv_iload_n hx hbc dX8_open_52 rfl (lv_at hl 2 rfl) ?_
        refine lv_iconst (v := nI (2)) hx hbc dX8_open_53 (by decide) ?_
        refine n_cmp_ne (tgt := 64) (by omega) (by omega) hx hbc dX8_open_54 (by decide) (fun c_54 => ?_) (fun c_54 => ?_)
        · refine lv_iconst (v := nI (1)) hx hbc dX8_open_64 (by decide) ?_
          exact hend _ _ _ _ _ _ (Or.inr (Or.inr (Or.inl ⟨j, k, hj, hk, rfl, rfl, c_32, c_54, rfl, rfl⟩))) rfl w dX8_open_65
        · refine lv_aload_n hx hbc dX8_open_57 rfl (lv_at hl 0 rfl) ?_
          refine lv_iload_n hx hbc dX8_open_58 rfl (lv_at hl 1 rfl) ?_
          refine lv_iconst (v := nI (1)) hx hbc dX8_open_59 (by decide) ?_
          refine n_iadd hx hbc dX8_open_60 ?_
          refine wb_Vv (na := 1) (As := [.int (nI (j + 1))]) (rest := []) hx hbc hml hg hown w E0_ok trivial w.1 Sub.self 0 (by decide) rfl rfl (k_X8_padKey l D cy ad (sB (sB (sI S 0 0 (nI (0))) 20 (upd (S.2.1 20) j (nI (k)))) 19 (upd (S.2.1 19) j (nI (0)))) (j + 1) ks (by omega) hks (by omega)) wk_812 wk_9 wk_809 wk_811 ws_13 ⟨by decide, by decide, by decide⟩ ⟨by rw [hRf]; decide, by rw [hRl]; decide⟩ rfl hl.1 rfl (Nat.le_of_ble_eq_true rfl) dX8_open_61 ⟨Nat.zero_le _, Nat.zero_le _⟩ (fun S9 H locs hp w => ?_)
          subst hp
          have w : WB D (tyM cy) 31 cy ad skM A s (pkS (sB (sB (sI S 0 0 (nI (0))) 20 (upd (S.2.1 20) j (nI (k)))) 19 (upd (S.2.1 19) j (nI (0)))) ks (j + 1)) H locs := w
          refine lv_iconst (v := nI (1)) hx hbc dX8_open_64 (by decide) ?_
          exact hend _ _ _ _ _ _ (Or.inr (Or.inr (Or.inr (⟨j, hj, rfl, by rw [c_54], c_32, rfl, by rw [c_54]⟩)))) rfl w dX8_open_65
      · refine lv_bipush (v := (-104)) hx hbc dX8_open_35 (by decide) ?_
        exact hend _ _ _ _ _ _ (Or.inr (Or.inl ⟨j, k, hj, hk, rfl, rfl, c_32, rfl, rfl⟩)) rfl w dX8_open_37
    · refine lv_bipush (v := (-102)) hx hbc dX8_open_23 (by decide) ?_
      exact hend _ _ _ _ _ _ (Or.inl ⟨Or.inr c_20, rfl, rfl⟩) rfl w dX8_open_25
set_option maxHeartbeats 4000000 in
set_option maxRecDepth 100000 in
theorem k_X8_more (l : Launch) (D : va_G) (cy : Nat → ClassId) (ad : Nat → Nat) (S : wS) (s0 : Int32) (t : Nat) (ht : S.1 0 12 = nI t) (ht2 : t ≤ 200) (sm : Nat → Nat) (hsm : ∀ j, j < 4 → S.2.1 19 j = nI (sm j) ∧ sm j ≤ 2000) : CtI l yX8_more (Cond.code yX8_more cX8_more 3 (some .int) :: wsG) 1 22 [.ref (ad (0)), .int (s0)] D (tyM cy) 31 cy ad skM E0 (S) (fun r S' => (inF s0 (nI 0) (nI 3) = 0 ∧ r = (-102) ∧ S' = sI S 0 0 (nI 0)) ∨ (∃ j, j ≤ 3 ∧ s0 = nI j ∧ ¬ 0 ≤ S.2.1 20 j ∧ r = (-104) ∧ S' = sI S 0 0 (nI 0)) ∨ (∃ j, j ≤ 3 ∧ s0 = nI j ∧ 0 ≤ S.2.1 20 j ∧ 2000 < sm j + t ∧ r = (-103) ∧ S' = sI S 0 0 (nI 0)) ∨ (∃ j, j ≤ 3 ∧ s0 = nI j ∧ 0 ≤ S.2.1 20 j ∧ sm j + t ≤ 2000 ∧ r = nI (sm j + t) ∧ S' = sI (sB (sB (sI S 0 0 (nI 0)) 18 (pts (S.2.1 18) (2000 * j + sm j) (S.2.1 10) t)) 19 (upd (S.2.1 19) j (nI (sm j + t)))) 0 12 (nI 0))) := by
  refine CtI_of (by decide) (Nat.le_of_ble_eq_true rfl) ?_
  intro p e s m args below meth c A ls R Q hB hRf hRl hend
  obtain ⟨hx, hbc, hr, hg, hown, hml, hlk, w, hE, hl⟩ := hB
  have hl : lv_has ls 3 [(0, .ref (ad (0))), (1, .int (s0))] := hl
  refine lv_aload_n hx hbc dX8_more_0 rfl (lv_at hl 0 rfl) ?_
  refine lv_iconst (v := nI (0)) hx hbc dX8_more_1 (by decide) ?_
  refine wb_pi (v := nI (0)) hx hbc hg hown w inG_X8 tyX8 tyX8_ok nmX8 0 (by decide) rfl rfl 0 (by decide) rfl wk_667 rfl rfl rfl rfl dX8_more_2 (fun H locs w => ?_)
  refine lv_iload_n hx hbc dX8_more_5 rfl (lv_at hl 1 rfl) ?_
  refine lv_iconst (v := nI (0)) hx hbc dX8_more_6 (by decide) ?_
  refine lv_iconst (v := nI (3)) hx hbc dX8_more_7 (by decide) ?_
  refine wb_Si (na := 3) (As := [.int (s0), .int (nI (0)), .int (nI (3))]) (rest := []) hx hbc hml hg hown w E0_ok trivial w.1 Sub.none (k_X8_in l D cy ad (sI S 0 0 (nI (0))) s0 (nI (0)) (nI (3))) wk_799 wk_9 wk_797 wk_798 ⟨by decide, by decide, by decide⟩ ⟨by rw [hRf]; decide, by rw [hRl]; decide⟩ rfl hl.1 rfl (Nat.le_of_ble_eq_true rfl) dX8_more_8 ⟨Nat.zero_le _, Nat.zero_le _⟩ (fun r S9 H locs hp w => ?_)
  subst hp
  refine lv_if_ne (tgt := 17) hx hbc dX8_more_11 (by decide) (fun c_11 => ?_) (fun c_11 => ?_)
  · obtain ⟨j, hj, rfl⟩ := inF_nzb c_11 (by decide)
    obtain ⟨hs1, hs2⟩ := hsm j (by omega)
    refine lv_aload_n hx hbc dX8_more_17 rfl (lv_at hl 0 rfl) ?_
    refine wb_gr (t := 20) hx hbc hg hown w inG_X8 0 (by decide) rfl rfl 25 (by decide) rfl wk_692 dX8_more_18 ?_
    refine lv_iload_n hx hbc dX8_more_21 rfl (lv_at hl 1 rfl) ?_
    refine wb_iald (k := j) (v := (S.2.1 20) j) hx hbc w 20 (by decide) rfl 0 rfl rfl (by omega) (by decide) rfl dX8_more_22 ?_
    refine lv_if_ge (tgt := 29) hx hbc dX8_more_23 (by decide) (fun c_23 => ?_) (fun c_23 => ?_)
    · refine lv_aload_n hx hbc dX8_more_29 rfl (lv_at hl 0 rfl) ?_
      refine wb_gr (t := 19) hx hbc hg hown w inG_X8 0 (by decide) rfl rfl 24 (by decide) rfl wk_691 dX8_more_30 ?_
      refine lv_iload_n hx hbc dX8_more_33 rfl (lv_at hl 1 rfl) ?_
      refine wb_iald (k := j) (v := nI (sm j)) hx hbc w 19 (by decide) rfl 0 rfl rfl (by omega) (by decide) hs1 dX8_more_34 ?_
      refine lv_aload_n hx hbc dX8_more_35 rfl (lv_at hl 0 rfl) ?_
      refine wb_gi (v := nI (t)) hx hbc hg hown w inG_X8 0 (by decide) rfl rfl 12 (by decide) rfl wk_679 ht dX8_more_36 ?_
      refine n_iadd hx hbc dX8_more_39 ?_
      refine lv_sipush (v := nI (2000)) hx hbc dX8_more_40 (by decide) ?_
      refine n_cmp_le (tgt := 49) (by omega) (by omega) hx hbc dX8_more_43 (by decide) (fun c_43 => ?_) (fun c_43 => ?_)
      · refine lv_iconst (v := nI (0)) hx hbc dX8_more_49 (by decide) ?_
        refine lv_istore_n (lv' := [(2, .int (nI (0))), (0, .ref (ad (0))), (1, .int (nI (j)))]) hx hbc dX8_more_50 rfl hl (by decide) rfl (fun ls hl => ?_)
        have lp_51 : ∀ (fu : Nat) (k : Nat) (H : Heap) (locs : List Loc) (ls : Array Slot), (t < k + fu) → (k ≤ t) → WB D (tyM cy) 31 cy ad skM A s (sB (sI S 0 0 (nI 0)) 18 (pts (S.2.1 18) (2000 * j + sm j) (S.2.1 10) k)) H locs → lv_has ls 3 [(0, .ref (ad (0))), (1, .int (nI (j))), (2, .int (nI (k)))] → W p l e R s m args below meth c H locs 0 0 Q (F0 m 51 ls []) := by
          intro fu
          induction fu with
          | zero =>
            intro k H locs ls h1 h2 w hl
            exact absurd h1 (by omega)
          | succ fu ih_51 =>
            intro k H locs ls h1 h2 w hl
            refine lv_iload_n hx hbc dX8_more_51 rfl (lv_at hl 2 rfl) ?_
            refine lv_aload_n hx hbc dX8_more_52 rfl (lv_at hl 0 rfl) ?_
            refine wb_gi (v := nI (t)) hx hbc hg hown w inG_X8 0 (by decide) rfl rfl 12 (by decide) rfl wk_679 ht dX8_more_53 ?_
            refine n_cmp_ge (tgt := 90) (by omega) (by omega) hx hbc dX8_more_56 (by decide) (fun c_56 => ?_) (fun c_56 => ?_)
            · obtain rfl : t = k := by omega
              refine lv_aload_n hx hbc dX8_more_90 rfl (lv_at hl 0 rfl) ?_
              refine wb_gr (t := 19) hx hbc hg hown w inG_X8 0 (by decide) rfl rfl 24 (by decide) rfl wk_691 dX8_more_91 ?_
              refine lv_iload_n hx hbc dX8_more_94 rfl (lv_at hl 1 rfl) ?_
              refine lv_dup2_11 hx hbc dX8_more_95 rfl rfl ?_
              refine wb_iald (k := j) (v := nI (sm j)) hx hbc w 19 (by decide) rfl 0 rfl rfl (by omega) (by decide) hs1 dX8_more_96 ?_
              refine lv_aload_n hx hbc dX8_more_97 rfl (lv_at hl 0 rfl) ?_
              refine wb_gi (v := nI (t)) hx hbc hg hown w inG_X8 0 (by decide) rfl rfl 12 (by decide) rfl wk_679 ht dX8_more_98 ?_
              refine n_iadd hx hbc dX8_more_101 ?_
              refine wb_iast (k := j) (f := S.2.1 19) hx hbc w 19 (by decide) rfl 0 rfl rfl (by omega) (by decide) rfl rfl dX8_more_102 (fun H locs w => ?_)
              refine lv_aload_n hx hbc dX8_more_103 rfl (lv_at hl 0 rfl) ?_
              refine lv_iconst (v := nI (0)) hx hbc dX8_more_104 (by decide) ?_
              refine wb_pi (v := nI (0)) hx hbc hg hown w inG_X8 tyX8 tyX8_ok nmX8 0 (by decide) rfl rfl 12 (by decide) rfl wk_679 rfl rfl rfl rfl dX8_more_105 (fun H locs w => ?_)
              refine lv_aload_n hx hbc dX8_more_108 rfl (lv_at hl 0 rfl) ?_
              refine wb_gr (t := 19) hx hbc hg hown w inG_X8 0 (by decide) rfl rfl 24 (by decide) rfl wk_691 dX8_more_109 ?_
              refine lv_iload_n hx hbc dX8_more_112 rfl (lv_at hl 1 rfl) ?_
              refine wb_iald (k := j) (v := nI (sm j + t)) hx hbc w 19 (by decide) rfl 0 rfl rfl (by omega) (by decide) pk_us dX8_more_113 ?_
              exact hend _ _ _ _ _ _ (Or.inr (Or.inr (Or.inr (⟨j, hj, rfl, c_23, c_43, rfl, rfl⟩)))) rfl w dX8_more_114
            · refine lv_aload_n hx hbc dX8_more_59 rfl (lv_at hl 0 rfl) ?_
              refine wb_gr (t := 18) hx hbc hg hown w inG_X8 0 (by decide) rfl rfl 23 (by decide) rfl wk_690 dX8_more_60 ?_
              refine lv_sipush (v := nI (2000)) hx hbc dX8_more_63 (by decide) ?_
              refine lv_iload_n hx hbc dX8_more_66 rfl (lv_at hl 1 rfl) ?_
              refine n_imul hx hbc dX8_more_67 ?_
              refine lv_aload_n hx hbc dX8_more_68 rfl (lv_at hl 0 rfl) ?_
              refine wb_gr (t := 19) hx hbc hg hown w inG_X8 0 (by decide) rfl rfl 24 (by decide) rfl wk_691 dX8_more_69 ?_
              refine lv_iload_n hx hbc dX8_more_72 rfl (lv_at hl 1 rfl) ?_
              refine wb_iald (k := j) (v := nI (sm j)) hx hbc w 19 (by decide) rfl 0 rfl rfl (by omega) (by decide) hs1 dX8_more_73 ?_
              refine n_iadd hx hbc dX8_more_74 ?_
              refine lv_iload_n hx hbc dX8_more_75 rfl (lv_at hl 2 rfl) ?_
              refine n_iadd hx hbc dX8_more_76 ?_
              refine lv_aload_n hx hbc dX8_more_77 rfl (lv_at hl 0 rfl) ?_
              refine wb_gr (t := 10) hx hbc hg hown w inG_X8 0 (by decide) rfl rfl 13 (by decide) rfl wk_680 dX8_more_78 ?_
              refine lv_iload_n hx hbc dX8_more_81 rfl (lv_at hl 2 rfl) ?_
              refine wb_iald (k := k) (v := (S.2.1 10) k) hx hbc w 10 (by decide) rfl 0 rfl rfl (by omega) (by decide) rfl dX8_more_82 ?_
              refine wb_iast (k := ((2000 * j) + (sm j)) + k) (f := pts (S.2.1 18) (2000 * j + sm j) (S.2.1 10) k) hx hbc w 18 (by decide) rfl 0 rfl rfl (by omega) (by decide) rfl rfl dX8_more_83 (fun H locs w => ?_)
              refine lv_iinc (v := nI (k + 1)) (lv' := [(2, .int (nI (k + 1))), (0, .ref (ad (0))), (1, .int (nI (j)))]) hx hbc dX8_more_84 hl (k := 2) rfl (ni_inc _ _) (by decide) rfl (fun ls hl => ?_)
              refine lv_goto (tgt := 51) hx hbc dX8_more_87 (by decide) ?_
              exact ih_51 (k + 1) _ _ _ (by omega) (by omega) (WB_cast w (by rw [sB_sB]; rfl)) (lv_sub hl [1, 2, 0] rfl)
        exact lp_51 (t + 1) 0 _ _ _ (by omega) (by omega) (WB_cast w (sB_beg _ _ _ rfl)) (lv_sub hl [1, 2, 0] rfl)
      · refine lv_bipush (v := (-103)) hx hbc dX8_more_46 (by decide) ?_
        exact hend _ _ _ _ _ _ (Or.inr (Or.inr (Or.inl ⟨j, hj, rfl, c_23, c_43, rfl, rfl⟩))) rfl w dX8_more_48
    · refine lv_bipush (v := (-104)) hx hbc dX8_more_26 (by decide) ?_
      exact hend _ _ _ _ _ _ (Or.inr (Or.inl ⟨j, hj, rfl, c_23, rfl, rfl⟩)) rfl w dX8_more_28
  · refine lv_bipush (v := (-102)) hx hbc dX8_more_14 (by decide) ?_
    exact hend _ _ _ _ _ _ (Or.inl ⟨c_11, rfl, rfl⟩) rfl w dX8_more_16
set_option maxHeartbeats 4000000 in
set_option maxRecDepth 100000 in
theorem k_X8_end (l : Launch) (D : va_G) (cy : Nat → ClassId) (ad : Nat → Nat) (S : wS) (s0 : Int32) (d : Nat) (hd : S.1 0 16 = nI d) (hd2 : d ≤ 60) (sm : Nat → Nat) (hsm : ∀ j, j < 4 → S.2.1 19 j = nI (sm j) ∧ sm j ≤ 2000) (hss : ∀ j, j < 4 → S.2.1 20 j = (-1) ∨ ∃ k, k ≤ 2 ∧ S.2.1 20 j = nI k) (kb : Nat → Nat) (hkb : ∀ j, j < 4 → S.2.1 20 j = nI 2 → S.2.1 17 (j + 1) = nI (kb j)) : CtI l yX8_end (Cond.code yX8_end cX8_end 3 (some .int) :: wsG) 4 102 [.ref (ad (0)), .int (s0)] D (tyM cy) 31 cy ad skM E0 (S) (fun r S' => (inF s0 (nI 0) (nI 3) = 0 ∧ r = (-102) ∧ S' = sI S 0 0 (nI 0)) ∨ (∃ j, j ≤ 3 ∧ s0 = nI j ∧ ¬ 0 ≤ S.2.1 20 j ∧ r = (-104) ∧ S' = sI S 0 0 (nI 0)) ∨ (∃ j, j ≤ 3 ∧ s0 = nI j ∧ 0 ≤ S.2.1 20 j ∧ d = 60 ∧ r = (-103) ∧ S' = sI S 0 0 (nI 0)) ∨ (∃ j, j ≤ 3 ∧ s0 = nI j ∧ S.2.1 20 j = nI 0 ∧ d < 60 ∧ r = nI d ∧ S' = sB (md0s (sI S 0 0 (nI 0)) d j (sm j)) 20 (upd ((md0s (sI S 0 0 (nI 0)) d j (sm j)).2.1 20) j (-1))) ∨ (∃ j, j ≤ 3 ∧ s0 = nI j ∧ S.2.1 20 j = nI 1 ∧ d < 60 ∧ r = nI d ∧ S' = sB (md1s (sI S 0 0 (nI 0)) d j (sm j)) 20 (upd ((md1s (sI S 0 0 (nI 0)) d j (sm j)).2.1 20) j (-1))) ∨ (∃ j, j ≤ 3 ∧ s0 = nI j ∧ S.2.1 20 j = nI 2 ∧ d < 60 ∧ r = nI d ∧ S' = sB (md2s (sI S 0 0 (nI 0)) d j (sm j) (kb j)) 20 (upd ((md2s (sI S 0 0 (nI 0)) d j (sm j) (kb j)).2.1 20) j (-1)))) := by
  refine CtI_of (by decide) (Nat.le_of_ble_eq_true rfl) ?_
  intro p e s m args below meth c A ls R Q hB hRf hRl hend
  obtain ⟨hx, hbc, hr, hg, hown, hml, hlk, w, hE, hl⟩ := hB
  have hl : lv_has ls 3 [(0, .ref (ad (0))), (1, .int (s0))] := hl
  refine lv_aload_n hx hbc dX8_end_0 rfl (lv_at hl 0 rfl) ?_
  refine lv_iconst (v := nI (0)) hx hbc dX8_end_1 (by decide) ?_
  refine wb_pi (v := nI (0)) hx hbc hg hown w inG_X8 tyX8 tyX8_ok nmX8 0 (by decide) rfl rfl 0 (by decide) rfl wk_667 rfl rfl rfl rfl dX8_end_2 (fun H locs w => ?_)
  refine lv_iload_n hx hbc dX8_end_5 rfl (lv_at hl 1 rfl) ?_
  refine lv_iconst (v := nI (0)) hx hbc dX8_end_6 (by decide) ?_
  refine lv_iconst (v := nI (3)) hx hbc dX8_end_7 (by decide) ?_
  refine wb_Si (na := 3) (As := [.int (s0), .int (nI (0)), .int (nI (3))]) (rest := []) hx hbc hml hg hown w E0_ok trivial w.1 Sub.none (k_X8_in l D cy ad (sI S 0 0 (nI (0))) s0 (nI (0)) (nI (3))) wk_799 wk_9 wk_797 wk_798 ⟨by decide, by decide, by decide⟩ ⟨by rw [hRf]; decide, by rw [hRl]; decide⟩ rfl hl.1 rfl (Nat.le_of_ble_eq_true rfl) dX8_end_8 ⟨Nat.zero_le _, Nat.zero_le _⟩ (fun r S9 H locs hp w => ?_)
  subst hp
  refine lv_if_ne (tgt := 17) hx hbc dX8_end_11 (by decide) (fun c_11 => ?_) (fun c_11 => ?_)
  · obtain ⟨j, hj, rfl⟩ := inF_nzb c_11 (by decide)
    obtain ⟨hs1, hs2⟩ := hsm j (by omega)
    refine lv_aload_n hx hbc dX8_end_17 rfl (lv_at hl 0 rfl) ?_
    refine wb_gr (t := 20) hx hbc hg hown w inG_X8 0 (by decide) rfl rfl 25 (by decide) rfl wk_692 dX8_end_18 ?_
    refine lv_iload_n hx hbc dX8_end_21 rfl (lv_at hl 1 rfl) ?_
    refine wb_iald (k := j) (v := (S.2.1 20) j) hx hbc w 20 (by decide) rfl 0 rfl rfl (by omega) (by decide) rfl dX8_end_22 ?_
    refine lv_if_ge (tgt := 29) hx hbc dX8_end_23 (by decide) (fun c_23 => ?_) (fun c_23 => ?_)
    · obtain ⟨k, hk, hs⟩ : ∃ k, k ≤ 2 ∧ S.2.1 20 j = nI k := by
        rcases hss j (by omega) with h | h
        · rw [h] at c_23; exact absurd c_23 (by decide)
        · exact h
      refine lv_aload_n hx hbc dX8_end_29 rfl (lv_at hl 0 rfl) ?_
      refine wb_gi (v := nI (d)) hx hbc hg hown w inG_X8 0 (by decide) rfl rfl 16 (by decide) rfl wk_683 hd dX8_end_30 ?_
      refine lv_bipush (v := nI (60)) hx hbc dX8_end_33 (by decide) ?_
      refine n_cmp_ne (tgt := 41) (by omega) (by omega) hx hbc dX8_end_35 (by decide) (fun c_35 => ?_) (fun c_35 => ?_)
      · rcases (show k = 0 ∨ k = 1 ∨ k = 2 by omega) with rfl | rfl | rfl
        · skip
          refine lv_aload_n hx hbc dX8_end_41 rfl (lv_at hl 0 rfl) ?_
          refine lv_aload_n hx hbc dX8_end_42 rfl (lv_at hl 0 rfl) ?_
          refine wb_gr (t := 20) hx hbc hg hown w inG_X8 0 (by decide) rfl rfl 25 (by decide) rfl wk_692 dX8_end_43 ?_
          refine lv_iload_n hx hbc dX8_end_46 rfl (lv_at hl 1 rfl) ?_
          refine wb_iald (k := j) (v := nI (0)) hx hbc w 20 (by decide) rfl 0 rfl rfl (by omega) (by decide) hs dX8_end_47 ?_
          refine lv_iload_n hx hbc dX8_end_48 rfl (lv_at hl 1 rfl) ?_
          refine wb_Vi (na := 2) (As := [.int (nI (0)), .int (nI (j))]) (rest := []) hx hbc hml hg hown w E0_ok trivial w.1 Sub.self 0 (by decide) rfl rfl (k_X8_made0s l D cy ad (sI S 0 0 (nI (0))) d hd (by omega) j (sm j) (by omega) hs1 (by omega)) wk_836 wk_9 wk_833 wk_835 ws_18 ⟨by decide, by decide, by decide⟩ ⟨by rw [hRf]; decide, by rw [hRl]; decide⟩ rfl hl.1 rfl (Nat.le_of_ble_eq_true rfl) dX8_end_49 ⟨Nat.zero_le _, Nat.zero_le _⟩ (fun r S9 H locs hp w => ?_)
          obtain ⟨hp, rfl⟩ := hp
          subst hp
          have w : WB D (tyM cy) 31 cy ad skM A s (md0s (sI S 0 0 (nI (0))) d j (sm j)) H locs := w
          refine lv_istore_n (lv' := [(2, .int (nI (d))), (0, .ref (ad (0))), (1, .int (nI (j)))]) hx hbc dX8_end_52 rfl hl (by decide) rfl (fun ls hl => ?_)
          refine lv_aload_n hx hbc dX8_end_53 rfl (lv_at hl 1 rfl) ?_
          refine wb_gr (t := 20) hx hbc hg hown w inG_X8 0 (by decide) rfl rfl 25 (by decide) rfl wk_692 dX8_end_54 ?_
          refine lv_iload_n hx hbc dX8_end_57 rfl (lv_at hl 2 rfl) ?_
          refine lv_iconst (v := (-1)) hx hbc dX8_end_58 (by decide) ?_
          refine wb_iast (k := j) (f := (md0s (sI S 0 0 (nI (0))) d j (sm j)).2.1 20) hx hbc w 20 (by decide) rfl 0 rfl rfl (by omega) (by decide) rfl rfl dX8_end_59 (fun H locs w => ?_)
          refine lv_iload_n hx hbc dX8_end_60 rfl (lv_at hl 0 rfl) ?_
          exact hend _ _ _ _ _ _ (Or.inr (Or.inr (Or.inr (Or.inl ⟨j, hj, rfl, hs, (by omega), rfl, rfl⟩)))) rfl w dX8_end_61
        · skip
          refine lv_aload_n hx hbc dX8_end_41 rfl (lv_at hl 0 rfl) ?_
          refine lv_aload_n hx hbc dX8_end_42 rfl (lv_at hl 0 rfl) ?_
          refine wb_gr (t := 20) hx hbc hg hown w inG_X8 0 (by decide) rfl rfl 25 (by decide) rfl wk_692 dX8_end_43 ?_
          refine lv_iload_n hx hbc dX8_end_46 rfl (lv_at hl 1 rfl) ?_
          refine wb_iald (k := j) (v := nI (1)) hx hbc w 20 (by decide) rfl 0 rfl rfl (by omega) (by decide) hs dX8_end_47 ?_
          refine lv_iload_n hx hbc dX8_end_48 rfl (lv_at hl 1 rfl) ?_
          refine wb_Vi (na := 2) (As := [.int (nI (1)), .int (nI (j))]) (rest := []) hx hbc hml hg hown w E0_ok trivial w.1 Sub.self 0 (by decide) rfl rfl (k_X8_made1s l D cy ad (sI S 0 0 (nI (0))) d hd (by omega) j (sm j) (by omega) hs1 (by omega)) wk_836 wk_9 wk_833 wk_835 ws_18 ⟨by decide, by decide, by decide⟩ ⟨by rw [hRf]; decide, by rw [hRl]; decide⟩ rfl hl.1 rfl (Nat.le_of_ble_eq_true rfl) dX8_end_49 ⟨Nat.zero_le _, Nat.zero_le _⟩ (fun r S9 H locs hp w => ?_)
          obtain ⟨hp, rfl⟩ := hp
          subst hp
          have w : WB D (tyM cy) 31 cy ad skM A s (md1s (sI S 0 0 (nI (0))) d j (sm j)) H locs := w
          refine lv_istore_n (lv' := [(2, .int (nI (d))), (0, .ref (ad (0))), (1, .int (nI (j)))]) hx hbc dX8_end_52 rfl hl (by decide) rfl (fun ls hl => ?_)
          refine lv_aload_n hx hbc dX8_end_53 rfl (lv_at hl 1 rfl) ?_
          refine wb_gr (t := 20) hx hbc hg hown w inG_X8 0 (by decide) rfl rfl 25 (by decide) rfl wk_692 dX8_end_54 ?_
          refine lv_iload_n hx hbc dX8_end_57 rfl (lv_at hl 2 rfl) ?_
          refine lv_iconst (v := (-1)) hx hbc dX8_end_58 (by decide) ?_
          refine wb_iast (k := j) (f := (md1s (sI S 0 0 (nI (0))) d j (sm j)).2.1 20) hx hbc w 20 (by decide) rfl 0 rfl rfl (by omega) (by decide) rfl rfl dX8_end_59 (fun H locs w => ?_)
          refine lv_iload_n hx hbc dX8_end_60 rfl (lv_at hl 0 rfl) ?_
          exact hend _ _ _ _ _ _ (Or.inr (Or.inr (Or.inr (Or.inr (Or.inl ⟨j, hj, rfl, hs, (by omega), rfl, rfl⟩))))) rfl w dX8_end_61
        · skip
          refine lv_aload_n hx hbc dX8_end_41 rfl (lv_at hl 0 rfl) ?_
          refine lv_aload_n hx hbc dX8_end_42 rfl (lv_at hl 0 rfl) ?_
          refine wb_gr (t := 20) hx hbc hg hown w inG_X8 0 (by decide) rfl rfl 25 (by decide) rfl wk_692 dX8_end_43 ?_
          refine lv_iload_n hx hbc dX8_end_46 rfl (lv_at hl 1 rfl) ?_
          refine wb_iald (k := j) (v := nI (2)) hx hbc w 20 (by decide) rfl 0 rfl rfl (by omega) (by decide) hs dX8_end_47 ?_
          refine lv_iload_n hx hbc dX8_end_48 rfl (lv_at hl 1 rfl) ?_
          refine wb_Vi (na := 2) (As := [.int (nI (2)), .int (nI (j))]) (rest := []) hx hbc hml hg hown w E0_ok trivial w.1 Sub.self 0 (by decide) rfl rfl (k_X8_made2s l D cy ad (sI S 0 0 (nI (0))) d hd (by omega) j (sm j) (by omega) hs1 (by omega) (kb j) (hkb j (by omega) hs)) wk_836 wk_9 wk_833 wk_835 ws_18 ⟨by decide, by decide, by decide⟩ ⟨by rw [hRf]; decide, by rw [hRl]; decide⟩ rfl hl.1 rfl (Nat.le_of_ble_eq_true rfl) dX8_end_49 ⟨Nat.zero_le _, Nat.zero_le _⟩ (fun r S9 H locs hp w => ?_)
          obtain ⟨hp, rfl⟩ := hp
          subst hp
          have w : WB D (tyM cy) 31 cy ad skM A s (md2s (sI S 0 0 (nI (0))) d j (sm j) (kb j)) H locs := w
          refine lv_istore_n (lv' := [(2, .int (nI (d))), (0, .ref (ad (0))), (1, .int (nI (j)))]) hx hbc dX8_end_52 rfl hl (by decide) rfl (fun ls hl => ?_)
          refine lv_aload_n hx hbc dX8_end_53 rfl (lv_at hl 1 rfl) ?_
          refine wb_gr (t := 20) hx hbc hg hown w inG_X8 0 (by decide) rfl rfl 25 (by decide) rfl wk_692 dX8_end_54 ?_
          refine lv_iload_n hx hbc dX8_end_57 rfl (lv_at hl 2 rfl) ?_
          refine lv_iconst (v := (-1)) hx hbc dX8_end_58 (by decide) ?_
          refine wb_iast (k := j) (f := (md2s (sI S 0 0 (nI (0))) d j (sm j) (kb j)).2.1 20) hx hbc w 20 (by decide) rfl 0 rfl rfl (by omega) (by decide) rfl rfl dX8_end_59 (fun H locs w => ?_)
          refine lv_iload_n hx hbc dX8_end_60 rfl (lv_at hl 0 rfl) ?_
          exact hend _ _ _ _ _ _ (Or.inr (Or.inr (Or.inr (Or.inr (Or.inr (⟨j, hj, rfl, hs, (by omega), rfl, rfl⟩)))))) rfl w dX8_end_61
      · refine lv_bipush (v := (-103)) hx hbc dX8_end_38 (by decide) ?_
        exact hend _ _ _ _ _ _ (Or.inr (Or.inr (Or.inl ⟨j, hj, rfl, c_23, c_35, rfl, rfl⟩))) rfl w dX8_end_40
    · refine lv_bipush (v := (-104)) hx hbc dX8_end_26 (by decide) ?_
      exact hend _ _ _ _ _ _ (Or.inr (Or.inl ⟨j, hj, rfl, c_23, rfl, rfl⟩)) rfl w dX8_end_28
  · refine lv_bipush (v := (-102)) hx hbc dX8_end_14 (by decide) ?_
    exact hend _ _ _ _ _ _ (Or.inl ⟨c_11, rfl, rfl⟩) rfl w dX8_end_16
set_option maxHeartbeats 4000000 in
set_option maxRecDepth 100000 in
theorem k_X8_told (l : Launch) (D : va_G) (cy : Nat → ClassId) (ad : Nat → Nat) (S : wS) (g x : Int32) (d : Nat) (hd : S.1 0 16 = nI d) (hd2 : d ≤ 60) : CtI l yX8_told (Cond.code yX8_told cX8_told 3 (some .int) :: wsG) 2 43 [.ref (ad (0)), .int (g), .int (x)] D (tyM cy) 31 cy ad skM E0 (S) (fun r S' => (inF g (nI 0) (nI d - nI 1) = 0 ∧ r = (-101) ∧ S' = sI S 0 0 (nI 0)) ∨ (∃ e, e < d ∧ g = nI e ∧ x = 0 ∧ r = S.2.1 12 e ∧ S' = sI S 0 0 (nI 0)) ∨ (∃ e, e < d ∧ g = nI e ∧ x = nI 1 ∧ r = nI (l32 (S.2.1 12 e)) ∧ S' = sI S 0 0 (nI 0)) ∨ (∃ e, e < d ∧ g = nI e ∧ x = nI 2 ∧ r = S.2.1 13 e ∧ S' = sI S 0 0 (nI 0)) ∨ (∃ e, e < d ∧ g = nI e ∧ ¬ x = 0 ∧ ¬ x = nI 1 ∧ ¬ x = nI 2 ∧ r = (-102) ∧ S' = sI S 0 0 (nI 0))) := by
  refine CtI_of (by decide) (Nat.le_of_ble_eq_true rfl) ?_
  intro p e s m args below meth c A ls R Q hB hRf hRl hend
  obtain ⟨hx, hbc, hr, hg, hown, hml, hlk, w, hE, hl⟩ := hB
  have hl : lv_has ls 3 [(0, .ref (ad (0))), (1, .int (g)), (2, .int (x))] := hl
  refine lv_aload_n hx hbc dX8_told_0 rfl (lv_at hl 0 rfl) ?_
  refine lv_iconst (v := nI (0)) hx hbc dX8_told_1 (by decide) ?_
  refine wb_pi (v := nI (0)) hx hbc hg hown w inG_X8 tyX8 tyX8_ok nmX8 0 (by decide) rfl rfl 0 (by decide) rfl wk_667 rfl rfl rfl rfl dX8_told_2 (fun H locs w => ?_)
  refine lv_aload_n hx hbc dX8_told_5 rfl (lv_at hl 0 rfl) ?_
  refine lv_iload_n hx hbc dX8_told_6 rfl (lv_at hl 1 rfl) ?_
  refine wb_Vi (na := 1) (As := [.int (g)]) (rest := []) hx hbc hml hg hown w E0_ok trivial w.1 Sub.self 0 (by decide) rfl rfl (k_X8_isDigest l D cy ad (sI S 0 0 (nI (0))) g d hd) wk_860 wk_9 wk_857 wk_859 ws_20 ⟨by decide, by decide, by decide⟩ ⟨by rw [hRf]; decide, by rw [hRl]; decide⟩ rfl hl.1 rfl (Nat.le_of_ble_eq_true rfl) dX8_told_7 ⟨Nat.zero_le _, Nat.zero_le _⟩ (fun r S9 H locs hp w => ?_)
  obtain ⟨hp, rfl⟩ := hp
  subst hp
  have w : WB D (tyM cy) 31 cy ad skM A s (sI S 0 0 (nI (0))) H locs := w
  refine lv_if_ne (tgt := 16) hx hbc dX8_told_10 (by decide) (fun c_10 => ?_) (fun c_10 => ?_)
  · obtain ⟨e9, he9, rfl⟩ := inF_nzd c_10 (by omega)
    refine lv_iload_n hx hbc dX8_told_16 rfl (lv_at hl 2 rfl) ?_
    refine lv_if_ne (tgt := 29) hx hbc dX8_told_17 (by decide) (fun c_17 => ?_) (fun c_17 => ?_)
    · refine lv_iload_n hx hbc dX8_told_29 rfl (lv_at hl 2 rfl) ?_
      refine lv_iconst (v := nI (1)) hx hbc dX8_told_30 (by decide) ?_
      refine lv_icmp_ne (tgt := 46) hx hbc dX8_told_31 (by decide) (fun c_31 => ?_) (fun c_31 => ?_)
      · refine lv_iload_n hx hbc dX8_told_46 rfl (lv_at hl 2 rfl) ?_
        refine lv_iconst (v := nI (2)) hx hbc dX8_told_47 (by decide) ?_
        refine lv_icmp_ne (tgt := 60) hx hbc dX8_told_48 (by decide) (fun c_48 => ?_) (fun c_48 => ?_)
        · refine lv_bipush (v := (-102)) hx hbc dX8_told_60 (by decide) ?_
          exact hend _ _ _ _ _ _ (Or.inr (Or.inr (Or.inr (Or.inr (⟨e9, he9, rfl, c_17, c_31, c_48, rfl, rfl⟩))))) rfl w dX8_told_62
        · refine lv_aload_n hx hbc dX8_told_51 rfl (lv_at hl 0 rfl) ?_
          refine wb_gr (t := 13) hx hbc hg hown w inG_X8 0 (by decide) rfl rfl 18 (by decide) rfl wk_685 dX8_told_52 ?_
          refine lv_iload_n hx hbc dX8_told_55 rfl (lv_at hl 1 rfl) ?_
          refine wb_iald (k := e9) (v := (S.2.1 13) e9) hx hbc w 13 (by decide) rfl 0 rfl rfl (by omega) (by decide) rfl dX8_told_56 ?_
          refine lv_goto (tgt := 62) hx hbc dX8_told_57 (by decide) ?_
          exact hend _ _ _ _ _ _ (Or.inr (Or.inr (Or.inr (Or.inl ⟨e9, he9, rfl, c_48, rfl, rfl⟩)))) rfl w dX8_told_62
      · refine lv_aload_n hx hbc dX8_told_34 rfl (lv_at hl 0 rfl) ?_
        refine wb_gr (t := 12) hx hbc hg hown w inG_X8 0 (by decide) rfl rfl 17 (by decide) rfl wk_684 dX8_told_35 ?_
        refine lv_iload_n hx hbc dX8_told_38 rfl (lv_at hl 1 rfl) ?_
        refine wb_iald (k := e9) (v := (S.2.1 12) e9) hx hbc w 12 (by decide) rfl 0 rfl rfl (by omega) (by decide) rfl dX8_told_39 ?_
        refine wb_Si (na := 1) (As := [.int ((S.2.1 12) e9)]) (rest := []) hx hbc hml hg hown w E0_ok trivial w.1 Sub.none (k_X8_long32 l D cy ad (sI S 0 0 (nI (0))) ((S.2.1 12) e9)) wk_863 wk_9 wk_861 wk_862 ⟨by decide, by decide, by decide⟩ ⟨by rw [hRf]; decide, by rw [hRl]; decide⟩ rfl hl.1 rfl (Nat.le_of_ble_eq_true rfl) dX8_told_40 ⟨Nat.zero_le _, Nat.zero_le _⟩ (fun r S9 H locs hp w => ?_)
        subst hp
        have hl32_0 := l32_in ((S.2.1 12) e9)
        refine lv_goto (tgt := 62) hx hbc dX8_told_43 (by decide) ?_
        exact hend _ _ _ _ _ _ (Or.inr (Or.inr (Or.inl ⟨e9, he9, rfl, c_31, rfl, rfl⟩))) rfl w dX8_told_62
    · refine lv_aload_n hx hbc dX8_told_20 rfl (lv_at hl 0 rfl) ?_
      refine wb_gr (t := 12) hx hbc hg hown w inG_X8 0 (by decide) rfl rfl 17 (by decide) rfl wk_684 dX8_told_21 ?_
      refine lv_iload_n hx hbc dX8_told_24 rfl (lv_at hl 1 rfl) ?_
      refine wb_iald (k := e9) (v := (S.2.1 12) e9) hx hbc w 12 (by decide) rfl 0 rfl rfl (by omega) (by decide) rfl dX8_told_25 ?_
      refine lv_goto (tgt := 62) hx hbc dX8_told_26 (by decide) ?_
      exact hend _ _ _ _ _ _ (Or.inr (Or.inl ⟨e9, he9, rfl, c_17, rfl, rfl⟩)) rfl w dX8_told_62
  · refine lv_bipush (v := (-101)) hx hbc dX8_told_13 (by decide) ?_
    exact hend _ _ _ _ _ _ (Or.inl ⟨c_10, rfl, rfl⟩) rfl w dX8_told_15
set_option maxHeartbeats 4000000 in
set_option maxRecDepth 100000 in
theorem k_X8_read (l : Launch) (D : va_G) (cy : Nat → ClassId) (ad : Nat → Nat) (S : wS) (g x i : Int32) (d : Nat) (hd : S.1 0 16 = nI d) (hd2 : d ≤ 60) : CtL l yX8_read (Cond.code yX8_read cX8_read 8 (some .long) :: wsG) 2 43 [.ref (ad (0)), .int (g), .int (x), .int (i)] D (tyM cy) 31 cy ad skM E0 (S) (fun r S' => (inF g (nI 0) (nI d - nI 1) = 0 ∧ r = (-101) ∧ S' = sI S 0 0 (nI 0)) ∨ (∃ e, e < d ∧ g = nI e ∧ inF x (nI 0) (nI 4) = 0 ∧ r = (-102) ∧ S' = sI S 0 0 (nI 0)) ∨ (∃ e w, e < d ∧ g = nI e ∧ w ≤ 4 ∧ x = nI w ∧ inF i (nI 0) (nI (l32 (S.2.1 12 e) - wn w)) = 0 ∧ r = 0 ∧ S' = sI (sI S 0 0 (nI 0)) 0 0 (nI 1)) ∨ (∃ e w k, e < d ∧ g = nI e ∧ w ≤ 4 ∧ x = nI w ∧ i = nI k ∧ k + wn w ≤ l32 (S.2.1 12 e) ∧ r = cvL w (rdv (fun q => S.2.1 14 (32 * e + k + q)) (wn w)) ∧ S' = sI S 0 0 (nI 0))) := by
  refine CtL_of (by decide) (Nat.le_of_ble_eq_true rfl) ?_
  intro p e s m args below meth c A ls R Q hB hRf hRl hend
  obtain ⟨hx, hbc, hr, hg, hown, hml, hlk, w, hE, hl⟩ := hB
  have hl : lv_has ls 8 [(0, .ref (ad (0))), (1, .int (g)), (2, .int (x)), (3, .int (i))] := hl
  refine lv_aload_n hx hbc dX8_read_0 rfl (lv_at hl 0 rfl) ?_
  refine lv_iconst (v := nI (0)) hx hbc dX8_read_1 (by decide) ?_
  refine wb_pi (v := nI (0)) hx hbc hg hown w inG_X8 tyX8 tyX8_ok nmX8 0 (by decide) rfl rfl 0 (by decide) rfl wk_667 rfl rfl rfl rfl dX8_read_2 (fun H locs w => ?_)
  refine lv_aload_n hx hbc dX8_read_5 rfl (lv_at hl 0 rfl) ?_
  refine lv_iload_n hx hbc dX8_read_6 rfl (lv_at hl 1 rfl) ?_
  refine wb_Vi (na := 1) (As := [.int (g)]) (rest := []) hx hbc hml hg hown w E0_ok trivial w.1 Sub.self 0 (by decide) rfl rfl (k_X8_isDigest l D cy ad (sI S 0 0 (nI (0))) g d hd) wk_860 wk_9 wk_857 wk_859 ws_20 ⟨by decide, by decide, by decide⟩ ⟨by rw [hRf]; decide, by rw [hRl]; decide⟩ rfl hl.1 rfl (Nat.le_of_ble_eq_true rfl) dX8_read_7 ⟨Nat.zero_le _, Nat.zero_le _⟩ (fun r S9 H locs hp w => ?_)
  obtain ⟨hp, rfl⟩ := hp
  subst hp
  have w : WB D (tyM cy) 31 cy ad skM A s (sI S 0 0 (nI (0))) H locs := w
  refine lv_if_ne (tgt := 17) hx hbc dX8_read_10 (by decide) (fun c_10 => ?_) (fun c_10 => ?_)
  · obtain ⟨e9, he9, rfl⟩ := inF_nzd c_10 (by omega)
    refine lv_iload_n hx hbc dX8_read_17 rfl (lv_at hl 2 rfl) ?_
    refine lv_iconst (v := nI (0)) hx hbc dX8_read_18 (by decide) ?_
    refine lv_iconst (v := nI (4)) hx hbc dX8_read_19 (by decide) ?_
    refine wb_Si (na := 3) (As := [.int (x), .int (nI (0)), .int (nI (4))]) (rest := []) hx hbc hml hg hown w E0_ok trivial w.1 Sub.none (k_X8_in l D cy ad (sI S 0 0 (nI (0))) x (nI (0)) (nI (4))) wk_799 wk_9 wk_797 wk_798 ⟨by decide, by decide, by decide⟩ ⟨by rw [hRf]; decide, by rw [hRl]; decide⟩ rfl hl.1 rfl (Nat.le_of_ble_eq_true rfl) dX8_read_20 ⟨Nat.zero_le _, Nat.zero_le _⟩ (fun r S9 H locs hp w => ?_)
    subst hp
    refine lv_if_ne (tgt := 30) hx hbc dX8_read_23 (by decide) (fun c_23 => ?_) (fun c_23 => ?_)
    · obtain ⟨w9, hw9, rfl⟩ := inF_nzb c_23 (by decide)
      rcases (show w9 = 0 ∨ w9 = 1 ∨ w9 = 2 ∨ w9 = 3 ∨ w9 = 4 by omega) with rfl | rfl | rfl | rfl | rfl
      · have hl : lv_has ls 8 [(0, .ref (ad (0))), (1, .int (nI (e9))), (2, .int (nI (0))), (3, .int (i))] := hl
        refine lv_iload_n hx hbc dX8_read_30 rfl (lv_at hl 2 rfl) ?_
        refine lv_if_ne (tgt := 38) hx hbc dX8_read_31 (by decide) (fun c_31 => ?_) (fun c_31 => ?_)
        · exact absurd c_31 (by decide)
        · refine lv_iconst (v := nI (1)) hx hbc dX8_read_34 (by decide) ?_
          refine lv_goto (tgt := 58) hx hbc dX8_read_35 (by decide) ?_
          refine lv_istore (lv' := [(4, .int (nI (1))), (0, .ref (ad (0))), (1, .int (nI (e9))), (2, .int (nI (0))), (3, .int (i))]) hx hbc dX8_read_58 hl (by decide) rfl (fun ls hl => ?_)
          refine lv_iload_n hx hbc dX8_read_60 rfl (lv_at hl 4 rfl) ?_
          refine lv_iconst (v := nI (0)) hx hbc dX8_read_61 (by decide) ?_
          refine lv_aload_n hx hbc dX8_read_62 rfl (lv_at hl 1 rfl) ?_
          refine wb_gr (t := 12) hx hbc hg hown w inG_X8 0 (by decide) rfl rfl 17 (by decide) rfl wk_684 dX8_read_63 ?_
          refine lv_iload_n hx hbc dX8_read_66 rfl (lv_at hl 2 rfl) ?_
          refine wb_iald (k := e9) (v := (S.2.1 12) e9) hx hbc w 12 (by decide) rfl 0 rfl rfl (by omega) (by decide) rfl dX8_read_67 ?_
          refine wb_Si (na := 1) (As := [.int ((S.2.1 12) e9)]) (rest := [.int (nI (0)), .int (i)]) hx hbc hml hg hown w E0_ok trivial w.1 Sub.none (k_X8_long32 l D cy ad (sI S 0 0 (nI (0))) ((S.2.1 12) e9)) wk_863 wk_9 wk_861 wk_862 ⟨by decide, by decide, by decide⟩ ⟨by rw [hRf]; decide, by rw [hRl]; decide⟩ rfl hl.1 rfl (Nat.le_of_ble_eq_true rfl) dX8_read_68 ⟨Nat.zero_le _, Nat.zero_le _⟩ (fun r S9 H locs hp w => ?_)
          subst hp
          have hl32_0 := l32_in ((S.2.1 12) e9)
          refine lv_iload hx hbc dX8_read_71 (lv_at hl 0 rfl) ?_
          refine n_isub (by omega) hx hbc dX8_read_73 ?_
          refine wb_Si (na := 3) (As := [.int (i), .int (nI (0)), .int (nI ((l32 ((S.2.1 12) e9)) - 1))]) (rest := []) hx hbc hml hg hown w E0_ok trivial w.1 Sub.none (k_X8_in l D cy ad (sI S 0 0 (nI (0))) i (nI (0)) (nI ((l32 ((S.2.1 12) e9)) - 1))) wk_799 wk_9 wk_797 wk_798 ⟨by decide, by decide, by decide⟩ ⟨by rw [hRf]; decide, by rw [hRl]; decide⟩ rfl hl.1 rfl (Nat.le_of_ble_eq_true rfl) dX8_read_74 ⟨Nat.zero_le _, Nat.zero_le _⟩ (fun r S9 H locs hp w => ?_)
          subst hp
          refine lv_if_ne (tgt := 87) hx hbc dX8_read_77 (by decide) (fun c_77 => ?_) (fun c_77 => ?_)
          · obtain ⟨k, hk, rfl⟩ := inF_nzb c_77 (by omega)
            refine lv_lconst (v := 0) hx hbc dX8_read_87 (by decide) ?_
            refine lv_lstore (lv' := [(5, .long (0)), (4, .int (nI (1))), (0, .ref (ad (0))), (1, .int (nI (e9))), (2, .int (nI (0))), (3, .int (nI (k)))]) hx hbc dX8_read_88 hl (by decide) rfl (fun ls hl => ?_)
            refine lv_iconst (v := nI (0)) hx hbc dX8_read_90 (by decide) ?_
            refine lv_istore (lv' := [(7, .int (nI (0))), (5, .long (0)), (4, .int (nI (1))), (0, .ref (ad (0))), (1, .int (nI (e9))), (2, .int (nI (0))), (3, .int (nI (k)))]) hx hbc dX8_read_91 hl (by decide) rfl (fun ls hl => ?_)
            have lp_93 : ∀ (fu : Nat) (b : Nat) (H : Heap) (locs : List Loc) (ls : Array Slot), (1 < b + fu) → (b ≤ 1) → WB D (tyM cy) 31 cy ad skM A s (sI S 0 0 (nI 0)) H locs → lv_has ls 8 [(0, .ref (ad (0))), (1, .int (nI (e9))), (2, .int (nI (0))), (3, .int (nI (k))), (4, .int (nI (1))), (5, .long (rdv (fun q => S.2.1 14 (32 * e9 + k + q)) b)), (7, .int (nI (b)))] → W p l e R s m args below meth c H locs 0 0 Q (F0 m 93 ls []) := by
              intro fu
              induction fu with
              | zero =>
                intro b H locs ls h1 h2 w hl
                exact absurd h1 (by omega)
              | succ fu ih_93 =>
                intro b H locs ls h1 h2 w hl
                refine lv_iload hx hbc dX8_read_93 (lv_at hl 6 rfl) ?_
                refine lv_iload hx hbc dX8_read_95 (lv_at hl 4 rfl) ?_
                refine n_cmp_ge (tgt := 129) (by omega) (by omega) hx hbc dX8_read_97 (by decide) (fun c_97 => ?_) (fun c_97 => ?_)
                · obtain rfl : b = 1 := by omega
                  have hl := lv_sub (l' := [(0, .ref (ad (0))), (1, .int (nI (e9))), (2, .int (nI (0))), (3, .int (nI (k))), (4, .int (nI (1))), (5, .long (rdv (fun q => S.2.1 14 (32 * e9 + k + q)) 1))]) hl [0, 1, 2, 3, 4, 5] rfl
                  refine lv_iload_n hx hbc dX8_read_129 rfl (lv_at hl 2 rfl) ?_
                  refine lv_if_ne (tgt := 141) hx hbc dX8_read_130 (by decide) (fun c_130 => ?_) (fun c_130 => ?_)
                  · exact absurd c_130 (by decide)
                  · refine lv_lload hx hbc dX8_read_133 (lv_at hl 5 rfl) ?_
                    refine lv_l2i hx hbc dX8_read_135 rfl ?_
                    refine lv_i2b hx hbc dX8_read_136 rfl ?_
                    refine lv_i2l hx hbc dX8_read_137 rfl ?_
                    refine lv_goto (tgt := 168) hx hbc dX8_read_138 (by decide) ?_
                    exact hend _ _ _ _ _ _ (Or.inr (Or.inr (Or.inr (⟨e9, 0, k, he9, rfl, (by decide), rfl, rfl, (by simp only [wn]; omega), rfl, rfl⟩)))) w dX8_read_168
                · refine lv_lload hx hbc dX8_read_100 (lv_at hl 5 rfl) ?_
                  refine lv_bipush (v := nI (8)) hx hbc dX8_read_102 (by decide) ?_
                  refine lv_lshl hx hbc dX8_read_104 rfl ?_
                  refine lv_aload_n hx hbc dX8_read_105 rfl (lv_at hl 0 rfl) ?_
                  refine wb_gr (t := 14) hx hbc hg hown w inG_X8 0 (by decide) rfl rfl 19 (by decide) rfl wk_686 dX8_read_106 ?_
                  refine lv_bipush (v := nI (32)) hx hbc dX8_read_109 (by decide) ?_
                  refine lv_iload_n hx hbc dX8_read_111 rfl (lv_at hl 1 rfl) ?_
                  refine n_imul hx hbc dX8_read_112 ?_
                  refine lv_iload_n hx hbc dX8_read_113 rfl (lv_at hl 3 rfl) ?_
                  refine n_iadd hx hbc dX8_read_114 ?_
                  refine lv_iload hx hbc dX8_read_115 (lv_at hl 6 rfl) ?_
                  refine n_iadd hx hbc dX8_read_117 ?_
                  refine wb_iald (k := ((32 * e9) + k) + b) (v := (S.2.1 14) (((32 * e9) + k) + b)) hx hbc w 14 (by decide) rfl 0 rfl rfl (by omega) (by decide) rfl dX8_read_118 ?_
                  refine lv_i2l hx hbc dX8_read_119 rfl ?_
                  refine lv_lor hx hbc dX8_read_120 ?_
                  refine lv_lstore (lv' := [(5, .long (((rdv (fun q => S.2.1 14 (32 * e9 + k + q)) b) <<< ((nI (8)).toInt64 &&& 63)) ||| (((S.2.1 14) (((32 * e9) + k) + b)).toInt64))), (0, .ref (ad (0))), (1, .int (nI (e9))), (2, .int (nI (0))), (3, .int (nI (k))), (4, .int (nI (1))), (7, .int (nI (b)))]) hx hbc dX8_read_121 hl (by decide) rfl (fun ls hl => ?_)
                  refine lv_iinc (v := nI (b + 1)) (lv' := [(7, .int (nI (b + 1))), (5, .long (((rdv (fun q => S.2.1 14 (32 * e9 + k + q)) b) <<< ((nI (8)).toInt64 &&& 63)) ||| (((S.2.1 14) (((32 * e9) + k) + b)).toInt64))), (0, .ref (ad (0))), (1, .int (nI (e9))), (2, .int (nI (0))), (3, .int (nI (k))), (4, .int (nI (1)))]) hx hbc dX8_read_123 hl (k := 6) rfl (ni_inc _ _) (by decide) rfl (fun ls hl => ?_)
                  refine lv_goto (tgt := 93) hx hbc dX8_read_126 (by decide) ?_
                  exact ih_93 (b + 1) _ _ _ (by omega) (by omega) w (lv_sub hl [2, 3, 4, 5, 6, 1, 0] rfl)
            exact lp_93 2 0 _ _ _ (by omega) (by omega) w (lv_sub hl [3, 4, 5, 6, 2, 1, 0] rfl)
          · refine lv_aload_n hx hbc dX8_read_80 rfl (lv_at hl 1 rfl) ?_
            refine lv_iconst (v := nI (1)) hx hbc dX8_read_81 (by decide) ?_
            refine wb_pi (v := nI (1)) hx hbc hg hown w inG_X8 tyX8 tyX8_ok nmX8 0 (by decide) rfl rfl 0 (by decide) rfl wk_667 rfl rfl rfl rfl dX8_read_82 (fun H locs w => ?_)
            refine lv_lconst (v := 0) hx hbc dX8_read_85 (by decide) ?_
            exact hend _ _ _ _ _ _ (Or.inr (Or.inr (Or.inl ⟨e9, 0, he9, rfl, (by decide), rfl, c_77, rfl, rfl⟩))) w dX8_read_86
      · have hl : lv_has ls 8 [(0, .ref (ad (0))), (1, .int (nI (e9))), (2, .int (nI (1))), (3, .int (i))] := hl
        refine lv_iload_n hx hbc dX8_read_30 rfl (lv_at hl 2 rfl) ?_
        refine lv_if_ne (tgt := 38) hx hbc dX8_read_31 (by decide) (fun c_31 => ?_) (fun c_31 => ?_)
        · refine lv_iload_n hx hbc dX8_read_38 rfl (lv_at hl 2 rfl) ?_
          refine lv_iconst (v := nI (3)) hx hbc dX8_read_39 (by decide) ?_
          refine n_cmp_ge (tgt := 47) (by omega) (by omega) hx hbc dX8_read_40 (by decide) (fun c_40 => ?_) (fun c_40 => ?_)
          · exact absurd c_40 (by decide)
          · refine lv_iconst (v := nI (2)) hx hbc dX8_read_43 (by decide) ?_
            refine lv_goto (tgt := 58) hx hbc dX8_read_44 (by decide) ?_
            refine lv_istore (lv' := [(4, .int (nI (2))), (0, .ref (ad (0))), (1, .int (nI (e9))), (2, .int (nI (1))), (3, .int (i))]) hx hbc dX8_read_58 hl (by decide) rfl (fun ls hl => ?_)
            refine lv_iload_n hx hbc dX8_read_60 rfl (lv_at hl 4 rfl) ?_
            refine lv_iconst (v := nI (0)) hx hbc dX8_read_61 (by decide) ?_
            refine lv_aload_n hx hbc dX8_read_62 rfl (lv_at hl 1 rfl) ?_
            refine wb_gr (t := 12) hx hbc hg hown w inG_X8 0 (by decide) rfl rfl 17 (by decide) rfl wk_684 dX8_read_63 ?_
            refine lv_iload_n hx hbc dX8_read_66 rfl (lv_at hl 2 rfl) ?_
            refine wb_iald (k := e9) (v := (S.2.1 12) e9) hx hbc w 12 (by decide) rfl 0 rfl rfl (by omega) (by decide) rfl dX8_read_67 ?_
            refine wb_Si (na := 1) (As := [.int ((S.2.1 12) e9)]) (rest := [.int (nI (0)), .int (i)]) hx hbc hml hg hown w E0_ok trivial w.1 Sub.none (k_X8_long32 l D cy ad (sI S 0 0 (nI (0))) ((S.2.1 12) e9)) wk_863 wk_9 wk_861 wk_862 ⟨by decide, by decide, by decide⟩ ⟨by rw [hRf]; decide, by rw [hRl]; decide⟩ rfl hl.1 rfl (Nat.le_of_ble_eq_true rfl) dX8_read_68 ⟨Nat.zero_le _, Nat.zero_le _⟩ (fun r S9 H locs hp w => ?_)
            subst hp
            have hl32_0 := l32_in ((S.2.1 12) e9)
            refine lv_iload hx hbc dX8_read_71 (lv_at hl 0 rfl) ?_
            refine n_isub (by omega) hx hbc dX8_read_73 ?_
            refine wb_Si (na := 3) (As := [.int (i), .int (nI (0)), .int (nI ((l32 ((S.2.1 12) e9)) - 2))]) (rest := []) hx hbc hml hg hown w E0_ok trivial w.1 Sub.none (k_X8_in l D cy ad (sI S 0 0 (nI (0))) i (nI (0)) (nI ((l32 ((S.2.1 12) e9)) - 2))) wk_799 wk_9 wk_797 wk_798 ⟨by decide, by decide, by decide⟩ ⟨by rw [hRf]; decide, by rw [hRl]; decide⟩ rfl hl.1 rfl (Nat.le_of_ble_eq_true rfl) dX8_read_74 ⟨Nat.zero_le _, Nat.zero_le _⟩ (fun r S9 H locs hp w => ?_)
            subst hp
            refine lv_if_ne (tgt := 87) hx hbc dX8_read_77 (by decide) (fun c_77 => ?_) (fun c_77 => ?_)
            · obtain ⟨k, hk, rfl⟩ := inF_nzb c_77 (by omega)
              refine lv_lconst (v := 0) hx hbc dX8_read_87 (by decide) ?_
              refine lv_lstore (lv' := [(5, .long (0)), (4, .int (nI (2))), (0, .ref (ad (0))), (1, .int (nI (e9))), (2, .int (nI (1))), (3, .int (nI (k)))]) hx hbc dX8_read_88 hl (by decide) rfl (fun ls hl => ?_)
              refine lv_iconst (v := nI (0)) hx hbc dX8_read_90 (by decide) ?_
              refine lv_istore (lv' := [(7, .int (nI (0))), (5, .long (0)), (4, .int (nI (2))), (0, .ref (ad (0))), (1, .int (nI (e9))), (2, .int (nI (1))), (3, .int (nI (k)))]) hx hbc dX8_read_91 hl (by decide) rfl (fun ls hl => ?_)
              have lp_93 : ∀ (fu : Nat) (b : Nat) (H : Heap) (locs : List Loc) (ls : Array Slot), (2 < b + fu) → (b ≤ 2) → WB D (tyM cy) 31 cy ad skM A s (sI S 0 0 (nI 0)) H locs → lv_has ls 8 [(0, .ref (ad (0))), (1, .int (nI (e9))), (2, .int (nI (1))), (3, .int (nI (k))), (4, .int (nI (2))), (5, .long (rdv (fun q => S.2.1 14 (32 * e9 + k + q)) b)), (7, .int (nI (b)))] → W p l e R s m args below meth c H locs 0 0 Q (F0 m 93 ls []) := by
                intro fu
                induction fu with
                | zero =>
                  intro b H locs ls h1 h2 w hl
                  exact absurd h1 (by omega)
                | succ fu ih_93 =>
                  intro b H locs ls h1 h2 w hl
                  refine lv_iload hx hbc dX8_read_93 (lv_at hl 6 rfl) ?_
                  refine lv_iload hx hbc dX8_read_95 (lv_at hl 4 rfl) ?_
                  refine n_cmp_ge (tgt := 129) (by omega) (by omega) hx hbc dX8_read_97 (by decide) (fun c_97 => ?_) (fun c_97 => ?_)
                  · obtain rfl : b = 2 := by omega
                    have hl := lv_sub (l' := [(0, .ref (ad (0))), (1, .int (nI (e9))), (2, .int (nI (1))), (3, .int (nI (k))), (4, .int (nI (2))), (5, .long (rdv (fun q => S.2.1 14 (32 * e9 + k + q)) 2))]) hl [0, 1, 2, 3, 4, 5] rfl
                    refine lv_iload_n hx hbc dX8_read_129 rfl (lv_at hl 2 rfl) ?_
                    refine lv_if_ne (tgt := 141) hx hbc dX8_read_130 (by decide) (fun c_130 => ?_) (fun c_130 => ?_)
                    · refine lv_iload_n hx hbc dX8_read_141 rfl (lv_at hl 2 rfl) ?_
                      refine lv_iconst (v := nI (1)) hx hbc dX8_read_142 (by decide) ?_
                      refine n_cmp_ne (tgt := 154) (by omega) (by omega) hx hbc dX8_read_143 (by decide) (fun c_143 => ?_) (fun c_143 => ?_)
                      · exact absurd c_143 (by decide)
                      · refine lv_lload hx hbc dX8_read_146 (lv_at hl 5 rfl) ?_
                        refine lv_l2i hx hbc dX8_read_148 rfl ?_
                        refine lv_i2s hx hbc dX8_read_149 rfl ?_
                        refine lv_i2l hx hbc dX8_read_150 rfl ?_
                        refine lv_goto (tgt := 168) hx hbc dX8_read_151 (by decide) ?_
                        exact hend _ _ _ _ _ _ (Or.inr (Or.inr (Or.inr (⟨e9, 1, k, he9, rfl, (by decide), rfl, rfl, (by simp only [wn]; omega), rfl, rfl⟩)))) w dX8_read_168
                    · exact absurd c_130 (by decide)
                  · refine lv_lload hx hbc dX8_read_100 (lv_at hl 5 rfl) ?_
                    refine lv_bipush (v := nI (8)) hx hbc dX8_read_102 (by decide) ?_
                    refine lv_lshl hx hbc dX8_read_104 rfl ?_
                    refine lv_aload_n hx hbc dX8_read_105 rfl (lv_at hl 0 rfl) ?_
                    refine wb_gr (t := 14) hx hbc hg hown w inG_X8 0 (by decide) rfl rfl 19 (by decide) rfl wk_686 dX8_read_106 ?_
                    refine lv_bipush (v := nI (32)) hx hbc dX8_read_109 (by decide) ?_
                    refine lv_iload_n hx hbc dX8_read_111 rfl (lv_at hl 1 rfl) ?_
                    refine n_imul hx hbc dX8_read_112 ?_
                    refine lv_iload_n hx hbc dX8_read_113 rfl (lv_at hl 3 rfl) ?_
                    refine n_iadd hx hbc dX8_read_114 ?_
                    refine lv_iload hx hbc dX8_read_115 (lv_at hl 6 rfl) ?_
                    refine n_iadd hx hbc dX8_read_117 ?_
                    refine wb_iald (k := ((32 * e9) + k) + b) (v := (S.2.1 14) (((32 * e9) + k) + b)) hx hbc w 14 (by decide) rfl 0 rfl rfl (by omega) (by decide) rfl dX8_read_118 ?_
                    refine lv_i2l hx hbc dX8_read_119 rfl ?_
                    refine lv_lor hx hbc dX8_read_120 ?_
                    refine lv_lstore (lv' := [(5, .long (((rdv (fun q => S.2.1 14 (32 * e9 + k + q)) b) <<< ((nI (8)).toInt64 &&& 63)) ||| (((S.2.1 14) (((32 * e9) + k) + b)).toInt64))), (0, .ref (ad (0))), (1, .int (nI (e9))), (2, .int (nI (1))), (3, .int (nI (k))), (4, .int (nI (2))), (7, .int (nI (b)))]) hx hbc dX8_read_121 hl (by decide) rfl (fun ls hl => ?_)
                    refine lv_iinc (v := nI (b + 1)) (lv' := [(7, .int (nI (b + 1))), (5, .long (((rdv (fun q => S.2.1 14 (32 * e9 + k + q)) b) <<< ((nI (8)).toInt64 &&& 63)) ||| (((S.2.1 14) (((32 * e9) + k) + b)).toInt64))), (0, .ref (ad (0))), (1, .int (nI (e9))), (2, .int (nI (1))), (3, .int (nI (k))), (4, .int (nI (2)))]) hx hbc dX8_read_123 hl (k := 6) rfl (ni_inc _ _) (by decide) rfl (fun ls hl => ?_)
                    refine lv_goto (tgt := 93) hx hbc dX8_read_126 (by decide) ?_
                    exact ih_93 (b + 1) _ _ _ (by omega) (by omega) w (lv_sub hl [2, 3, 4, 5, 6, 1, 0] rfl)
              exact lp_93 3 0 _ _ _ (by omega) (by omega) w (lv_sub hl [3, 4, 5, 6, 2, 1, 0] rfl)
            · refine lv_aload_n hx hbc dX8_read_80 rfl (lv_at hl 1 rfl) ?_
              refine lv_iconst (v := nI (1)) hx hbc dX8_read_81 (by decide) ?_
              refine wb_pi (v := nI (1)) hx hbc hg hown w inG_X8 tyX8 tyX8_ok nmX8 0 (by decide) rfl rfl 0 (by decide) rfl wk_667 rfl rfl rfl rfl dX8_read_82 (fun H locs w => ?_)
              refine lv_lconst (v := 0) hx hbc dX8_read_85 (by decide) ?_
              exact hend _ _ _ _ _ _ (Or.inr (Or.inr (Or.inl ⟨e9, 1, he9, rfl, (by decide), rfl, c_77, rfl, rfl⟩))) w dX8_read_86
        · exact absurd c_31 (by decide)
      · have hl : lv_has ls 8 [(0, .ref (ad (0))), (1, .int (nI (e9))), (2, .int (nI (2))), (3, .int (i))] := hl
        refine lv_iload_n hx hbc dX8_read_30 rfl (lv_at hl 2 rfl) ?_
        refine lv_if_ne (tgt := 38) hx hbc dX8_read_31 (by decide) (fun c_31 => ?_) (fun c_31 => ?_)
        · refine lv_iload_n hx hbc dX8_read_38 rfl (lv_at hl 2 rfl) ?_
          refine lv_iconst (v := nI (3)) hx hbc dX8_read_39 (by decide) ?_
          refine n_cmp_ge (tgt := 47) (by omega) (by omega) hx hbc dX8_read_40 (by decide) (fun c_40 => ?_) (fun c_40 => ?_)
          · exact absurd c_40 (by decide)
          · refine lv_iconst (v := nI (2)) hx hbc dX8_read_43 (by decide) ?_
            refine lv_goto (tgt := 58) hx hbc dX8_read_44 (by decide) ?_
            refine lv_istore (lv' := [(4, .int (nI (2))), (0, .ref (ad (0))), (1, .int (nI (e9))), (2, .int (nI (2))), (3, .int (i))]) hx hbc dX8_read_58 hl (by decide) rfl (fun ls hl => ?_)
            refine lv_iload_n hx hbc dX8_read_60 rfl (lv_at hl 4 rfl) ?_
            refine lv_iconst (v := nI (0)) hx hbc dX8_read_61 (by decide) ?_
            refine lv_aload_n hx hbc dX8_read_62 rfl (lv_at hl 1 rfl) ?_
            refine wb_gr (t := 12) hx hbc hg hown w inG_X8 0 (by decide) rfl rfl 17 (by decide) rfl wk_684 dX8_read_63 ?_
            refine lv_iload_n hx hbc dX8_read_66 rfl (lv_at hl 2 rfl) ?_
            refine wb_iald (k := e9) (v := (S.2.1 12) e9) hx hbc w 12 (by decide) rfl 0 rfl rfl (by omega) (by decide) rfl dX8_read_67 ?_
            refine wb_Si (na := 1) (As := [.int ((S.2.1 12) e9)]) (rest := [.int (nI (0)), .int (i)]) hx hbc hml hg hown w E0_ok trivial w.1 Sub.none (k_X8_long32 l D cy ad (sI S 0 0 (nI (0))) ((S.2.1 12) e9)) wk_863 wk_9 wk_861 wk_862 ⟨by decide, by decide, by decide⟩ ⟨by rw [hRf]; decide, by rw [hRl]; decide⟩ rfl hl.1 rfl (Nat.le_of_ble_eq_true rfl) dX8_read_68 ⟨Nat.zero_le _, Nat.zero_le _⟩ (fun r S9 H locs hp w => ?_)
            subst hp
            have hl32_0 := l32_in ((S.2.1 12) e9)
            refine lv_iload hx hbc dX8_read_71 (lv_at hl 0 rfl) ?_
            refine n_isub (by omega) hx hbc dX8_read_73 ?_
            refine wb_Si (na := 3) (As := [.int (i), .int (nI (0)), .int (nI ((l32 ((S.2.1 12) e9)) - 2))]) (rest := []) hx hbc hml hg hown w E0_ok trivial w.1 Sub.none (k_X8_in l D cy ad (sI S 0 0 (nI (0))) i (nI (0)) (nI ((l32 ((S.2.1 12) e9)) - 2))) wk_799 wk_9 wk_797 wk_798 ⟨by decide, by decide, by decide⟩ ⟨by rw [hRf]; decide, by rw [hRl]; decide⟩ rfl hl.1 rfl (Nat.le_of_ble_eq_true rfl) dX8_read_74 ⟨Nat.zero_le _, Nat.zero_le _⟩ (fun r S9 H locs hp w => ?_)
            subst hp
            refine lv_if_ne (tgt := 87) hx hbc dX8_read_77 (by decide) (fun c_77 => ?_) (fun c_77 => ?_)
            · obtain ⟨k, hk, rfl⟩ := inF_nzb c_77 (by omega)
              refine lv_lconst (v := 0) hx hbc dX8_read_87 (by decide) ?_
              refine lv_lstore (lv' := [(5, .long (0)), (4, .int (nI (2))), (0, .ref (ad (0))), (1, .int (nI (e9))), (2, .int (nI (2))), (3, .int (nI (k)))]) hx hbc dX8_read_88 hl (by decide) rfl (fun ls hl => ?_)
              refine lv_iconst (v := nI (0)) hx hbc dX8_read_90 (by decide) ?_
              refine lv_istore (lv' := [(7, .int (nI (0))), (5, .long (0)), (4, .int (nI (2))), (0, .ref (ad (0))), (1, .int (nI (e9))), (2, .int (nI (2))), (3, .int (nI (k)))]) hx hbc dX8_read_91 hl (by decide) rfl (fun ls hl => ?_)
              have lp_93 : ∀ (fu : Nat) (b : Nat) (H : Heap) (locs : List Loc) (ls : Array Slot), (2 < b + fu) → (b ≤ 2) → WB D (tyM cy) 31 cy ad skM A s (sI S 0 0 (nI 0)) H locs → lv_has ls 8 [(0, .ref (ad (0))), (1, .int (nI (e9))), (2, .int (nI (2))), (3, .int (nI (k))), (4, .int (nI (2))), (5, .long (rdv (fun q => S.2.1 14 (32 * e9 + k + q)) b)), (7, .int (nI (b)))] → W p l e R s m args below meth c H locs 0 0 Q (F0 m 93 ls []) := by
                intro fu
                induction fu with
                | zero =>
                  intro b H locs ls h1 h2 w hl
                  exact absurd h1 (by omega)
                | succ fu ih_93 =>
                  intro b H locs ls h1 h2 w hl
                  refine lv_iload hx hbc dX8_read_93 (lv_at hl 6 rfl) ?_
                  refine lv_iload hx hbc dX8_read_95 (lv_at hl 4 rfl) ?_
                  refine n_cmp_ge (tgt := 129) (by omega) (by omega) hx hbc dX8_read_97 (by decide) (fun c_97 => ?_) (fun c_97 => ?_)
                  · obtain rfl : b = 2 := by omega
                    have hl := lv_sub (l' := [(0, .ref (ad (0))), (1, .int (nI (e9))), (2, .int (nI (2))), (3, .int (nI (k))), (4, .int (nI (2))), (5, .long (rdv (fun q => S.2.1 14 (32 * e9 + k + q)) 2))]) hl [0, 1, 2, 3, 4, 5] rfl
                    refine lv_iload_n hx hbc dX8_read_129 rfl (lv_at hl 2 rfl) ?_
                    refine lv_if_ne (tgt := 141) hx hbc dX8_read_130 (by decide) (fun c_130 => ?_) (fun c_130 => ?_)
                    · refine lv_iload_n hx hbc dX8_read_141 rfl (lv_at hl 2 rfl) ?_
                      refine lv_iconst (v := nI (1)) hx hbc dX8_read_142 (by decide) ?_
                      refine n_cmp_ne (tgt := 154) (by omega) (by omega) hx hbc dX8_read_143 (by decide) (fun c_143 => ?_) (fun c_143 => ?_)
                      · refine lv_iload_n hx hbc dX8_read_154 rfl (lv_at hl 2 rfl) ?_
                        refine lv_iconst (v := nI (3)) hx hbc dX8_read_155 (by decide) ?_
                        refine n_cmp_ne (tgt := 166) (by omega) (by omega) hx hbc dX8_read_156 (by decide) (fun c_156 => ?_) (fun c_156 => ?_)
                        · refine lv_lload hx hbc dX8_read_166 (lv_at hl 5 rfl) ?_
                          exact hend _ _ _ _ _ _ (Or.inr (Or.inr (Or.inr (⟨e9, 2, k, he9, rfl, (by decide), rfl, rfl, (by simp only [wn]; omega), rfl, rfl⟩)))) w dX8_read_168
                        · exact absurd c_156 (by decide)
                      · exact absurd c_143 (by decide)
                    · exact absurd c_130 (by decide)
                  · refine lv_lload hx hbc dX8_read_100 (lv_at hl 5 rfl) ?_
                    refine lv_bipush (v := nI (8)) hx hbc dX8_read_102 (by decide) ?_
                    refine lv_lshl hx hbc dX8_read_104 rfl ?_
                    refine lv_aload_n hx hbc dX8_read_105 rfl (lv_at hl 0 rfl) ?_
                    refine wb_gr (t := 14) hx hbc hg hown w inG_X8 0 (by decide) rfl rfl 19 (by decide) rfl wk_686 dX8_read_106 ?_
                    refine lv_bipush (v := nI (32)) hx hbc dX8_read_109 (by decide) ?_
                    refine lv_iload_n hx hbc dX8_read_111 rfl (lv_at hl 1 rfl) ?_
                    refine n_imul hx hbc dX8_read_112 ?_
                    refine lv_iload_n hx hbc dX8_read_113 rfl (lv_at hl 3 rfl) ?_
                    refine n_iadd hx hbc dX8_read_114 ?_
                    refine lv_iload hx hbc dX8_read_115 (lv_at hl 6 rfl) ?_
                    refine n_iadd hx hbc dX8_read_117 ?_
                    refine wb_iald (k := ((32 * e9) + k) + b) (v := (S.2.1 14) (((32 * e9) + k) + b)) hx hbc w 14 (by decide) rfl 0 rfl rfl (by omega) (by decide) rfl dX8_read_118 ?_
                    refine lv_i2l hx hbc dX8_read_119 rfl ?_
                    refine lv_lor hx hbc dX8_read_120 ?_
                    refine lv_lstore (lv' := [(5, .long (((rdv (fun q => S.2.1 14 (32 * e9 + k + q)) b) <<< ((nI (8)).toInt64 &&& 63)) ||| (((S.2.1 14) (((32 * e9) + k) + b)).toInt64))), (0, .ref (ad (0))), (1, .int (nI (e9))), (2, .int (nI (2))), (3, .int (nI (k))), (4, .int (nI (2))), (7, .int (nI (b)))]) hx hbc dX8_read_121 hl (by decide) rfl (fun ls hl => ?_)
                    refine lv_iinc (v := nI (b + 1)) (lv' := [(7, .int (nI (b + 1))), (5, .long (((rdv (fun q => S.2.1 14 (32 * e9 + k + q)) b) <<< ((nI (8)).toInt64 &&& 63)) ||| (((S.2.1 14) (((32 * e9) + k) + b)).toInt64))), (0, .ref (ad (0))), (1, .int (nI (e9))), (2, .int (nI (2))), (3, .int (nI (k))), (4, .int (nI (2)))]) hx hbc dX8_read_123 hl (k := 6) rfl (ni_inc _ _) (by decide) rfl (fun ls hl => ?_)
                    refine lv_goto (tgt := 93) hx hbc dX8_read_126 (by decide) ?_
                    exact ih_93 (b + 1) _ _ _ (by omega) (by omega) w (lv_sub hl [2, 3, 4, 5, 6, 1, 0] rfl)
              exact lp_93 3 0 _ _ _ (by omega) (by omega) w (lv_sub hl [3, 4, 5, 6, 2, 1, 0] rfl)
            · refine lv_aload_n hx hbc dX8_read_80 rfl (lv_at hl 1 rfl) ?_
              refine lv_iconst (v := nI (1)) hx hbc dX8_read_81 (by decide) ?_
              refine wb_pi (v := nI (1)) hx hbc hg hown w inG_X8 tyX8 tyX8_ok nmX8 0 (by decide) rfl rfl 0 (by decide) rfl wk_667 rfl rfl rfl rfl dX8_read_82 (fun H locs w => ?_)
              refine lv_lconst (v := 0) hx hbc dX8_read_85 (by decide) ?_
              exact hend _ _ _ _ _ _ (Or.inr (Or.inr (Or.inl ⟨e9, 2, he9, rfl, (by decide), rfl, c_77, rfl, rfl⟩))) w dX8_read_86
        · exact absurd c_31 (by decide)
      · have hl : lv_has ls 8 [(0, .ref (ad (0))), (1, .int (nI (e9))), (2, .int (nI (3))), (3, .int (i))] := hl
        refine lv_iload_n hx hbc dX8_read_30 rfl (lv_at hl 2 rfl) ?_
        refine lv_if_ne (tgt := 38) hx hbc dX8_read_31 (by decide) (fun c_31 => ?_) (fun c_31 => ?_)
        · refine lv_iload_n hx hbc dX8_read_38 rfl (lv_at hl 2 rfl) ?_
          refine lv_iconst (v := nI (3)) hx hbc dX8_read_39 (by decide) ?_
          refine n_cmp_ge (tgt := 47) (by omega) (by omega) hx hbc dX8_read_40 (by decide) (fun c_40 => ?_) (fun c_40 => ?_)
          · refine lv_iload_n hx hbc dX8_read_47 rfl (lv_at hl 2 rfl) ?_
            refine lv_iconst (v := nI (3)) hx hbc dX8_read_48 (by decide) ?_
            refine n_cmp_ne (tgt := 56) (by omega) (by omega) hx hbc dX8_read_49 (by decide) (fun c_49 => ?_) (fun c_49 => ?_)
            · exact absurd c_49 (by decide)
            · refine lv_iconst (v := nI (4)) hx hbc dX8_read_52 (by decide) ?_
              refine lv_goto (tgt := 58) hx hbc dX8_read_53 (by decide) ?_
              refine lv_istore (lv' := [(4, .int (nI (4))), (0, .ref (ad (0))), (1, .int (nI (e9))), (2, .int (nI (3))), (3, .int (i))]) hx hbc dX8_read_58 hl (by decide) rfl (fun ls hl => ?_)
              refine lv_iload_n hx hbc dX8_read_60 rfl (lv_at hl 4 rfl) ?_
              refine lv_iconst (v := nI (0)) hx hbc dX8_read_61 (by decide) ?_
              refine lv_aload_n hx hbc dX8_read_62 rfl (lv_at hl 1 rfl) ?_
              refine wb_gr (t := 12) hx hbc hg hown w inG_X8 0 (by decide) rfl rfl 17 (by decide) rfl wk_684 dX8_read_63 ?_
              refine lv_iload_n hx hbc dX8_read_66 rfl (lv_at hl 2 rfl) ?_
              refine wb_iald (k := e9) (v := (S.2.1 12) e9) hx hbc w 12 (by decide) rfl 0 rfl rfl (by omega) (by decide) rfl dX8_read_67 ?_
              refine wb_Si (na := 1) (As := [.int ((S.2.1 12) e9)]) (rest := [.int (nI (0)), .int (i)]) hx hbc hml hg hown w E0_ok trivial w.1 Sub.none (k_X8_long32 l D cy ad (sI S 0 0 (nI (0))) ((S.2.1 12) e9)) wk_863 wk_9 wk_861 wk_862 ⟨by decide, by decide, by decide⟩ ⟨by rw [hRf]; decide, by rw [hRl]; decide⟩ rfl hl.1 rfl (Nat.le_of_ble_eq_true rfl) dX8_read_68 ⟨Nat.zero_le _, Nat.zero_le _⟩ (fun r S9 H locs hp w => ?_)
              subst hp
              have hl32_0 := l32_in ((S.2.1 12) e9)
              refine lv_iload hx hbc dX8_read_71 (lv_at hl 0 rfl) ?_
              refine n_isub (by omega) hx hbc dX8_read_73 ?_
              refine wb_Si (na := 3) (As := [.int (i), .int (nI (0)), .int (nI ((l32 ((S.2.1 12) e9)) - 4))]) (rest := []) hx hbc hml hg hown w E0_ok trivial w.1 Sub.none (k_X8_in l D cy ad (sI S 0 0 (nI (0))) i (nI (0)) (nI ((l32 ((S.2.1 12) e9)) - 4))) wk_799 wk_9 wk_797 wk_798 ⟨by decide, by decide, by decide⟩ ⟨by rw [hRf]; decide, by rw [hRl]; decide⟩ rfl hl.1 rfl (Nat.le_of_ble_eq_true rfl) dX8_read_74 ⟨Nat.zero_le _, Nat.zero_le _⟩ (fun r S9 H locs hp w => ?_)
              subst hp
              refine lv_if_ne (tgt := 87) hx hbc dX8_read_77 (by decide) (fun c_77 => ?_) (fun c_77 => ?_)
              · obtain ⟨k, hk, rfl⟩ := inF_nzb c_77 (by omega)
                refine lv_lconst (v := 0) hx hbc dX8_read_87 (by decide) ?_
                refine lv_lstore (lv' := [(5, .long (0)), (4, .int (nI (4))), (0, .ref (ad (0))), (1, .int (nI (e9))), (2, .int (nI (3))), (3, .int (nI (k)))]) hx hbc dX8_read_88 hl (by decide) rfl (fun ls hl => ?_)
                refine lv_iconst (v := nI (0)) hx hbc dX8_read_90 (by decide) ?_
                refine lv_istore (lv' := [(7, .int (nI (0))), (5, .long (0)), (4, .int (nI (4))), (0, .ref (ad (0))), (1, .int (nI (e9))), (2, .int (nI (3))), (3, .int (nI (k)))]) hx hbc dX8_read_91 hl (by decide) rfl (fun ls hl => ?_)
                have lp_93 : ∀ (fu : Nat) (b : Nat) (H : Heap) (locs : List Loc) (ls : Array Slot), (4 < b + fu) → (b ≤ 4) → WB D (tyM cy) 31 cy ad skM A s (sI S 0 0 (nI 0)) H locs → lv_has ls 8 [(0, .ref (ad (0))), (1, .int (nI (e9))), (2, .int (nI (3))), (3, .int (nI (k))), (4, .int (nI (4))), (5, .long (rdv (fun q => S.2.1 14 (32 * e9 + k + q)) b)), (7, .int (nI (b)))] → W p l e R s m args below meth c H locs 0 0 Q (F0 m 93 ls []) := by
                  intro fu
                  induction fu with
                  | zero =>
                    intro b H locs ls h1 h2 w hl
                    exact absurd h1 (by omega)
                  | succ fu ih_93 =>
                    intro b H locs ls h1 h2 w hl
                    refine lv_iload hx hbc dX8_read_93 (lv_at hl 6 rfl) ?_
                    refine lv_iload hx hbc dX8_read_95 (lv_at hl 4 rfl) ?_
                    refine n_cmp_ge (tgt := 129) (by omega) (by omega) hx hbc dX8_read_97 (by decide) (fun c_97 => ?_) (fun c_97 => ?_)
                    · obtain rfl : b = 4 := by omega
                      have hl := lv_sub (l' := [(0, .ref (ad (0))), (1, .int (nI (e9))), (2, .int (nI (3))), (3, .int (nI (k))), (4, .int (nI (4))), (5, .long (rdv (fun q => S.2.1 14 (32 * e9 + k + q)) 4))]) hl [0, 1, 2, 3, 4, 5] rfl
                      refine lv_iload_n hx hbc dX8_read_129 rfl (lv_at hl 2 rfl) ?_
                      refine lv_if_ne (tgt := 141) hx hbc dX8_read_130 (by decide) (fun c_130 => ?_) (fun c_130 => ?_)
                      · refine lv_iload_n hx hbc dX8_read_141 rfl (lv_at hl 2 rfl) ?_
                        refine lv_iconst (v := nI (1)) hx hbc dX8_read_142 (by decide) ?_
                        refine n_cmp_ne (tgt := 154) (by omega) (by omega) hx hbc dX8_read_143 (by decide) (fun c_143 => ?_) (fun c_143 => ?_)
                        · refine lv_iload_n hx hbc dX8_read_154 rfl (lv_at hl 2 rfl) ?_
                          refine lv_iconst (v := nI (3)) hx hbc dX8_read_155 (by decide) ?_
                          refine n_cmp_ne (tgt := 166) (by omega) (by omega) hx hbc dX8_read_156 (by decide) (fun c_156 => ?_) (fun c_156 => ?_)
                          · exact absurd c_156 (by decide)
                          · refine lv_lload hx hbc dX8_read_159 (lv_at hl 5 rfl) ?_
                            refine lv_l2i hx hbc dX8_read_161 rfl ?_
                            refine lv_i2l hx hbc dX8_read_162 rfl ?_
                            refine lv_goto (tgt := 168) hx hbc dX8_read_163 (by decide) ?_
                            exact hend _ _ _ _ _ _ (Or.inr (Or.inr (Or.inr (⟨e9, 3, k, he9, rfl, (by decide), rfl, rfl, (by simp only [wn]; omega), rfl, rfl⟩)))) w dX8_read_168
                        · exact absurd c_143 (by decide)
                      · exact absurd c_130 (by decide)
                    · refine lv_lload hx hbc dX8_read_100 (lv_at hl 5 rfl) ?_
                      refine lv_bipush (v := nI (8)) hx hbc dX8_read_102 (by decide) ?_
                      refine lv_lshl hx hbc dX8_read_104 rfl ?_
                      refine lv_aload_n hx hbc dX8_read_105 rfl (lv_at hl 0 rfl) ?_
                      refine wb_gr (t := 14) hx hbc hg hown w inG_X8 0 (by decide) rfl rfl 19 (by decide) rfl wk_686 dX8_read_106 ?_
                      refine lv_bipush (v := nI (32)) hx hbc dX8_read_109 (by decide) ?_
                      refine lv_iload_n hx hbc dX8_read_111 rfl (lv_at hl 1 rfl) ?_
                      refine n_imul hx hbc dX8_read_112 ?_
                      refine lv_iload_n hx hbc dX8_read_113 rfl (lv_at hl 3 rfl) ?_
                      refine n_iadd hx hbc dX8_read_114 ?_
                      refine lv_iload hx hbc dX8_read_115 (lv_at hl 6 rfl) ?_
                      refine n_iadd hx hbc dX8_read_117 ?_
                      refine wb_iald (k := ((32 * e9) + k) + b) (v := (S.2.1 14) (((32 * e9) + k) + b)) hx hbc w 14 (by decide) rfl 0 rfl rfl (by omega) (by decide) rfl dX8_read_118 ?_
                      refine lv_i2l hx hbc dX8_read_119 rfl ?_
                      refine lv_lor hx hbc dX8_read_120 ?_
                      refine lv_lstore (lv' := [(5, .long (((rdv (fun q => S.2.1 14 (32 * e9 + k + q)) b) <<< ((nI (8)).toInt64 &&& 63)) ||| (((S.2.1 14) (((32 * e9) + k) + b)).toInt64))), (0, .ref (ad (0))), (1, .int (nI (e9))), (2, .int (nI (3))), (3, .int (nI (k))), (4, .int (nI (4))), (7, .int (nI (b)))]) hx hbc dX8_read_121 hl (by decide) rfl (fun ls hl => ?_)
                      refine lv_iinc (v := nI (b + 1)) (lv' := [(7, .int (nI (b + 1))), (5, .long (((rdv (fun q => S.2.1 14 (32 * e9 + k + q)) b) <<< ((nI (8)).toInt64 &&& 63)) ||| (((S.2.1 14) (((32 * e9) + k) + b)).toInt64))), (0, .ref (ad (0))), (1, .int (nI (e9))), (2, .int (nI (3))), (3, .int (nI (k))), (4, .int (nI (4)))]) hx hbc dX8_read_123 hl (k := 6) rfl (ni_inc _ _) (by decide) rfl (fun ls hl => ?_)
                      refine lv_goto (tgt := 93) hx hbc dX8_read_126 (by decide) ?_
                      exact ih_93 (b + 1) _ _ _ (by omega) (by omega) w (lv_sub hl [2, 3, 4, 5, 6, 1, 0] rfl)
                exact lp_93 5 0 _ _ _ (by omega) (by omega) w (lv_sub hl [3, 4, 5, 6, 2, 1, 0] rfl)
              · refine lv_aload_n hx hbc dX8_read_80 rfl (lv_at hl 1 rfl) ?_
                refine lv_iconst (v := nI (1)) hx hbc dX8_read_81 (by decide) ?_
                refine wb_pi (v := nI (1)) hx hbc hg hown w inG_X8 tyX8 tyX8_ok nmX8 0 (by decide) rfl rfl 0 (by decide) rfl wk_667 rfl rfl rfl rfl dX8_read_82 (fun H locs w => ?_)
                refine lv_lconst (v := 0) hx hbc dX8_read_85 (by decide) ?_
                exact hend _ _ _ _ _ _ (Or.inr (Or.inr (Or.inl ⟨e9, 3, he9, rfl, (by decide), rfl, c_77, rfl, rfl⟩))) w dX8_read_86
          · exact absurd c_40 (by decide)
        · exact absurd c_31 (by decide)
      · have hl : lv_has ls 8 [(0, .ref (ad (0))), (1, .int (nI (e9))), (2, .int (nI (4))), (3, .int (i))] := hl
        refine lv_iload_n hx hbc dX8_read_30 rfl (lv_at hl 2 rfl) ?_
        refine lv_if_ne (tgt := 38) hx hbc dX8_read_31 (by decide) (fun c_31 => ?_) (fun c_31 => ?_)
        · refine lv_iload_n hx hbc dX8_read_38 rfl (lv_at hl 2 rfl) ?_
          refine lv_iconst (v := nI (3)) hx hbc dX8_read_39 (by decide) ?_
          refine n_cmp_ge (tgt := 47) (by omega) (by omega) hx hbc dX8_read_40 (by decide) (fun c_40 => ?_) (fun c_40 => ?_)
          · refine lv_iload_n hx hbc dX8_read_47 rfl (lv_at hl 2 rfl) ?_
            refine lv_iconst (v := nI (3)) hx hbc dX8_read_48 (by decide) ?_
            refine n_cmp_ne (tgt := 56) (by omega) (by omega) hx hbc dX8_read_49 (by decide) (fun c_49 => ?_) (fun c_49 => ?_)
            · refine lv_bipush (v := nI (8)) hx hbc dX8_read_56 (by decide) ?_
              refine lv_istore (lv' := [(4, .int (nI (8))), (0, .ref (ad (0))), (1, .int (nI (e9))), (2, .int (nI (4))), (3, .int (i))]) hx hbc dX8_read_58 hl (by decide) rfl (fun ls hl => ?_)
              refine lv_iload_n hx hbc dX8_read_60 rfl (lv_at hl 4 rfl) ?_
              refine lv_iconst (v := nI (0)) hx hbc dX8_read_61 (by decide) ?_
              refine lv_aload_n hx hbc dX8_read_62 rfl (lv_at hl 1 rfl) ?_
              refine wb_gr (t := 12) hx hbc hg hown w inG_X8 0 (by decide) rfl rfl 17 (by decide) rfl wk_684 dX8_read_63 ?_
              refine lv_iload_n hx hbc dX8_read_66 rfl (lv_at hl 2 rfl) ?_
              refine wb_iald (k := e9) (v := (S.2.1 12) e9) hx hbc w 12 (by decide) rfl 0 rfl rfl (by omega) (by decide) rfl dX8_read_67 ?_
              refine wb_Si (na := 1) (As := [.int ((S.2.1 12) e9)]) (rest := [.int (nI (0)), .int (i)]) hx hbc hml hg hown w E0_ok trivial w.1 Sub.none (k_X8_long32 l D cy ad (sI S 0 0 (nI (0))) ((S.2.1 12) e9)) wk_863 wk_9 wk_861 wk_862 ⟨by decide, by decide, by decide⟩ ⟨by rw [hRf]; decide, by rw [hRl]; decide⟩ rfl hl.1 rfl (Nat.le_of_ble_eq_true rfl) dX8_read_68 ⟨Nat.zero_le _, Nat.zero_le _⟩ (fun r S9 H locs hp w => ?_)
              subst hp
              have hl32_0 := l32_in ((S.2.1 12) e9)
              refine lv_iload hx hbc dX8_read_71 (lv_at hl 0 rfl) ?_
              refine n_isub (by omega) hx hbc dX8_read_73 ?_
              refine wb_Si (na := 3) (As := [.int (i), .int (nI (0)), .int (nI ((l32 ((S.2.1 12) e9)) - 8))]) (rest := []) hx hbc hml hg hown w E0_ok trivial w.1 Sub.none (k_X8_in l D cy ad (sI S 0 0 (nI (0))) i (nI (0)) (nI ((l32 ((S.2.1 12) e9)) - 8))) wk_799 wk_9 wk_797 wk_798 ⟨by decide, by decide, by decide⟩ ⟨by rw [hRf]; decide, by rw [hRl]; decide⟩ rfl hl.1 rfl (Nat.le_of_ble_eq_true rfl) dX8_read_74 ⟨Nat.zero_le _, Nat.zero_le _⟩ (fun r S9 H locs hp w => ?_)
              subst hp
              refine lv_if_ne (tgt := 87) hx hbc dX8_read_77 (by decide) (fun c_77 => ?_) (fun c_77 => ?_)
              · obtain ⟨k, hk, rfl⟩ := inF_nzb c_77 (by omega)
                refine lv_lconst (v := 0) hx hbc dX8_read_87 (by decide) ?_
                refine lv_lstore (lv' := [(5, .long (0)), (4, .int (nI (8))), (0, .ref (ad (0))), (1, .int (nI (e9))), (2, .int (nI (4))), (3, .int (nI (k)))]) hx hbc dX8_read_88 hl (by decide) rfl (fun ls hl => ?_)
                refine lv_iconst (v := nI (0)) hx hbc dX8_read_90 (by decide) ?_
                refine lv_istore (lv' := [(7, .int (nI (0))), (5, .long (0)), (4, .int (nI (8))), (0, .ref (ad (0))), (1, .int (nI (e9))), (2, .int (nI (4))), (3, .int (nI (k)))]) hx hbc dX8_read_91 hl (by decide) rfl (fun ls hl => ?_)
                have lp_93 : ∀ (fu : Nat) (b : Nat) (H : Heap) (locs : List Loc) (ls : Array Slot), (8 < b + fu) → (b ≤ 8) → WB D (tyM cy) 31 cy ad skM A s (sI S 0 0 (nI 0)) H locs → lv_has ls 8 [(0, .ref (ad (0))), (1, .int (nI (e9))), (2, .int (nI (4))), (3, .int (nI (k))), (4, .int (nI (8))), (5, .long (rdv (fun q => S.2.1 14 (32 * e9 + k + q)) b)), (7, .int (nI (b)))] → W p l e R s m args below meth c H locs 0 0 Q (F0 m 93 ls []) := by
                  intro fu
                  induction fu with
                  | zero =>
                    intro b H locs ls h1 h2 w hl
                    exact absurd h1 (by omega)
                  | succ fu ih_93 =>
                    intro b H locs ls h1 h2 w hl
                    refine lv_iload hx hbc dX8_read_93 (lv_at hl 6 rfl) ?_
                    refine lv_iload hx hbc dX8_read_95 (lv_at hl 4 rfl) ?_
                    refine n_cmp_ge (tgt := 129) (by omega) (by omega) hx hbc dX8_read_97 (by decide) (fun c_97 => ?_) (fun c_97 => ?_)
                    · obtain rfl : b = 8 := by omega
                      have hl := lv_sub (l' := [(0, .ref (ad (0))), (1, .int (nI (e9))), (2, .int (nI (4))), (3, .int (nI (k))), (4, .int (nI (8))), (5, .long (rdv (fun q => S.2.1 14 (32 * e9 + k + q)) 8))]) hl [0, 1, 2, 3, 4, 5] rfl
                      refine lv_iload_n hx hbc dX8_read_129 rfl (lv_at hl 2 rfl) ?_
                      refine lv_if_ne (tgt := 141) hx hbc dX8_read_130 (by decide) (fun c_130 => ?_) (fun c_130 => ?_)
                      · refine lv_iload_n hx hbc dX8_read_141 rfl (lv_at hl 2 rfl) ?_
                        refine lv_iconst (v := nI (1)) hx hbc dX8_read_142 (by decide) ?_
                        refine n_cmp_ne (tgt := 154) (by omega) (by omega) hx hbc dX8_read_143 (by decide) (fun c_143 => ?_) (fun c_143 => ?_)
                        · refine lv_iload_n hx hbc dX8_read_154 rfl (lv_at hl 2 rfl) ?_
                          refine lv_iconst (v := nI (3)) hx hbc dX8_read_155 (by decide) ?_
                          refine n_cmp_ne (tgt := 166) (by omega) (by omega) hx hbc dX8_read_156 (by decide) (fun c_156 => ?_) (fun c_156 => ?_)
                          · refine lv_lload hx hbc dX8_read_166 (lv_at hl 5 rfl) ?_
                            exact hend _ _ _ _ _ _ (Or.inr (Or.inr (Or.inr (⟨e9, 4, k, he9, rfl, (by decide), rfl, rfl, (by simp only [wn]; omega), rfl, rfl⟩)))) w dX8_read_168
                          · exact absurd c_156 (by decide)
                        · exact absurd c_143 (by decide)
                      · exact absurd c_130 (by decide)
                    · refine lv_lload hx hbc dX8_read_100 (lv_at hl 5 rfl) ?_
                      refine lv_bipush (v := nI (8)) hx hbc dX8_read_102 (by decide) ?_
                      refine lv_lshl hx hbc dX8_read_104 rfl ?_
                      refine lv_aload_n hx hbc dX8_read_105 rfl (lv_at hl 0 rfl) ?_
                      refine wb_gr (t := 14) hx hbc hg hown w inG_X8 0 (by decide) rfl rfl 19 (by decide) rfl wk_686 dX8_read_106 ?_
                      refine lv_bipush (v := nI (32)) hx hbc dX8_read_109 (by decide) ?_
                      refine lv_iload_n hx hbc dX8_read_111 rfl (lv_at hl 1 rfl) ?_
                      refine n_imul hx hbc dX8_read_112 ?_
                      refine lv_iload_n hx hbc dX8_read_113 rfl (lv_at hl 3 rfl) ?_
                      refine n_iadd hx hbc dX8_read_114 ?_
                      refine lv_iload hx hbc dX8_read_115 (lv_at hl 6 rfl) ?_
                      refine n_iadd hx hbc dX8_read_117 ?_
                      refine wb_iald (k := ((32 * e9) + k) + b) (v := (S.2.1 14) (((32 * e9) + k) + b)) hx hbc w 14 (by decide) rfl 0 rfl rfl (by omega) (by decide) rfl dX8_read_118 ?_
                      refine lv_i2l hx hbc dX8_read_119 rfl ?_
                      refine lv_lor hx hbc dX8_read_120 ?_
                      refine lv_lstore (lv' := [(5, .long (((rdv (fun q => S.2.1 14 (32 * e9 + k + q)) b) <<< ((nI (8)).toInt64 &&& 63)) ||| (((S.2.1 14) (((32 * e9) + k) + b)).toInt64))), (0, .ref (ad (0))), (1, .int (nI (e9))), (2, .int (nI (4))), (3, .int (nI (k))), (4, .int (nI (8))), (7, .int (nI (b)))]) hx hbc dX8_read_121 hl (by decide) rfl (fun ls hl => ?_)
                      refine lv_iinc (v := nI (b + 1)) (lv' := [(7, .int (nI (b + 1))), (5, .long (((rdv (fun q => S.2.1 14 (32 * e9 + k + q)) b) <<< ((nI (8)).toInt64 &&& 63)) ||| (((S.2.1 14) (((32 * e9) + k) + b)).toInt64))), (0, .ref (ad (0))), (1, .int (nI (e9))), (2, .int (nI (4))), (3, .int (nI (k))), (4, .int (nI (8)))]) hx hbc dX8_read_123 hl (k := 6) rfl (ni_inc _ _) (by decide) rfl (fun ls hl => ?_)
                      refine lv_goto (tgt := 93) hx hbc dX8_read_126 (by decide) ?_
                      exact ih_93 (b + 1) _ _ _ (by omega) (by omega) w (lv_sub hl [2, 3, 4, 5, 6, 1, 0] rfl)
                exact lp_93 9 0 _ _ _ (by omega) (by omega) w (lv_sub hl [3, 4, 5, 6, 2, 1, 0] rfl)
              · refine lv_aload_n hx hbc dX8_read_80 rfl (lv_at hl 1 rfl) ?_
                refine lv_iconst (v := nI (1)) hx hbc dX8_read_81 (by decide) ?_
                refine wb_pi (v := nI (1)) hx hbc hg hown w inG_X8 tyX8 tyX8_ok nmX8 0 (by decide) rfl rfl 0 (by decide) rfl wk_667 rfl rfl rfl rfl dX8_read_82 (fun H locs w => ?_)
                refine lv_lconst (v := 0) hx hbc dX8_read_85 (by decide) ?_
                exact hend _ _ _ _ _ _ (Or.inr (Or.inr (Or.inl ⟨e9, 4, he9, rfl, (by decide), rfl, c_77, rfl, rfl⟩))) w dX8_read_86
            · exact absurd c_49 (by decide)
          · exact absurd c_40 (by decide)
        · exact absurd c_31 (by decide)
    · refine lv_ldc2 (v := (-102)) hx hbc hown (hg _ wk_869) dX8_read_26 ?_
      exact hend _ _ _ _ _ _ (Or.inr (Or.inl ⟨e9, he9, rfl, c_23, rfl, rfl⟩)) w dX8_read_29
  · refine lv_ldc2 (v := (-101)) hx hbc hown (hg _ wk_868) dX8_read_13 ?_
    exact hend _ _ _ _ _ _ (Or.inl ⟨c_10, rfl, rfl⟩) w dX8_read_16
set_option maxHeartbeats 4000000 in
set_option maxRecDepth 100000 in
theorem k_X8_plan (l : Launch) (D : va_G) (cy : Nat → ClassId) (ad : Nat → Nat) (S : wS) (g x : Int32) (d : Nat) (hd : S.1 0 16 = nI d) (hd2 : d ≤ 60) : CtL l yX8_plan (Cond.code yX8_plan cX8_plan 3 (some .long) :: wsG) 2 43 [.ref (ad (0)), .int (g), .int (x)] D (tyM cy) 31 cy ad skM E0 (S) (fun r S' => (inF g (nI 0) (nI d - nI 1) = 0 ∧ r = (-101) ∧ S' = sI S 0 0 (nI 0)) ∨ (∃ e, e < d ∧ g = nI e ∧ inF x (nI 0) (nI 63) = 0 ∧ r = 0 ∧ S' = sI (sI S 0 0 (nI 0)) 0 0 (nI 1)) ∨ (∃ e t, e < d ∧ g = nI e ∧ t ≤ 63 ∧ x = nI t ∧ r = (S.2.1 15 (64 * e + t)).toInt64 ∧ S' = sI (sI S 0 0 (nI 0)) 0 0 (nI 0))) := by
  refine CtL_of (by decide) (Nat.le_of_ble_eq_true rfl) ?_
  intro p e s m args below meth c A ls R Q hB hRf hRl hend
  obtain ⟨hx, hbc, hr, hg, hown, hml, hlk, w, hE, hl⟩ := hB
  have hl : lv_has ls 3 [(0, .ref (ad (0))), (1, .int (g)), (2, .int (x))] := hl
  refine lv_aload_n hx hbc dX8_plan_0 rfl (lv_at hl 0 rfl) ?_
  refine lv_iconst (v := nI (0)) hx hbc dX8_plan_1 (by decide) ?_
  refine wb_pi (v := nI (0)) hx hbc hg hown w inG_X8 tyX8 tyX8_ok nmX8 0 (by decide) rfl rfl 0 (by decide) rfl wk_667 rfl rfl rfl rfl dX8_plan_2 (fun H locs w => ?_)
  refine lv_aload_n hx hbc dX8_plan_5 rfl (lv_at hl 0 rfl) ?_
  refine lv_iload_n hx hbc dX8_plan_6 rfl (lv_at hl 1 rfl) ?_
  refine wb_Vi (na := 1) (As := [.int (g)]) (rest := []) hx hbc hml hg hown w E0_ok trivial w.1 Sub.self 0 (by decide) rfl rfl (k_X8_isDigest l D cy ad (sI S 0 0 (nI (0))) g d hd) wk_860 wk_9 wk_857 wk_859 ws_20 ⟨by decide, by decide, by decide⟩ ⟨by rw [hRf]; decide, by rw [hRl]; decide⟩ rfl hl.1 rfl (Nat.le_of_ble_eq_true rfl) dX8_plan_7 ⟨Nat.zero_le _, Nat.zero_le _⟩ (fun r S9 H locs hp w => ?_)
  obtain ⟨hp, rfl⟩ := hp
  subst hp
  have w : WB D (tyM cy) 31 cy ad skM A s (sI S 0 0 (nI (0))) H locs := w
  refine lv_if_ne (tgt := 17) hx hbc dX8_plan_10 (by decide) (fun c_10 => ?_) (fun c_10 => ?_)
  · obtain ⟨e9, he9, rfl⟩ := inF_nzd c_10 (by omega)
    refine lv_aload_n hx hbc dX8_plan_17 rfl (lv_at hl 0 rfl) ?_
    refine lv_iload_n hx hbc dX8_plan_18 rfl (lv_at hl 2 rfl) ?_
    refine lv_iconst (v := nI (0)) hx hbc dX8_plan_19 (by decide) ?_
    refine lv_bipush (v := nI (63)) hx hbc dX8_plan_20 (by decide) ?_
    refine wb_Si (na := 3) (As := [.int (x), .int (nI (0)), .int (nI (63))]) (rest := [.ref (ad (0))]) hx hbc hml hg hown w E0_ok trivial w.1 Sub.none (k_X8_in l D cy ad (sI S 0 0 (nI (0))) x (nI (0)) (nI (63))) wk_799 wk_9 wk_797 wk_798 ⟨by decide, by decide, by decide⟩ ⟨by rw [hRf]; decide, by rw [hRl]; decide⟩ rfl hl.1 rfl (Nat.le_of_ble_eq_true rfl) dX8_plan_22 ⟨Nat.zero_le _, Nat.zero_le _⟩ (fun r S9 H locs hp w => ?_)
    subst hp
    refine lv_if_eq (tgt := 32) hx hbc dX8_plan_25 (by decide) (fun c_25 => ?_) (fun c_25 => ?_)
    · refine lv_iconst (v := nI (1)) hx hbc dX8_plan_32 (by decide) ?_
      refine wb_pi (v := nI (1)) hx hbc hg hown w inG_X8 tyX8 tyX8_ok nmX8 0 (by decide) rfl rfl 0 (by decide) rfl wk_667 rfl rfl rfl rfl dX8_plan_33 (fun H locs w => ?_)
      refine lv_aload_n hx hbc dX8_plan_36 rfl (lv_at hl 0 rfl) ?_
      refine wb_gi (v := nI (1)) hx hbc hg hown w inG_X8 0 (by decide) rfl rfl 0 (by decide) rfl wk_667 rfl dX8_plan_37 ?_
      refine lv_iconst (v := nI (1)) hx hbc dX8_plan_40 (by decide) ?_
      refine n_cmp_ne (tgt := 48) (by omega) (by omega) hx hbc dX8_plan_41 (by decide) (fun c_41 => ?_) (fun c_41 => ?_)
      · exact absurd c_41 (by decide)
      · refine lv_lconst (v := 0) hx hbc dX8_plan_44 (by decide) ?_
        refine lv_goto (tgt := 60) hx hbc dX8_plan_45 (by decide) ?_
        exact hend _ _ _ _ _ _ (Or.inr (Or.inl ⟨e9, he9, rfl, c_25, rfl, rfl⟩)) w dX8_plan_60
    · obtain ⟨t9, ht9, rfl⟩ := inF_nzb c_25 (by decide)
      refine lv_iconst (v := nI (0)) hx hbc dX8_plan_28 (by decide) ?_
      refine lv_goto (tgt := 33) hx hbc dX8_plan_29 (by decide) ?_
      refine wb_pi (v := nI (0)) hx hbc hg hown w inG_X8 tyX8 tyX8_ok nmX8 0 (by decide) rfl rfl 0 (by decide) rfl wk_667 rfl rfl rfl rfl dX8_plan_33 (fun H locs w => ?_)
      refine lv_aload_n hx hbc dX8_plan_36 rfl (lv_at hl 0 rfl) ?_
      refine wb_gi (v := nI (0)) hx hbc hg hown w inG_X8 0 (by decide) rfl rfl 0 (by decide) rfl wk_667 rfl dX8_plan_37 ?_
      refine lv_iconst (v := nI (1)) hx hbc dX8_plan_40 (by decide) ?_
      refine n_cmp_ne (tgt := 48) (by omega) (by omega) hx hbc dX8_plan_41 (by decide) (fun c_41 => ?_) (fun c_41 => ?_)
      · refine lv_aload_n hx hbc dX8_plan_48 rfl (lv_at hl 0 rfl) ?_
        refine wb_gr (t := 15) hx hbc hg hown w inG_X8 0 (by decide) rfl rfl 20 (by decide) rfl wk_687 dX8_plan_49 ?_
        refine lv_bipush (v := nI (64)) hx hbc dX8_plan_52 (by decide) ?_
        refine lv_iload_n hx hbc dX8_plan_54 rfl (lv_at hl 1 rfl) ?_
        refine n_imul hx hbc dX8_plan_55 ?_
        refine lv_iload_n hx hbc dX8_plan_56 rfl (lv_at hl 2 rfl) ?_
        refine n_iadd hx hbc dX8_plan_57 ?_
        refine wb_iald (k := (64 * e9) + t9) (v := (S.2.1 15) ((64 * e9) + t9)) hx hbc w 15 (by decide) rfl 0 rfl rfl (by omega) (by decide) rfl dX8_plan_58 ?_
        refine lv_i2l hx hbc dX8_plan_59 rfl ?_
        exact hend _ _ _ _ _ _ (Or.inr (Or.inr (⟨e9, t9, he9, rfl, ht9, rfl, rfl, rfl⟩))) w dX8_plan_60
      · exact absurd c_41 (by decide)
  · refine lv_ldc2 (v := (-101)) hx hbc hown (hg _ wk_868) dX8_plan_13 ?_
    exact hend _ _ _ _ _ _ (Or.inl ⟨c_10, rfl, rfl⟩) w dX8_plan_16
set_option maxHeartbeats 4000000 in
set_option maxRecDepth 100000 in
theorem k_X8_table (l : Launch) (D : va_G) (cy : Nat → ClassId) (ad : Nat → Nat) (S : wS) (x : Int32) : CtI l yX8_table (Cond.code yX8_table cX8_table 2 (some .int) :: wsG) 1 22 [.ref (ad (0)), .int (x)] D (tyM cy) 31 cy ad skM E0 (S) (fun r S' => (inF x (nI 0) (nI 63) = 0 ∧ r = nI 0 ∧ S' = sI S 0 0 (nI 1)) ∨ (∃ t, t ≤ 63 ∧ x = nI t ∧ r = S.2.1 1 t ∧ S' = sI S 0 0 (nI 0))) := by
  refine CtI_of (by decide) (Nat.le_of_ble_eq_true rfl) ?_
  intro p e s m args below meth c A ls R Q hB hRf hRl hend
  obtain ⟨hx, hbc, hr, hg, hown, hml, hlk, w, hE, hl⟩ := hB
  have hl : lv_has ls 2 [(0, .ref (ad (0))), (1, .int (x))] := hl
  refine lv_aload_n hx hbc dX8_table_0 rfl (lv_at hl 0 rfl) ?_
  refine lv_iload_n hx hbc dX8_table_1 rfl (lv_at hl 1 rfl) ?_
  refine lv_iconst (v := nI (0)) hx hbc dX8_table_2 (by decide) ?_
  refine lv_bipush (v := nI (63)) hx hbc dX8_table_3 (by decide) ?_
  refine wb_Si (na := 3) (As := [.int (x), .int (nI (0)), .int (nI (63))]) (rest := [.ref (ad (0))]) hx hbc hml hg hown w E0_ok trivial w.1 Sub.none (k_X8_in l D cy ad (S) x (nI (0)) (nI (63))) wk_799 wk_9 wk_797 wk_798 ⟨by decide, by decide, by decide⟩ ⟨by rw [hRf]; decide, by rw [hRl]; decide⟩ rfl hl.1 rfl (Nat.le_of_ble_eq_true rfl) dX8_table_5 ⟨Nat.zero_le _, Nat.zero_le _⟩ (fun r S9 H locs hp w => ?_)
  subst hp
  refine lv_if_eq (tgt := 15) hx hbc dX8_table_8 (by decide) (fun c_8 => ?_) (fun c_8 => ?_)
  · refine lv_iconst (v := nI (1)) hx hbc dX8_table_15 (by decide) ?_
    refine wb_pi (v := nI (1)) hx hbc hg hown w inG_X8 tyX8 tyX8_ok nmX8 0 (by decide) rfl rfl 0 (by decide) rfl wk_667 rfl rfl rfl rfl dX8_table_16 (fun H locs w => ?_)
    refine lv_aload_n hx hbc dX8_table_19 rfl (lv_at hl 0 rfl) ?_
    refine wb_gi (v := nI (1)) hx hbc hg hown w inG_X8 0 (by decide) rfl rfl 0 (by decide) rfl wk_667 rfl dX8_table_20 ?_
    refine lv_iconst (v := nI (1)) hx hbc dX8_table_23 (by decide) ?_
    refine n_cmp_ne (tgt := 31) (by omega) (by omega) hx hbc dX8_table_24 (by decide) (fun c_24 => ?_) (fun c_24 => ?_)
    · exact absurd c_24 (by decide)
    · refine lv_iconst (v := nI (0)) hx hbc dX8_table_27 (by decide) ?_
      refine lv_goto (tgt := 37) hx hbc dX8_table_28 (by decide) ?_
      exact hend _ _ _ _ _ _ (Or.inl ⟨c_8, rfl, rfl⟩) rfl w dX8_table_37
  · obtain ⟨t9, ht9, rfl⟩ := inF_nzb c_8 (by decide)
    refine lv_iconst (v := nI (0)) hx hbc dX8_table_11 (by decide) ?_
    refine lv_goto (tgt := 16) hx hbc dX8_table_12 (by decide) ?_
    refine wb_pi (v := nI (0)) hx hbc hg hown w inG_X8 tyX8 tyX8_ok nmX8 0 (by decide) rfl rfl 0 (by decide) rfl wk_667 rfl rfl rfl rfl dX8_table_16 (fun H locs w => ?_)
    refine lv_aload_n hx hbc dX8_table_19 rfl (lv_at hl 0 rfl) ?_
    refine wb_gi (v := nI (0)) hx hbc hg hown w inG_X8 0 (by decide) rfl rfl 0 (by decide) rfl wk_667 rfl dX8_table_20 ?_
    refine lv_iconst (v := nI (1)) hx hbc dX8_table_23 (by decide) ?_
    refine n_cmp_ne (tgt := 31) (by omega) (by omega) hx hbc dX8_table_24 (by decide) (fun c_24 => ?_) (fun c_24 => ?_)
    · refine lv_aload_n hx hbc dX8_table_31 rfl (lv_at hl 0 rfl) ?_
      refine wb_gr (t := 1) hx hbc hg hown w inG_X8 0 (by decide) rfl rfl 1 (by decide) rfl wk_668 dX8_table_32 ?_
      refine lv_iload_n hx hbc dX8_table_35 rfl (lv_at hl 1 rfl) ?_
      refine wb_iald (k := t9) (v := (S.2.1 1) t9) hx hbc w 1 (by decide) rfl 0 rfl rfl (by omega) (by decide) rfl dX8_table_36 ?_
      exact hend _ _ _ _ _ _ (Or.inr (⟨t9, ht9, rfl, rfl, rfl⟩)) rfl w dX8_table_37
    · exact absurd c_24 (by decide)
set_option maxHeartbeats 4000000 in
set_option maxRecDepth 100000 in
theorem k_X8_same (l : Launch) (D : va_G) (cy : Nat → ClassId) (ad : Nat → Nat) (S : wS) (ga gb : Int32) (d : Nat) (hd : S.1 0 16 = nI d) (hd2 : d ≤ 60) : CtI l yX8_same (Cond.code yX8_same cX8_same 5 (some .int) :: wsG) 2 43 [.ref (ad (0)), .int (ga), .int (gb)] D (tyM cy) 31 cy ad skM E0 (S) (fun r S' => ((inF ga (nI 0) (nI d - nI 1) = 0 ∨ inF gb (nI 0) (nI d - nI 1) = 0) ∧ r = (-101) ∧ S' = sI S 0 0 (nI 0)) ∨ (∃ a b, a < d ∧ b < d ∧ ga = nI a ∧ gb = nI b ∧ (¬ l32 (S.2.1 12 a) = l32 (S.2.1 12 b) ∨ ∃ q, q < l32 (S.2.1 12 a) ∧ ¬ S.2.1 14 (32 * a + q) = S.2.1 14 (32 * b + q)) ∧ r = nI 0 ∧ S' = sI S 0 0 (nI 0)) ∨ (∃ a b, a < d ∧ b < d ∧ ga = nI a ∧ gb = nI b ∧ l32 (S.2.1 12 a) = l32 (S.2.1 12 b) ∧ (∀ q, q < l32 (S.2.1 12 a) → S.2.1 14 (32 * a + q) = S.2.1 14 (32 * b + q)) ∧ r = nI 1 ∧ S' = sI S 0 0 (nI 0))) := by
  refine CtI_of (by decide) (Nat.le_of_ble_eq_true rfl) ?_
  intro p e s m args below meth c A ls R Q hB hRf hRl hend
  obtain ⟨hx, hbc, hr, hg, hown, hml, hlk, w, hE, hl⟩ := hB
  have hl : lv_has ls 5 [(0, .ref (ad (0))), (1, .int (ga)), (2, .int (gb))] := hl
  refine lv_aload_n hx hbc dX8_same_0 rfl (lv_at hl 0 rfl) ?_
  refine lv_iconst (v := nI (0)) hx hbc dX8_same_1 (by decide) ?_
  refine wb_pi (v := nI (0)) hx hbc hg hown w inG_X8 tyX8 tyX8_ok nmX8 0 (by decide) rfl rfl 0 (by decide) rfl wk_667 rfl rfl rfl rfl dX8_same_2 (fun H locs w => ?_)
  refine lv_aload_n hx hbc dX8_same_5 rfl (lv_at hl 0 rfl) ?_
  refine lv_iload_n hx hbc dX8_same_6 rfl (lv_at hl 1 rfl) ?_
  refine wb_Vi (na := 1) (As := [.int (ga)]) (rest := []) hx hbc hml hg hown w E0_ok trivial w.1 Sub.self 0 (by decide) rfl rfl (k_X8_isDigest l D cy ad (sI S 0 0 (nI (0))) ga d hd) wk_860 wk_9 wk_857 wk_859 ws_20 ⟨by decide, by decide, by decide⟩ ⟨by rw [hRf]; decide, by rw [hRl]; decide⟩ rfl hl.1 rfl (Nat.le_of_ble_eq_true rfl) dX8_same_7 ⟨Nat.zero_le _, Nat.zero_le _⟩ (fun r S9 H locs hp w => ?_)
  obtain ⟨hp, rfl⟩ := hp
  subst hp
  have w : WB D (tyM cy) 31 cy ad skM A s (sI S 0 0 (nI (0))) H locs := w
  refine lv_if_eq (tgt := 21) hx hbc dX8_same_10 (by decide) (fun c_10 => ?_) (fun c_10 => ?_)
  · refine lv_bipush (v := (-101)) hx hbc dX8_same_21 (by decide) ?_
    exact hend _ _ _ _ _ _ (Or.inl ⟨Or.inl c_10, rfl, rfl⟩) rfl w dX8_same_23
  · obtain ⟨a9, ha9, rfl⟩ := inF_nzd c_10 (by omega)
    refine lv_aload_n hx hbc dX8_same_13 rfl (lv_at hl 0 rfl) ?_
    refine lv_iload_n hx hbc dX8_same_14 rfl (lv_at hl 2 rfl) ?_
    refine wb_Vi (na := 1) (As := [.int (gb)]) (rest := []) hx hbc hml hg hown w E0_ok trivial w.1 Sub.self 0 (by decide) rfl rfl (k_X8_isDigest l D cy ad (sI S 0 0 (nI (0))) gb d hd) wk_860 wk_9 wk_857 wk_859 ws_20 ⟨by decide, by decide, by decide⟩ ⟨by rw [hRf]; decide, by rw [hRl]; decide⟩ rfl hl.1 rfl (Nat.le_of_ble_eq_true rfl) dX8_same_15 ⟨Nat.zero_le _, Nat.zero_le _⟩ (fun r S9 H locs hp w => ?_)
    obtain ⟨hp, rfl⟩ := hp
    subst hp
    have w : WB D (tyM cy) 31 cy ad skM A s (sI S 0 0 (nI (0))) H locs := w
    refine lv_if_ne (tgt := 24) hx hbc dX8_same_18 (by decide) (fun c_18 => ?_) (fun c_18 => ?_)
    · obtain ⟨b9, hb9, rfl⟩ := inF_nzd c_18 (by omega)
      refine lv_aload_n hx hbc dX8_same_24 rfl (lv_at hl 0 rfl) ?_
      refine wb_gr (t := 12) hx hbc hg hown w inG_X8 0 (by decide) rfl rfl 17 (by decide) rfl wk_684 dX8_same_25 ?_
      refine lv_iload_n hx hbc dX8_same_28 rfl (lv_at hl 1 rfl) ?_
      refine wb_iald (k := a9) (v := (S.2.1 12) a9) hx hbc w 12 (by decide) rfl 0 rfl rfl (by omega) (by decide) rfl dX8_same_29 ?_
      refine wb_Si (na := 1) (As := [.int ((S.2.1 12) a9)]) (rest := []) hx hbc hml hg hown w E0_ok trivial w.1 Sub.none (k_X8_long32 l D cy ad (sI S 0 0 (nI (0))) ((S.2.1 12) a9)) wk_863 wk_9 wk_861 wk_862 ⟨by decide, by decide, by decide⟩ ⟨by rw [hRf]; decide, by rw [hRl]; decide⟩ rfl hl.1 rfl (Nat.le_of_ble_eq_true rfl) dX8_same_30 ⟨Nat.zero_le _, Nat.zero_le _⟩ (fun r S9 H locs hp w => ?_)
      subst hp
      have hl32_0 := l32_in ((S.2.1 12) a9)
      refine lv_aload_n hx hbc dX8_same_33 rfl (lv_at hl 0 rfl) ?_
      refine wb_gr (t := 12) hx hbc hg hown w inG_X8 0 (by decide) rfl rfl 17 (by decide) rfl wk_684 dX8_same_34 ?_
      refine lv_iload_n hx hbc dX8_same_37 rfl (lv_at hl 2 rfl) ?_
      refine wb_iald (k := b9) (v := (S.2.1 12) b9) hx hbc w 12 (by decide) rfl 0 rfl rfl (by omega) (by decide) rfl dX8_same_38 ?_
      refine wb_Si (na := 1) (As := [.int ((S.2.1 12) b9)]) (rest := [.int (nI (l32 ((S.2.1 12) a9)))]) hx hbc hml hg hown w E0_ok trivial w.1 Sub.none (k_X8_long32 l D cy ad (sI S 0 0 (nI (0))) ((S.2.1 12) b9)) wk_863 wk_9 wk_861 wk_862 ⟨by decide, by decide, by decide⟩ ⟨by rw [hRf]; decide, by rw [hRl]; decide⟩ rfl hl.1 rfl (Nat.le_of_ble_eq_true rfl) dX8_same_39 ⟨Nat.zero_le _, Nat.zero_le _⟩ (fun r S9 H locs hp w => ?_)
      subst hp
      have hl32_0 := l32_in ((S.2.1 12) b9)
      refine n_cmp_ne (tgt := 49) (by omega) (by omega) hx hbc dX8_same_42 (by decide) (fun c_42 => ?_) (fun c_42 => ?_)
      · refine lv_iconst (v := nI (0)) hx hbc dX8_same_49 (by decide) ?_
        refine lv_istore_n (lv' := [(3, .int (nI (0))), (0, .ref (ad (0))), (1, .int (nI (a9))), (2, .int (nI (b9)))]) hx hbc dX8_same_50 rfl hl (by decide) rfl (fun ls hl => ?_)
        refine lv_iconst (v := nI (0)) hx hbc dX8_same_51 (by decide) ?_
        refine lv_istore (lv' := [(4, .int (nI (0))), (3, .int (nI (0))), (0, .ref (ad (0))), (1, .int (nI (a9))), (2, .int (nI (b9)))]) hx hbc dX8_same_52 hl (by decide) rfl (fun ls hl => ?_)
        have lp_54 : ∀ (fu : Nat) (k : Nat) (z : Int32) (H : Heap) (locs : List Loc) (ls : Array Slot), (l32 (S.2.1 12 a9) < k + fu) → (k ≤ l32 (S.2.1 12 a9)) → ((z = nI 1 ∧ l32 (S.2.1 12 a9) = l32 (S.2.1 12 b9) ∧ ∀ q, q < k → S.2.1 14 (32 * a9 + q) = S.2.1 14 (32 * b9 + q)) ∨ (z = nI 0 ∧ (¬ l32 (S.2.1 12 a9) = l32 (S.2.1 12 b9) ∨ ∃ q, q < l32 (S.2.1 12 a9) ∧ ¬ S.2.1 14 (32 * a9 + q) = S.2.1 14 (32 * b9 + q)))) → WB D (tyM cy) 31 cy ad skM A s (sI S 0 0 (nI 0)) H locs → lv_has ls 5 [(0, .ref (ad (0))), (1, .int (nI (a9))), (2, .int (nI (b9))), (3, .int (z)), (4, .int (nI (k)))] → W p l e R s m args below meth c H locs 0 0 Q (F0 m 54 ls []) := by
          intro fu
          induction fu with
          | zero =>
            intro k z H locs ls h1 h2 h3 w hl
            exact absurd h1 (by omega)
          | succ fu ih_54 =>
            intro k z H locs ls h1 h2 h3 w hl
            refine lv_iload hx hbc dX8_same_54 (lv_at hl 4 rfl) ?_
            refine lv_aload_n hx hbc dX8_same_56 rfl (lv_at hl 0 rfl) ?_
            refine wb_gr (t := 12) hx hbc hg hown w inG_X8 0 (by decide) rfl rfl 17 (by decide) rfl wk_684 dX8_same_57 ?_
            refine lv_iload_n hx hbc dX8_same_60 rfl (lv_at hl 1 rfl) ?_
            refine wb_iald (k := a9) (v := (S.2.1 12) a9) hx hbc w 12 (by decide) rfl 0 rfl rfl (by omega) (by decide) rfl dX8_same_61 ?_
            refine wb_Si (na := 1) (As := [.int ((S.2.1 12) a9)]) (rest := [.int (nI (k))]) hx hbc hml hg hown w E0_ok trivial w.1 Sub.none (k_X8_long32 l D cy ad (sI S 0 0 (nI 0)) ((S.2.1 12) a9)) wk_863 wk_9 wk_861 wk_862 ⟨by decide, by decide, by decide⟩ ⟨by rw [hRf]; decide, by rw [hRl]; decide⟩ rfl hl.1 rfl (Nat.le_of_ble_eq_true rfl) dX8_same_62 ⟨Nat.zero_le _, Nat.zero_le _⟩ (fun r S9 H locs hp w => ?_)
            subst hp
            have hl32_0 := l32_in ((S.2.1 12) a9)
            refine n_cmp_ge (tgt := 111) (by omega) (by omega) hx hbc dX8_same_65 (by decide) (fun c_65 => ?_) (fun c_65 => ?_)
            · refine lv_iload_n hx hbc dX8_same_111 rfl (lv_at hl 3 rfl) ?_
              refine lv_if_eq (tgt := 119) hx hbc dX8_same_112 (by decide) (fun c_112 => ?_) (fun c_112 => ?_)
              · refine lv_iconst (v := nI (0)) hx hbc dX8_same_119 (by decide) ?_
                exact hend _ _ _ _ _ _ (Or.inr (Or.inl ⟨a9, b9, ha9, hb9, rfl, rfl, (by rcases h3 with h | h; exact absurd (h.1.symm.trans c_112) (by decide); exact h.2), rfl, rfl⟩)) rfl w dX8_same_120
              · refine lv_iconst (v := nI (1)) hx hbc dX8_same_115 (by decide) ?_
                refine lv_goto (tgt := 120) hx hbc dX8_same_116 (by decide) ?_
                exact hend _ _ _ _ _ _ (Or.inr (Or.inr (⟨a9, b9, ha9, hb9, rfl, rfl, (by rcases h3 with h | h; exact h.2.1; exact absurd h.1 c_112), (by rcases h3 with h | h; exact fun q hq => h.2.2 q (by omega); exact absurd h.1 c_112), rfl, rfl⟩))) rfl w dX8_same_120
            · refine lv_iload_n hx hbc dX8_same_68 rfl (lv_at hl 3 rfl) ?_
              refine lv_if_eq (tgt := 111) hx hbc dX8_same_69 (by decide) (fun c_69 => ?_) (fun c_69 => ?_)
              · refine lv_iload_n hx hbc dX8_same_111 rfl (lv_at hl 3 rfl) ?_
                refine lv_if_eq (tgt := 119) hx hbc dX8_same_112 (by decide) (fun c_112 => ?_) (fun c_112 => ?_)
                · refine lv_iconst (v := nI (0)) hx hbc dX8_same_119 (by decide) ?_
                  exact hend _ _ _ _ _ _ (Or.inr (Or.inl ⟨a9, b9, ha9, hb9, rfl, rfl, (by rcases h3 with h | h; exact absurd (h.1.symm.trans c_112) (by decide); exact h.2), rfl, rfl⟩)) rfl w dX8_same_120
                · refine lv_iconst (v := nI (1)) hx hbc dX8_same_115 (by decide) ?_
                  refine lv_goto (tgt := 120) hx hbc dX8_same_116 (by decide) ?_
                  exact hend _ _ _ _ _ _ (Or.inr (Or.inr (⟨a9, b9, ha9, hb9, rfl, rfl, absurd c_69 c_112, absurd c_69 c_112, rfl, rfl⟩))) rfl w dX8_same_120
              · refine lv_aload_n hx hbc dX8_same_72 rfl (lv_at hl 0 rfl) ?_
                refine wb_gr (t := 14) hx hbc hg hown w inG_X8 0 (by decide) rfl rfl 19 (by decide) rfl wk_686 dX8_same_73 ?_
                refine lv_bipush (v := nI (32)) hx hbc dX8_same_76 (by decide) ?_
                refine lv_iload_n hx hbc dX8_same_78 rfl (lv_at hl 1 rfl) ?_
                refine n_imul hx hbc dX8_same_79 ?_
                refine lv_iload hx hbc dX8_same_80 (lv_at hl 4 rfl) ?_
                refine n_iadd hx hbc dX8_same_82 ?_
                refine wb_iald (k := (32 * a9) + k) (v := (S.2.1 14) ((32 * a9) + k)) hx hbc w 14 (by decide) rfl 0 rfl rfl (by omega) (by decide) rfl dX8_same_83 ?_
                refine lv_aload_n hx hbc dX8_same_84 rfl (lv_at hl 0 rfl) ?_
                refine wb_gr (t := 14) hx hbc hg hown w inG_X8 0 (by decide) rfl rfl 19 (by decide) rfl wk_686 dX8_same_85 ?_
                refine lv_bipush (v := nI (32)) hx hbc dX8_same_88 (by decide) ?_
                refine lv_iload_n hx hbc dX8_same_90 rfl (lv_at hl 2 rfl) ?_
                refine n_imul hx hbc dX8_same_91 ?_
                refine lv_iload hx hbc dX8_same_92 (lv_at hl 4 rfl) ?_
                refine n_iadd hx hbc dX8_same_94 ?_
                refine wb_iald (k := (32 * b9) + k) (v := (S.2.1 14) ((32 * b9) + k)) hx hbc w 14 (by decide) rfl 0 rfl rfl (by omega) (by decide) rfl dX8_same_95 ?_
                refine lv_icmp_ne (tgt := 103) hx hbc dX8_same_96 (by decide) (fun c_96 => ?_) (fun c_96 => ?_)
                · refine lv_iconst (v := nI (0)) hx hbc dX8_same_103 (by decide) ?_
                  refine lv_istore_n (lv' := [(3, .int (nI (0))), (0, .ref (ad (0))), (1, .int (nI (a9))), (2, .int (nI (b9))), (4, .int (nI (k)))]) hx hbc dX8_same_104 rfl hl (by decide) rfl (fun ls hl => ?_)
                  refine lv_iinc (v := nI (k + 1)) (lv' := [(4, .int (nI (k + 1))), (3, .int (nI (0))), (0, .ref (ad (0))), (1, .int (nI (a9))), (2, .int (nI (b9)))]) hx hbc dX8_same_105 hl (k := 4) rfl (ni_inc _ _) (by decide) rfl (fun ls hl => ?_)
                  refine lv_goto (tgt := 54) hx hbc dX8_same_108 (by decide) ?_
                  exact ih_54 (k + 1) (nI (0)) _ _ _ (by omega) (by omega) (Or.inr ⟨rfl, Or.inr ⟨k, c_65, c_96⟩⟩) w (lv_sub hl [2, 3, 4, 1, 0] rfl)
                · refine lv_iconst (v := nI (1)) hx hbc dX8_same_99 (by decide) ?_
                  refine lv_goto (tgt := 104) hx hbc dX8_same_100 (by decide) ?_
                  refine lv_istore_n (lv' := [(3, .int (nI (1))), (0, .ref (ad (0))), (1, .int (nI (a9))), (2, .int (nI (b9))), (4, .int (nI (k)))]) hx hbc dX8_same_104 rfl hl (by decide) rfl (fun ls hl => ?_)
                  refine lv_iinc (v := nI (k + 1)) (lv' := [(4, .int (nI (k + 1))), (3, .int (nI (1))), (0, .ref (ad (0))), (1, .int (nI (a9))), (2, .int (nI (b9)))]) hx hbc dX8_same_105 hl (k := 4) rfl (ni_inc _ _) (by decide) rfl (fun ls hl => ?_)
                  refine lv_goto (tgt := 54) hx hbc dX8_same_108 (by decide) ?_
                  exact ih_54 (k + 1) (nI (1)) _ _ _ (by omega) (by omega) (Or.inl ⟨rfl, (by rcases h3 with h | h; exact h.2.1; exact absurd h.1 c_69), fun q hq => (by rcases Nat.lt_or_ge q k with h9 | h9; (rcases h3 with h | h; exact h.2.2 q h9; exact absurd h.1 c_69); (obtain rfl : q = k := (by omega); exact c_96))⟩) w (lv_sub hl [2, 3, 4, 1, 0] rfl)
        exact lp_54 (l32 (S.2.1 12 a9) + 1) 0 ((nI 0)) _ _ _ (by omega) (by omega) (Or.inr ⟨rfl, Or.inl (fun h9 => c_42 h9)⟩) w (lv_sub hl [2, 3, 4, 1, 0] rfl)
      · refine lv_iconst (v := nI (1)) hx hbc dX8_same_45 (by decide) ?_
        refine lv_goto (tgt := 50) hx hbc dX8_same_46 (by decide) ?_
        refine lv_istore_n (lv' := [(3, .int (nI (1))), (0, .ref (ad (0))), (1, .int (nI (a9))), (2, .int (nI (b9)))]) hx hbc dX8_same_50 rfl hl (by decide) rfl (fun ls hl => ?_)
        refine lv_iconst (v := nI (0)) hx hbc dX8_same_51 (by decide) ?_
        refine lv_istore (lv' := [(4, .int (nI (0))), (3, .int (nI (1))), (0, .ref (ad (0))), (1, .int (nI (a9))), (2, .int (nI (b9)))]) hx hbc dX8_same_52 hl (by decide) rfl (fun ls hl => ?_)
        have lp_54 : ∀ (fu : Nat) (k : Nat) (z : Int32) (H : Heap) (locs : List Loc) (ls : Array Slot), (l32 (S.2.1 12 a9) < k + fu) → (k ≤ l32 (S.2.1 12 a9)) → ((z = nI 1 ∧ l32 (S.2.1 12 a9) = l32 (S.2.1 12 b9) ∧ ∀ q, q < k → S.2.1 14 (32 * a9 + q) = S.2.1 14 (32 * b9 + q)) ∨ (z = nI 0 ∧ (¬ l32 (S.2.1 12 a9) = l32 (S.2.1 12 b9) ∨ ∃ q, q < l32 (S.2.1 12 a9) ∧ ¬ S.2.1 14 (32 * a9 + q) = S.2.1 14 (32 * b9 + q)))) → WB D (tyM cy) 31 cy ad skM A s (sI S 0 0 (nI 0)) H locs → lv_has ls 5 [(0, .ref (ad (0))), (1, .int (nI (a9))), (2, .int (nI (b9))), (3, .int (z)), (4, .int (nI (k)))] → W p l e R s m args below meth c H locs 0 0 Q (F0 m 54 ls []) := by
          intro fu
          induction fu with
          | zero =>
            intro k z H locs ls h1 h2 h3 w hl
            exact absurd h1 (by omega)
          | succ fu ih_54 =>
            intro k z H locs ls h1 h2 h3 w hl
            refine lv_iload hx hbc dX8_same_54 (lv_at hl 4 rfl) ?_
            refine lv_aload_n hx hbc dX8_same_56 rfl (lv_at hl 0 rfl) ?_
            refine wb_gr (t := 12) hx hbc hg hown w inG_X8 0 (by decide) rfl rfl 17 (by decide) rfl wk_684 dX8_same_57 ?_
            refine lv_iload_n hx hbc dX8_same_60 rfl (lv_at hl 1 rfl) ?_
            refine wb_iald (k := a9) (v := (S.2.1 12) a9) hx hbc w 12 (by decide) rfl 0 rfl rfl (by omega) (by decide) rfl dX8_same_61 ?_
            refine wb_Si (na := 1) (As := [.int ((S.2.1 12) a9)]) (rest := [.int (nI (k))]) hx hbc hml hg hown w E0_ok trivial w.1 Sub.none (k_X8_long32 l D cy ad (sI S 0 0 (nI 0)) ((S.2.1 12) a9)) wk_863 wk_9 wk_861 wk_862 ⟨by decide, by decide, by decide⟩ ⟨by rw [hRf]; decide, by rw [hRl]; decide⟩ rfl hl.1 rfl (Nat.le_of_ble_eq_true rfl) dX8_same_62 ⟨Nat.zero_le _, Nat.zero_le _⟩ (fun r S9 H locs hp w => ?_)
            subst hp
            have hl32_0 := l32_in ((S.2.1 12) a9)
            refine n_cmp_ge (tgt := 111) (by omega) (by omega) hx hbc dX8_same_65 (by decide) (fun c_65 => ?_) (fun c_65 => ?_)
            · refine lv_iload_n hx hbc dX8_same_111 rfl (lv_at hl 3 rfl) ?_
              refine lv_if_eq (tgt := 119) hx hbc dX8_same_112 (by decide) (fun c_112 => ?_) (fun c_112 => ?_)
              · refine lv_iconst (v := nI (0)) hx hbc dX8_same_119 (by decide) ?_
                exact hend _ _ _ _ _ _ (Or.inr (Or.inl ⟨a9, b9, ha9, hb9, rfl, rfl, (by rcases h3 with h | h; exact absurd (h.1.symm.trans c_112) (by decide); exact h.2), rfl, rfl⟩)) rfl w dX8_same_120
              · refine lv_iconst (v := nI (1)) hx hbc dX8_same_115 (by decide) ?_
                refine lv_goto (tgt := 120) hx hbc dX8_same_116 (by decide) ?_
                exact hend _ _ _ _ _ _ (Or.inr (Or.inr (⟨a9, b9, ha9, hb9, rfl, rfl, (by rcases h3 with h | h; exact h.2.1; exact absurd h.1 c_112), (by rcases h3 with h | h; exact fun q hq => h.2.2 q (by omega); exact absurd h.1 c_112), rfl, rfl⟩))) rfl w dX8_same_120
            · refine lv_iload_n hx hbc dX8_same_68 rfl (lv_at hl 3 rfl) ?_
              refine lv_if_eq (tgt := 111) hx hbc dX8_same_69 (by decide) (fun c_69 => ?_) (fun c_69 => ?_)
              · refine lv_iload_n hx hbc dX8_same_111 rfl (lv_at hl 3 rfl) ?_
                refine lv_if_eq (tgt := 119) hx hbc dX8_same_112 (by decide) (fun c_112 => ?_) (fun c_112 => ?_)
                · refine lv_iconst (v := nI (0)) hx hbc dX8_same_119 (by decide) ?_
                  exact hend _ _ _ _ _ _ (Or.inr (Or.inl ⟨a9, b9, ha9, hb9, rfl, rfl, (by rcases h3 with h | h; exact absurd (h.1.symm.trans c_112) (by decide); exact h.2), rfl, rfl⟩)) rfl w dX8_same_120
                · refine lv_iconst (v := nI (1)) hx hbc dX8_same_115 (by decide) ?_
                  refine lv_goto (tgt := 120) hx hbc dX8_same_116 (by decide) ?_
                  exact hend _ _ _ _ _ _ (Or.inr (Or.inr (⟨a9, b9, ha9, hb9, rfl, rfl, absurd c_69 c_112, absurd c_69 c_112, rfl, rfl⟩))) rfl w dX8_same_120
              · refine lv_aload_n hx hbc dX8_same_72 rfl (lv_at hl 0 rfl) ?_
                refine wb_gr (t := 14) hx hbc hg hown w inG_X8 0 (by decide) rfl rfl 19 (by decide) rfl wk_686 dX8_same_73 ?_
                refine lv_bipush (v := nI (32)) hx hbc dX8_same_76 (by decide) ?_
                refine lv_iload_n hx hbc dX8_same_78 rfl (lv_at hl 1 rfl) ?_
                refine n_imul hx hbc dX8_same_79 ?_
                refine lv_iload hx hbc dX8_same_80 (lv_at hl 4 rfl) ?_
                refine n_iadd hx hbc dX8_same_82 ?_
                refine wb_iald (k := (32 * a9) + k) (v := (S.2.1 14) ((32 * a9) + k)) hx hbc w 14 (by decide) rfl 0 rfl rfl (by omega) (by decide) rfl dX8_same_83 ?_
                refine lv_aload_n hx hbc dX8_same_84 rfl (lv_at hl 0 rfl) ?_
                refine wb_gr (t := 14) hx hbc hg hown w inG_X8 0 (by decide) rfl rfl 19 (by decide) rfl wk_686 dX8_same_85 ?_
                refine lv_bipush (v := nI (32)) hx hbc dX8_same_88 (by decide) ?_
                refine lv_iload_n hx hbc dX8_same_90 rfl (lv_at hl 2 rfl) ?_
                refine n_imul hx hbc dX8_same_91 ?_
                refine lv_iload hx hbc dX8_same_92 (lv_at hl 4 rfl) ?_
                refine n_iadd hx hbc dX8_same_94 ?_
                refine wb_iald (k := (32 * b9) + k) (v := (S.2.1 14) ((32 * b9) + k)) hx hbc w 14 (by decide) rfl 0 rfl rfl (by omega) (by decide) rfl dX8_same_95 ?_
                refine lv_icmp_ne (tgt := 103) hx hbc dX8_same_96 (by decide) (fun c_96 => ?_) (fun c_96 => ?_)
                · refine lv_iconst (v := nI (0)) hx hbc dX8_same_103 (by decide) ?_
                  refine lv_istore_n (lv' := [(3, .int (nI (0))), (0, .ref (ad (0))), (1, .int (nI (a9))), (2, .int (nI (b9))), (4, .int (nI (k)))]) hx hbc dX8_same_104 rfl hl (by decide) rfl (fun ls hl => ?_)
                  refine lv_iinc (v := nI (k + 1)) (lv' := [(4, .int (nI (k + 1))), (3, .int (nI (0))), (0, .ref (ad (0))), (1, .int (nI (a9))), (2, .int (nI (b9)))]) hx hbc dX8_same_105 hl (k := 4) rfl (ni_inc _ _) (by decide) rfl (fun ls hl => ?_)
                  refine lv_goto (tgt := 54) hx hbc dX8_same_108 (by decide) ?_
                  exact ih_54 (k + 1) (nI (0)) _ _ _ (by omega) (by omega) (Or.inr ⟨rfl, Or.inr ⟨k, c_65, c_96⟩⟩) w (lv_sub hl [2, 3, 4, 1, 0] rfl)
                · refine lv_iconst (v := nI (1)) hx hbc dX8_same_99 (by decide) ?_
                  refine lv_goto (tgt := 104) hx hbc dX8_same_100 (by decide) ?_
                  refine lv_istore_n (lv' := [(3, .int (nI (1))), (0, .ref (ad (0))), (1, .int (nI (a9))), (2, .int (nI (b9))), (4, .int (nI (k)))]) hx hbc dX8_same_104 rfl hl (by decide) rfl (fun ls hl => ?_)
                  refine lv_iinc (v := nI (k + 1)) (lv' := [(4, .int (nI (k + 1))), (3, .int (nI (1))), (0, .ref (ad (0))), (1, .int (nI (a9))), (2, .int (nI (b9)))]) hx hbc dX8_same_105 hl (k := 4) rfl (ni_inc _ _) (by decide) rfl (fun ls hl => ?_)
                  refine lv_goto (tgt := 54) hx hbc dX8_same_108 (by decide) ?_
                  exact ih_54 (k + 1) (nI (1)) _ _ _ (by omega) (by omega) (Or.inl ⟨rfl, (by rcases h3 with h | h; exact h.2.1; exact absurd h.1 c_69), fun q hq => (by rcases Nat.lt_or_ge q k with h9 | h9; (rcases h3 with h | h; exact h.2.2 q h9; exact absurd h.1 c_69); (obtain rfl : q = k := (by omega); exact c_96))⟩) w (lv_sub hl [2, 3, 4, 1, 0] rfl)
        exact lp_54 (l32 (S.2.1 12 a9) + 1) 0 ((nI 1)) _ _ _ (by omega) (by omega) (Or.inl ⟨rfl, c_42, fun _ h9 => absurd h9 (Nat.not_lt_zero _)⟩) w (lv_sub hl [2, 3, 4, 1, 0] rfl)
    · refine lv_bipush (v := (-101)) hx hbc dX8_same_21 (by decide) ?_
      exact hend _ _ _ _ _ _ (Or.inl ⟨Or.inr c_18, rfl, rfl⟩) rfl w dX8_same_23
