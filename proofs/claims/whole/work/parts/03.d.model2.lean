set_option maxHeartbeats 4000000 in
set_option maxRecDepth 100000 in
theorem k_X8_long32 (l : Launch) (D : va_G) (cy : Nat → ClassId) (ad : Nat → Nat) (S : wS) (x : Int32) : CtI l yX8_long32 (Cond.code yX8_long32 cX8_long32 1 (some .int) :: wsG) 0 0 [.int (x)] D (tyM cy) 0 cy ad skM E0 (S) (fun r _ => r = nI (l32 x)) := by
  refine CtI_of (by decide) (Nat.le_of_ble_eq_true rfl) ?_
  intro p e s m args below meth c A ls R Q hB hRf hRl hend
  obtain ⟨hx, hbc, hr, hg, hown, hml, hlk, w, hE, hl⟩ := hB
  have hl : lv_has ls 1 [(0, .int (x))] := hl
  refine lv_iload_n hx hbc dX8_long32_0 rfl (lv_at hl 0 rfl) ?_
  refine lv_iconst (v := nI (1)) hx hbc dX8_long32_1 (by decide) ?_
  refine lv_icmp_ne (tgt := 10) hx hbc dX8_long32_2 (by decide) (fun c_2 => ?_) (fun c_2 => ?_)
  · refine lv_bipush (v := nI (32)) hx hbc dX8_long32_10 (by decide) ?_
    exact hend _ _ _ _ _ _ (by first | (rw [l32, if_pos c_2]) | (rw [l32, if_neg c_2])) rfl w dX8_long32_12
  · refine lv_bipush (v := nI (28)) hx hbc dX8_long32_5 (by decide) ?_
    refine lv_goto (tgt := 12) hx hbc dX8_long32_7 (by decide) ?_
    exact hend _ _ _ _ _ _ (by first | (rw [l32, if_pos c_2]) | (rw [l32, if_neg c_2])) rfl w dX8_long32_12
set_option maxHeartbeats 4000000 in
set_option maxRecDepth 100000 in
theorem k_X8_isTree (l : Launch) (D : va_G) (cy : Nat → ClassId) (ad : Nat → Nat) (S : wS) (v : Int32) : CtI l yX8_isTree (Cond.code yX8_isTree cX8_isTree 1 (some .boolean) :: wsG) 1 22 [.int (v)] D (tyM cy) 0 cy ad skM E0 (S) (fun r _ => r = inF v (nI 0) (nI 3)) := by
  refine CtI_of (by decide) (Nat.le_of_ble_eq_true rfl) ?_
  intro p e s m args below meth c A ls R Q hB hRf hRl hend
  obtain ⟨hx, hbc, hr, hg, hown, hml, hlk, w, hE, hl⟩ := hB
  have hl : lv_has ls 1 [(0, .int (v))] := hl
  refine lv_iload_n hx hbc dX8_isTree_0 rfl (lv_at hl 0 rfl) ?_
  refine lv_iconst (v := nI (0)) hx hbc dX8_isTree_1 (by decide) ?_
  refine lv_iconst (v := nI (3)) hx hbc dX8_isTree_2 (by decide) ?_
  refine wb_Si (na := 3) (As := [.int (v), .int (nI (0)), .int (nI (3))]) (rest := []) hx hbc hml hg hown w E0_ok trivial w.1 Sub.none (k_X8_in l D cy ad (S) v (nI (0)) (nI (3))) wk_799 wk_9 wk_797 wk_798 ⟨by decide, by decide, by decide⟩ ⟨by rw [hRf]; decide, by rw [hRl]; decide⟩ rfl hl.1 rfl (Nat.le_of_ble_eq_true rfl) dX8_isTree_3 ⟨Nat.zero_le _, Nat.zero_le _⟩ (fun r S9 H locs hp w => ?_)
  subst hp
  exact hend _ _ _ _ _ _ rfl (inF_nar _ _ _) w dX8_isTree_6
set_option maxHeartbeats 4000000 in
set_option maxRecDepth 100000 in
theorem k_X8_isDigest (l : Launch) (D : va_G) (cy : Nat → ClassId) (ad : Nat → Nat) (S : wS) (v : Int32) (d : Nat) (hd : S.1 0 16 = nI d) : CtI l yX8_isDigest (Cond.code yX8_isDigest cX8_isDigest 2 (some .boolean) :: wsG) 1 22 [.ref (ad (0)), .int (v)] D (tyM cy) 31 cy ad skM E0 (S) (fun r S' => r = inF v (nI 0) (nI d - nI 1) ∧ S' = S) := by
  refine CtI_of (by decide) (Nat.le_of_ble_eq_true rfl) ?_
  intro p e s m args below meth c A ls R Q hB hRf hRl hend
  obtain ⟨hx, hbc, hr, hg, hown, hml, hlk, w, hE, hl⟩ := hB
  have hl : lv_has ls 2 [(0, .ref (ad (0))), (1, .int (v))] := hl
  refine lv_iload_n hx hbc dX8_isDigest_0 rfl (lv_at hl 1 rfl) ?_
  refine lv_iconst (v := nI (0)) hx hbc dX8_isDigest_1 (by decide) ?_
  refine lv_aload_n hx hbc dX8_isDigest_2 rfl (lv_at hl 0 rfl) ?_
  refine wb_gi (v := nI (d)) hx hbc hg hown w inG_X8 0 (by decide) rfl rfl 16 (by decide) rfl wk_683 hd dX8_isDigest_3 ?_
  refine lv_iconst (v := nI (1)) hx hbc dX8_isDigest_6 (by decide) ?_
  refine lv_isub hx hbc dX8_isDigest_7 ?_
  refine wb_Si (na := 3) (As := [.int (v), .int (nI (0)), .int ((nI (d)) - (nI (1)))]) (rest := []) hx hbc hml hg hown w E0_ok trivial w.1 Sub.none (k_X8_in l D cy ad (S) v (nI (0)) ((nI (d)) - (nI (1)))) wk_799 wk_9 wk_797 wk_798 ⟨by decide, by decide, by decide⟩ ⟨by rw [hRf]; decide, by rw [hRl]; decide⟩ rfl hl.1 rfl (Nat.le_of_ble_eq_true rfl) dX8_isDigest_8 ⟨Nat.zero_le _, Nat.zero_le _⟩ (fun r S9 H locs hp w => ?_)
  subst hp
  exact hend _ _ _ _ _ _ ⟨rfl, rfl⟩ (inF_nar _ _ _) w dX8_isDigest_11
set_option maxHeartbeats 4000000 in
set_option maxRecDepth 100000 in
theorem k_X8_thrown (l : Launch) (D : va_G) (cy : Nat → ClassId) (ad : Nat → Nat) (S : wS)  : CtI l yX8_thrown (Cond.code yX8_thrown cX8_thrown 1 (some .int) :: wsG) 0 0 [.ref (ad (0))] D (tyM cy) 31 cy ad skM E0 (S) (fun r S' => r = S.1 0 0 ∧ S' = S) := by
  refine CtI_of (by decide) (Nat.le_of_ble_eq_true rfl) ?_
  intro p e s m args below meth c A ls R Q hB hRf hRl hend
  obtain ⟨hx, hbc, hr, hg, hown, hml, hlk, w, hE, hl⟩ := hB
  have hl : lv_has ls 1 [(0, .ref (ad (0)))] := hl
  refine lv_aload_n hx hbc dX8_thrown_0 rfl (lv_at hl 0 rfl) ?_
  refine wb_gi (v := S.1 0 0) hx hbc hg hown w inG_X8 0 (by decide) rfl rfl 0 (by decide) rfl wk_667 rfl dX8_thrown_1 ?_
  exact hend _ _ _ _ _ _ ⟨rfl, rfl⟩ rfl w dX8_thrown_4
set_option maxHeartbeats 4000000 in
set_option maxRecDepth 100000 in
theorem k_X8_feed (l : Launch) (D : va_G) (cy : Nat → ClassId) (ad : Nat → Nat) (S : wS) (n : Int32) (v : Int64) (t : Nat) (ht : S.1 0 12 = nI t) (ht2 : t ≤ 200) : CtI l yX8_feed (Cond.code yX8_feed cX8_feed 5 (some .int) :: wsG) 1 22 [.ref (ad (0)), .int (n), .long (v)] D (tyM cy) 31 cy ad skM E0 (S) (fun r S' => (inF n (nI 1) (nI 8) = 0 ∧ r = (-102) ∧ S' = sI S 0 0 (nI 0)) ∨ (∃ k, k < 8 ∧ n = nI (k + 1) ∧ 200 < t + (k + 1) ∧ r = (-103) ∧ S' = sI S 0 0 (nI 0)) ∨ (∃ k, k < 8 ∧ n = nI (k + 1) ∧ t + (k + 1) ≤ 200 ∧ r = nI (t + (k + 1)) ∧ S' = sI (sB (sI S 0 0 (nI 0)) 10 (pts (S.2.1 10) t (fdB v k) ((k + 1)))) 0 12 (nI (t + (k + 1))))) := by
  refine CtI_of (by decide) (Nat.le_of_ble_eq_true rfl) ?_
  intro p e s m args below meth c A ls R Q hB hRf hRl hend
  obtain ⟨hx, hbc, hr, hg, hown, hml, hlk, w, hE, hl⟩ := hB
  have hl : lv_has ls 5 [(0, .ref (ad (0))), (1, .int (n)), (2, .long (v))] := hl
  refine lv_aload_n hx hbc dX8_feed_0 rfl (lv_at hl 0 rfl) ?_
  refine lv_iconst (v := nI (0)) hx hbc dX8_feed_1 (by decide) ?_
  refine wb_pi (v := nI (0)) hx hbc hg hown w inG_X8 tyX8 tyX8_ok nmX8 0 (by decide) rfl rfl 0 (by decide) rfl wk_667 rfl rfl rfl rfl dX8_feed_2 (fun H locs w => ?_)
  refine lv_iload_n hx hbc dX8_feed_5 rfl (lv_at hl 1 rfl) ?_
  refine lv_iconst (v := nI (1)) hx hbc dX8_feed_6 (by decide) ?_
  refine lv_bipush (v := nI (8)) hx hbc dX8_feed_7 (by decide) ?_
  refine wb_Si (na := 3) (As := [.int (n), .int (nI (1)), .int (nI (8))]) (rest := []) hx hbc hml hg hown w E0_ok trivial w.1 Sub.none (k_X8_in l D cy ad (sI S 0 0 (nI (0))) n (nI (1)) (nI (8))) wk_799 wk_9 wk_797 wk_798 ⟨by decide, by decide, by decide⟩ ⟨by rw [hRf]; decide, by rw [hRl]; decide⟩ rfl hl.1 rfl (Nat.le_of_ble_eq_true rfl) dX8_feed_9 ⟨Nat.zero_le _, Nat.zero_le _⟩ (fun r S9 H locs hp w => ?_)
  subst hp
  refine lv_if_ne (tgt := 18) hx hbc dX8_feed_12 (by decide) (fun c_12 => ?_) (fun c_12 => ?_)
  · obtain ⟨k, hk, rfl⟩ := inF_nz1 c_12 (by decide) (by decide)
    refine lv_aload_n hx hbc dX8_feed_18 rfl (lv_at hl 0 rfl) ?_
    refine wb_gi (v := nI (t)) hx hbc hg hown w inG_X8 0 (by decide) rfl rfl 12 (by decide) rfl wk_679 ht dX8_feed_19 ?_
    refine lv_iload_n hx hbc dX8_feed_22 rfl (lv_at hl 1 rfl) ?_
    refine n_iadd hx hbc dX8_feed_23 ?_
    refine lv_sipush (v := nI (200)) hx hbc dX8_feed_24 (by decide) ?_
    refine n_cmp_le (tgt := 33) (by omega) (by omega) hx hbc dX8_feed_27 (by decide) (fun c_27 => ?_) (fun c_27 => ?_)
    · refine lv_iload_n hx hbc dX8_feed_33 rfl (lv_at hl 1 rfl) ?_
      refine lv_iconst (v := nI (1)) hx hbc dX8_feed_34 (by decide) ?_
      refine n_isub (by omega) hx hbc dX8_feed_35 ?_
      refine lv_istore (lv' := [(4, .int (nI ((k + 1) - 1))), (0, .ref (ad (0))), (1, .int (nI (k + 1))), (2, .long (v))]) hx hbc dX8_feed_36 hl (by decide) rfl (fun ls hl => ?_)
      have lp_38 : ∀ (fu : Nat) (j : Nat) (H : Heap) (locs : List Loc) (ls : Array Slot), (j + fu = k + 1) → WB D (tyM cy) 31 cy ad skM A s (sI (sB (sI S 0 0 (nI 0)) 10 (pts (S.2.1 10) t (fdB v k) j)) 0 12 (nI (t + j))) H locs → lv_has ls 5 [(0, .ref (ad (0))), (1, .int (nI (k + 1))), (2, .long (v)), (4, .int (dn fu))] → W p l e R s m args below meth c H locs 0 0 Q (F0 m 38 ls []) := by
        intro fu
        induction fu with
        | zero =>
          intro j H locs ls h1 w hl
          obtain rfl : j = k + 1 := by omega
          have hl : lv_has ls 5 [(0, .ref (ad (0))), (1, .int (nI (k + 1))), (2, .long (v)), (4, .int ((-1)))] := hl
          refine lv_iload hx hbc dX8_feed_38 (lv_at hl 3 rfl) ?_
          refine lv_if_lt (tgt := 80) hx hbc dX8_feed_40 (by decide) (fun c_40 => ?_) (fun c_40 => ?_)
          · refine lv_aload_n hx hbc dX8_feed_80 rfl (lv_at hl 0 rfl) ?_
            refine wb_gi (v := nI (t + (k + 1))) hx hbc hg hown w inG_X8 0 (by decide) rfl rfl 12 (by decide) rfl wk_679 rfl dX8_feed_81 ?_
            exact hend _ _ _ _ _ _ (Or.inr (Or.inr (⟨k, hk, rfl, c_27, rfl, rfl⟩))) rfl w dX8_feed_84
          · exact absurd c_40 (by decide)
        | succ fu ih_38 =>
          intro j H locs ls h1 w hl
          have hl : lv_has ls 5 [(0, .ref (ad (0))), (1, .int (nI (k + 1))), (2, .long (v)), (4, .int (nI (fu)))] := hl
          refine lv_iload hx hbc dX8_feed_38 (lv_at hl 3 rfl) ?_
          refine lv_if_lt (tgt := 80) hx hbc dX8_feed_40 (by decide) (fun c_40 => ?_) (fun c_40 => ?_)
          · exact absurd c_40 (nI_pos (by omega))
          · refine lv_aload_n hx hbc dX8_feed_43 rfl (lv_at hl 0 rfl) ?_
            refine wb_gr (t := 10) hx hbc hg hown w inG_X8 0 (by decide) rfl rfl 13 (by decide) rfl wk_680 dX8_feed_44 ?_
            refine lv_aload_n hx hbc dX8_feed_47 rfl (lv_at hl 0 rfl) ?_
            refine wb_gi (v := nI (t + j)) hx hbc hg hown w inG_X8 0 (by decide) rfl rfl 12 (by decide) rfl wk_679 rfl dX8_feed_48 ?_
            refine lv_lload_n hx hbc dX8_feed_51 rfl (lv_at hl 2 rfl) ?_
            refine lv_bipush (v := nI (8)) hx hbc dX8_feed_52 (by decide) ?_
            refine lv_iload hx hbc dX8_feed_54 (lv_at hl 3 rfl) ?_
            refine n_imul hx hbc dX8_feed_56 ?_
            refine lv_lushr hx hbc dX8_feed_57 rfl ?_
            refine lv_ldc2 (v := (255)) hx hbc hown (hg _ wk_800) dX8_feed_58 ?_
            refine lv_land hx hbc dX8_feed_61 ?_
            refine lv_l2i hx hbc dX8_feed_62 rfl ?_
            refine wb_iast (k := t + j) (f := pts (S.2.1 10) t (fdB v k) j) hx hbc w 10 (by decide) rfl 0 rfl rfl (by omega) (by decide) rfl rfl dX8_feed_63 (fun H locs w => ?_)
            refine lv_aload_n hx hbc dX8_feed_64 rfl (lv_at hl 0 rfl) ?_
            refine lv_dup hx hbc dX8_feed_65 rfl ?_
            refine wb_gi (v := nI (t + j)) hx hbc hg hown w inG_X8 0 (by decide) rfl rfl 12 (by decide) rfl wk_679 rfl dX8_feed_66 ?_
            refine lv_iconst (v := nI (1)) hx hbc dX8_feed_69 (by decide) ?_
            refine n_iadd hx hbc dX8_feed_70 ?_
            refine wb_pi (v := nI ((t + j) + 1)) hx hbc hg hown w inG_X8 tyX8 tyX8_ok nmX8 0 (by decide) rfl rfl 12 (by decide) rfl wk_679 rfl rfl rfl rfl dX8_feed_71 (fun H locs w => ?_)
            refine lv_iinc (v := dn fu) (lv' := [(4, .int (dn fu)), (0, .ref (ad (0))), (1, .int (nI (k + 1))), (2, .long (v))]) hx hbc dX8_feed_74 hl (k := 3) rfl (dn_dec _) (by decide) rfl (fun ls hl => ?_)
            refine lv_goto (tgt := 38) hx hbc dX8_feed_77 (by decide) ?_
            exact ih_38 (j + 1) _ _ _ (by omega) (WB_cast w (by rw [sIB]; have e9 : fu = k - j := (by omega); subst e9; rfl)) (lv_sub hl [1, 2, 3, 0] rfl)
      exact lp_38 (k + 1) 0 _ _ _ (by omega) (WB_cast w (sIB_beg _ 10 _ 0 12 _ rfl ht)) (lv_sub hl [1, 2, 3, 0] rfl)
    · refine lv_bipush (v := (-103)) hx hbc dX8_feed_30 (by decide) ?_
      exact hend _ _ _ _ _ _ (Or.inr (Or.inl ⟨k, hk, rfl, c_27, rfl, rfl⟩)) rfl w dX8_feed_32
  · refine lv_bipush (v := (-102)) hx hbc dX8_feed_15 (by decide) ?_
    exact hend _ _ _ _ _ _ (Or.inl ⟨c_12, rfl, rfl⟩) rfl w dX8_feed_17
set_option maxHeartbeats 4000000 in
set_option maxRecDepth 100000 in
theorem k_X8_key (l : Launch) (D : va_G) (cy : Nat → ClassId) (ad : Nat → Nat) (S : wS) (t : Nat) (ht : S.1 0 12 = nI t) (ht2 : t ≤ 200) : CtI l yX8_key (Cond.code yX8_key cX8_key 2 (some .int) :: wsG) 0 0 [.ref (ad (0))] D (tyM cy) 31 cy ad skM E0 (S) (fun r S' => r = nI t ∧ S' = sI (sB (sI (sI S 0 0 (nI 0)) 0 14 (nI t)) 11 (cps (S.2.1 11) (S.2.1 10) t)) 0 12 (nI 0)) := by
  refine CtI_of (by decide) (Nat.le_of_ble_eq_true rfl) ?_
  intro p e s m args below meth c A ls R Q hB hRf hRl hend
  obtain ⟨hx, hbc, hr, hg, hown, hml, hlk, w, hE, hl⟩ := hB
  have hl : lv_has ls 2 [(0, .ref (ad (0)))] := hl
  refine lv_aload_n hx hbc dX8_key_0 rfl (lv_at hl 0 rfl) ?_
  refine lv_iconst (v := nI (0)) hx hbc dX8_key_1 (by decide) ?_
  refine wb_pi (v := nI (0)) hx hbc hg hown w inG_X8 tyX8 tyX8_ok nmX8 0 (by decide) rfl rfl 0 (by decide) rfl wk_667 rfl rfl rfl rfl dX8_key_2 (fun H locs w => ?_)
  refine lv_aload_n hx hbc dX8_key_5 rfl (lv_at hl 0 rfl) ?_
  refine lv_aload_n hx hbc dX8_key_6 rfl (lv_at hl 0 rfl) ?_
  refine wb_gi (v := nI (t)) hx hbc hg hown w inG_X8 0 (by decide) rfl rfl 12 (by decide) rfl wk_679 ht dX8_key_7 ?_
  refine wb_pi (v := nI (t)) hx hbc hg hown w inG_X8 tyX8 tyX8_ok nmX8 0 (by decide) rfl rfl 14 (by decide) rfl wk_681 rfl rfl rfl rfl dX8_key_10 (fun H locs w => ?_)
  refine lv_iconst (v := nI (0)) hx hbc dX8_key_13 (by decide) ?_
  refine lv_istore_n (lv' := [(1, .int (nI (0))), (0, .ref (ad (0)))]) hx hbc dX8_key_14 rfl hl (by decide) rfl (fun ls hl => ?_)
  have lp_15 : ∀ (fu : Nat) (k : Nat) (H : Heap) (locs : List Loc) (ls : Array Slot), (t < k + fu) → (k ≤ t) → WB D (tyM cy) 31 cy ad skM A s (sB (sI (sI S 0 0 (nI 0)) 0 14 (nI t)) 11 (cps (S.2.1 11) (S.2.1 10) k)) H locs → lv_has ls 2 [(0, .ref (ad (0))), (1, .int (nI (k)))] → W p l e R s m args below meth c H locs 0 0 Q (F0 m 15 ls []) := by
    intro fu
    induction fu with
    | zero =>
      intro k H locs ls h1 h2 w hl
      exact absurd h1 (by omega)
    | succ fu ih_15 =>
      intro k H locs ls h1 h2 w hl
      refine lv_iload_n hx hbc dX8_key_15 rfl (lv_at hl 1 rfl) ?_
      refine lv_aload_n hx hbc dX8_key_16 rfl (lv_at hl 0 rfl) ?_
      refine wb_gi (v := nI (t)) hx hbc hg hown w inG_X8 0 (by decide) rfl rfl 12 (by decide) rfl wk_679 ht dX8_key_17 ?_
      refine n_cmp_ge (tgt := 41) (by omega) (by omega) hx hbc dX8_key_20 (by decide) (fun c_20 => ?_) (fun c_20 => ?_)
      · obtain rfl : t = k := by omega
        refine lv_aload_n hx hbc dX8_key_41 rfl (lv_at hl 0 rfl) ?_
        refine lv_iconst (v := nI (0)) hx hbc dX8_key_42 (by decide) ?_
        refine wb_pi (v := nI (0)) hx hbc hg hown w inG_X8 tyX8 tyX8_ok nmX8 0 (by decide) rfl rfl 12 (by decide) rfl wk_679 rfl rfl rfl rfl dX8_key_43 (fun H locs w => ?_)
        refine lv_aload_n hx hbc dX8_key_46 rfl (lv_at hl 0 rfl) ?_
        refine wb_gi (v := nI (t)) hx hbc hg hown w inG_X8 0 (by decide) rfl rfl 14 (by decide) rfl wk_681 rfl dX8_key_47 ?_
        exact hend _ _ _ _ _ _ ⟨rfl, rfl⟩ rfl w dX8_key_50
      · refine lv_aload_n hx hbc dX8_key_23 rfl (lv_at hl 0 rfl) ?_
        refine wb_gr (t := 11) hx hbc hg hown w inG_X8 0 (by decide) rfl rfl 15 (by decide) rfl wk_682 dX8_key_24 ?_
        refine lv_iload_n hx hbc dX8_key_27 rfl (lv_at hl 1 rfl) ?_
        refine lv_aload_n hx hbc dX8_key_28 rfl (lv_at hl 0 rfl) ?_
        refine wb_gr (t := 10) hx hbc hg hown w inG_X8 0 (by decide) rfl rfl 13 (by decide) rfl wk_680 dX8_key_29 ?_
        refine lv_iload_n hx hbc dX8_key_32 rfl (lv_at hl 1 rfl) ?_
        refine wb_iald (k := k) (v := (S.2.1 10) k) hx hbc w 10 (by decide) rfl 0 rfl rfl (by omega) (by decide) rfl dX8_key_33 ?_
        refine wb_iast (k := k) (f := cps (S.2.1 11) (S.2.1 10) k) hx hbc w 11 (by decide) rfl 0 rfl rfl (by omega) (by decide) rfl rfl dX8_key_34 (fun H locs w => ?_)
        refine lv_iinc (v := nI (k + 1)) (lv' := [(1, .int (nI (k + 1))), (0, .ref (ad (0)))]) hx hbc dX8_key_35 hl (k := 1) rfl (ni_inc _ _) (by decide) rfl (fun ls hl => ?_)
        refine lv_goto (tgt := 15) hx hbc dX8_key_38 (by decide) ?_
        exact ih_15 (k + 1) _ _ _ (by omega) (by omega) (WB_cast w (by rw [sB_sB]; rfl)) (lv_sub hl [1, 0] rfl)
  exact lp_15 (t + 1) 0 _ _ _ (by omega) (by omega) (WB_cast w (sB_beg _ _ _ rfl)) (lv_sub hl [1, 0] rfl)
set_option maxHeartbeats 4000000 in
set_option maxRecDepth 100000 in
theorem k_X8_keepDigest (l : Launch) (D : va_G) (cy : Nat → ClassId) (ad : Nat → Nat) (S : wS) (x : Int32) (d q : Nat) (hd : S.1 0 16 = nI d) (hd2 : d < 60) (hq : S.1 0 11 = nI q) : CtI l yX8_keepDigest (Cond.code yX8_keepDigest cX8_keepDigest 3 (some .int) :: wsG) 1 21 [.ref (ad (0)), .int (x)] D (tyM cy) 31 cy ad skM E0 (S) (fun r S' => r = nI d ∧ S' = kst S x d q) := by
  refine CtI_of (by decide) (Nat.le_of_ble_eq_true rfl) ?_
  intro p e s m args below meth c A ls R Q hB hRf hRl hend
  obtain ⟨hx, hbc, hr, hg, hown, hml, hlk, w, hE, hl⟩ := hB
  have hl : lv_has ls 3 [(0, .ref (ad (0))), (1, .int (x))] := hl
  refine lv_aload_n hx hbc dX8_keepDigest_0 rfl (lv_at hl 0 rfl) ?_
  refine wb_gr (t := 12) hx hbc hg hown w inG_X8 0 (by decide) rfl rfl 17 (by decide) rfl wk_684 dX8_keepDigest_1 ?_
  refine lv_aload_n hx hbc dX8_keepDigest_4 rfl (lv_at hl 0 rfl) ?_
  refine wb_gi (v := nI (d)) hx hbc hg hown w inG_X8 0 (by decide) rfl rfl 16 (by decide) rfl wk_683 hd dX8_keepDigest_5 ?_
  refine lv_iload_n hx hbc dX8_keepDigest_8 rfl (lv_at hl 1 rfl) ?_
  refine wb_iast (k := d) (f := S.2.1 12) hx hbc w 12 (by decide) rfl 0 rfl rfl (by omega) (by decide) rfl rfl dX8_keepDigest_9 (fun H locs w => ?_)
  refine lv_aload_n hx hbc dX8_keepDigest_10 rfl (lv_at hl 0 rfl) ?_
  refine wb_gr (t := 13) hx hbc hg hown w inG_X8 0 (by decide) rfl rfl 18 (by decide) rfl wk_685 dX8_keepDigest_11 ?_
  refine lv_aload_n hx hbc dX8_keepDigest_14 rfl (lv_at hl 0 rfl) ?_
  refine wb_gi (v := nI (d)) hx hbc hg hown w inG_X8 0 (by decide) rfl rfl 16 (by decide) rfl wk_683 hd dX8_keepDigest_15 ?_
  refine lv_aload_n hx hbc dX8_keepDigest_18 rfl (lv_at hl 0 rfl) ?_
  refine wb_gi (v := nI (q)) hx hbc hg hown w inG_X8 0 (by decide) rfl rfl 11 (by decide) rfl wk_678 hq dX8_keepDigest_19 ?_
  refine wb_iast (k := d) (f := S.2.1 13) hx hbc w 13 (by decide) rfl 0 rfl rfl (by omega) (by decide) rfl rfl dX8_keepDigest_22 (fun H locs w => ?_)
  refine lv_iconst (v := nI (0)) hx hbc dX8_keepDigest_23 (by decide) ?_
  refine lv_istore_n (lv' := [(2, .int (nI (0))), (0, .ref (ad (0))), (1, .int (x))]) hx hbc dX8_keepDigest_24 rfl hl (by decide) rfl (fun ls hl => ?_)
  have lp_25 : ∀ (fu : Nat) (k : Nat) (H : Heap) (locs : List Loc) (ls : Array Slot), (32 < k + fu) → (k ≤ 32) → WB D (tyM cy) 31 cy ad skM A s (sB (sB (sB S 12 (upd (S.2.1 12) d x)) 13 (upd (S.2.1 13) d (nI q))) 14 (pts (S.2.1 14) (32 * d) (byH (S.2.1 8)) k)) H locs → lv_has ls 3 [(0, .ref (ad (0))), (1, .int (x)), (2, .int (nI (k)))] → W p l e R s m args below meth c H locs 0 0 Q (F0 m 25 ls []) := by
    intro fu
    induction fu with
    | zero =>
      intro k H locs ls h1 h2 w hl
      exact absurd h1 (by omega)
    | succ fu ih_25 =>
      intro k H locs ls h1 h2 w hl
      refine lv_iload_n hx hbc dX8_keepDigest_25 rfl (lv_at hl 2 rfl) ?_
      refine lv_bipush (v := nI (32)) hx hbc dX8_keepDigest_26 (by decide) ?_
      refine n_cmp_ge (tgt := 56) (by omega) (by omega) hx hbc dX8_keepDigest_28 (by decide) (fun c_28 => ?_) (fun c_28 => ?_)
      · obtain rfl : k = 32 := by omega
        refine lv_iconst (v := nI (0)) hx hbc dX8_keepDigest_56 (by decide) ?_
        refine lv_istore_n (lv' := [(2, .int (nI (0))), (0, .ref (ad (0))), (1, .int (x))]) hx hbc dX8_keepDigest_57 rfl hl (by decide) rfl (fun ls hl => ?_)
        have lp_58 : ∀ (fu : Nat) (k : Nat) (H : Heap) (locs : List Loc) (ls : Array Slot), (64 < k + fu) → (k ≤ 64) → WB D (tyM cy) 31 cy ad skM A s (sB (sB (sB (sB S 12 (upd (S.2.1 12) d x)) 13 (upd (S.2.1 13) d (nI q))) 14 (pts (S.2.1 14) (32 * d) (byH (S.2.1 8)) 32)) 15 (pts (S.2.1 15) (64 * d) (S.2.1 9) k)) H locs → lv_has ls 3 [(0, .ref (ad (0))), (1, .int (x)), (2, .int (nI (k)))] → W p l e R s m args below meth c H locs 0 0 Q (F0 m 58 ls []) := by
          intro fu
          induction fu with
          | zero =>
            intro k H locs ls h1 h2 w hl
            exact absurd h1 (by omega)
          | succ fu ih_58 =>
            intro k H locs ls h1 h2 w hl
            refine lv_iload_n hx hbc dX8_keepDigest_58 rfl (lv_at hl 2 rfl) ?_
            refine lv_bipush (v := nI (64)) hx hbc dX8_keepDigest_59 (by decide) ?_
            refine n_cmp_ge (tgt := 90) (by omega) (by omega) hx hbc dX8_keepDigest_61 (by decide) (fun c_61 => ?_) (fun c_61 => ?_)
            · obtain rfl : k = 64 := by omega
              refine lv_aload_n hx hbc dX8_keepDigest_90 rfl (lv_at hl 0 rfl) ?_
              refine lv_dup hx hbc dX8_keepDigest_91 rfl ?_
              refine wb_gi (v := nI (d)) hx hbc hg hown w inG_X8 0 (by decide) rfl rfl 16 (by decide) rfl wk_683 hd dX8_keepDigest_92 ?_
              refine lv_iconst (v := nI (1)) hx hbc dX8_keepDigest_95 (by decide) ?_
              refine n_iadd hx hbc dX8_keepDigest_96 ?_
              refine wb_pi (v := nI (d + 1)) hx hbc hg hown w inG_X8 tyX8 tyX8_ok nmX8 0 (by decide) rfl rfl 16 (by decide) rfl wk_683 rfl rfl rfl rfl dX8_keepDigest_97 (fun H locs w => ?_)
              refine lv_aload_n hx hbc dX8_keepDigest_100 rfl (lv_at hl 0 rfl) ?_
              refine wb_gi (v := nI (d + 1)) hx hbc hg hown w inG_X8 0 (by decide) rfl rfl 16 (by decide) rfl wk_683 rfl dX8_keepDigest_101 ?_
              refine lv_iconst (v := nI (1)) hx hbc dX8_keepDigest_104 (by decide) ?_
              refine n_isub (by omega) hx hbc dX8_keepDigest_105 ?_
              exact hend _ _ _ _ _ _ ⟨rfl, rfl⟩ rfl w dX8_keepDigest_106
            · refine lv_aload_n hx hbc dX8_keepDigest_64 rfl (lv_at hl 0 rfl) ?_
              refine wb_gr (t := 15) hx hbc hg hown w inG_X8 0 (by decide) rfl rfl 20 (by decide) rfl wk_687 dX8_keepDigest_65 ?_
              refine lv_bipush (v := nI (64)) hx hbc dX8_keepDigest_68 (by decide) ?_
              refine lv_aload_n hx hbc dX8_keepDigest_70 rfl (lv_at hl 0 rfl) ?_
              refine wb_gi (v := nI (d)) hx hbc hg hown w inG_X8 0 (by decide) rfl rfl 16 (by decide) rfl wk_683 hd dX8_keepDigest_71 ?_
              refine n_imul hx hbc dX8_keepDigest_74 ?_
              refine lv_iload_n hx hbc dX8_keepDigest_75 rfl (lv_at hl 2 rfl) ?_
              refine n_iadd hx hbc dX8_keepDigest_76 ?_
              refine lv_aload_n hx hbc dX8_keepDigest_77 rfl (lv_at hl 0 rfl) ?_
              refine wb_gr (t := 9) hx hbc hg hown w inG_X8 0 (by decide) rfl rfl 10 (by decide) rfl wk_677 dX8_keepDigest_78 ?_
              refine lv_iload_n hx hbc dX8_keepDigest_81 rfl (lv_at hl 2 rfl) ?_
              refine wb_iald (k := k) (v := (S.2.1 9) k) hx hbc w 9 (by decide) rfl 0 rfl rfl (by omega) (by decide) rfl dX8_keepDigest_82 ?_
              refine wb_iast (k := (64 * d) + k) (f := pts (S.2.1 15) (64 * d) (S.2.1 9) k) hx hbc w 15 (by decide) rfl 0 rfl rfl (by omega) (by decide) rfl rfl dX8_keepDigest_83 (fun H locs w => ?_)
              refine lv_iinc (v := nI (k + 1)) (lv' := [(2, .int (nI (k + 1))), (0, .ref (ad (0))), (1, .int (x))]) hx hbc dX8_keepDigest_84 hl (k := 2) rfl (ni_inc _ _) (by decide) rfl (fun ls hl => ?_)
              refine lv_goto (tgt := 58) hx hbc dX8_keepDigest_87 (by decide) ?_
              exact ih_58 (k + 1) _ _ _ (by omega) (by omega) (WB_cast w (by rw [sB_sB]; rfl)) (lv_sub hl [1, 2, 0] rfl)
        exact lp_58 65 0 _ _ _ (by omega) (by omega) (WB_cast w (sB_beg _ _ _ rfl)) (lv_sub hl [1, 2, 0] rfl)
      · refine lv_aload_n hx hbc dX8_keepDigest_31 rfl (lv_at hl 0 rfl) ?_
        refine wb_gr (t := 14) hx hbc hg hown w inG_X8 0 (by decide) rfl rfl 19 (by decide) rfl wk_686 dX8_keepDigest_32 ?_
        refine lv_bipush (v := nI (32)) hx hbc dX8_keepDigest_35 (by decide) ?_
        refine lv_aload_n hx hbc dX8_keepDigest_37 rfl (lv_at hl 0 rfl) ?_
        refine wb_gi (v := nI (d)) hx hbc hg hown w inG_X8 0 (by decide) rfl rfl 16 (by decide) rfl wk_683 hd dX8_keepDigest_38 ?_
        refine n_imul hx hbc dX8_keepDigest_41 ?_
        refine lv_iload_n hx hbc dX8_keepDigest_42 rfl (lv_at hl 2 rfl) ?_
        refine n_iadd hx hbc dX8_keepDigest_43 ?_
        refine lv_aload_n hx hbc dX8_keepDigest_44 rfl (lv_at hl 0 rfl) ?_
        refine lv_iload_n hx hbc dX8_keepDigest_45 rfl (lv_at hl 2 rfl) ?_
        refine wb_Vi (na := 1) (As := [.int (nI (k))]) (rest := [.int (nI ((32 * d) + k)), .ref (ad (14))]) hx hbc hml hg hown w E0_ok trivial w.1 Sub.self 0 (by decide) rfl rfl (k_X8_byteOfH l D cy ad (sB (sB (sB S 12 (upd (S.2.1 12) d x)) 13 (upd (S.2.1 13) d (nI q))) 14 (pts (S.2.1 14) (32 * d) (byH (S.2.1 8)) k)) k (by omega)) wk_832 wk_9 wk_829 wk_831 ws_17 ⟨by decide, by decide, by decide⟩ ⟨by rw [hRf]; decide, by rw [hRl]; decide⟩ rfl hl.1 rfl (Nat.le_of_ble_eq_true rfl) dX8_keepDigest_46 ⟨Nat.zero_le _, Nat.zero_le _⟩ (fun r S9 H locs hp w => ?_)
        obtain ⟨hp, rfl⟩ := hp
        subst hp
        have w : WB D (tyM cy) 31 cy ad skM A s (sB (sB (sB S 12 (upd (S.2.1 12) d x)) 13 (upd (S.2.1 13) d (nI q))) 14 (pts (S.2.1 14) (32 * d) (byH (S.2.1 8)) k)) H locs := w
        refine wb_iast (k := (32 * d) + k) (f := pts (S.2.1 14) (32 * d) (byH (S.2.1 8)) k) hx hbc w 14 (by decide) rfl 0 rfl rfl (by omega) (by decide) rfl rfl dX8_keepDigest_49 (fun H locs w => ?_)
        refine lv_iinc (v := nI (k + 1)) (lv' := [(2, .int (nI (k + 1))), (0, .ref (ad (0))), (1, .int (x))]) hx hbc dX8_keepDigest_50 hl (k := 2) rfl (ni_inc _ _) (by decide) rfl (fun ls hl => ?_)
        refine lv_goto (tgt := 25) hx hbc dX8_keepDigest_53 (by decide) ?_
        exact ih_25 (k + 1) _ _ _ (by omega) (by omega) (WB_cast w (by rw [sB_sB]; rfl)) (lv_sub hl [1, 2, 0] rfl)
  exact lp_25 33 0 _ _ _ (by omega) (by omega) (WB_cast w (sB_beg _ _ _ rfl)) (lv_sub hl [1, 2, 0] rfl)
