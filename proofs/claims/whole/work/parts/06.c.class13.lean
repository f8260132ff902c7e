set_option maxHeartbeats 1000000 in
set_option maxRecDepth 100000 in
theorem k_D_feed (l : Launch) (D : va_G) (cy : Nat → ClassId) (ad al : Nat → Nat) (S : wS) (n : Int32) (v : Int64) (t : Nat) (ht : S.1 58 1 = nI t) (ht2 : t ≤ 200) : CtI l yX7_feed (Cond.code yX7_feed cX7_feed 5 (some .int) :: wsG) 0 0 [.ref (ad (57)), .int (n), .long (v)] D (tyC cy) 322 cy ad skD (EC al) (S) (fun r S' => (oo1 n 8 ∧ r = (-102) ∧ S' = S) ∨ (∃ k, k < 8 ∧ n = nI (k + 1) ∧ 200 < t + (k + 1) ∧ r = (-103) ∧ S' = S) ∨ (∃ k, k < 8 ∧ n = nI (k + 1) ∧ t + (k + 1) ≤ 200 ∧ r = nI (t + (k + 1)) ∧ S' = sI (sB S 59 (pts (S.2.1 59) t (fdS v k) ((k + 1)))) 58 1 (nI (t + (k + 1))))) := by
  refine CtI_of (by decide) (Nat.le_of_ble_eq_true rfl) ?_
  intro p e s m args below meth c A ls R Q hB hRf hRl hend
  obtain ⟨hx, hbc, hr, hg, hown, hml, hlk, w, hE, hl⟩ := hB
  have hl : lv_has ls 5 [(0, .ref (ad (57))), (1, .int (n)), (2, .long (v))] := hl
  refine lv_iload_n hx hbc dX7_feed_0 rfl (lv_at hl 1 rfl) ?_
  refine lv_iconst (v := nI (1)) hx hbc dX7_feed_1 (by decide) ?_
  refine lv_icmp_lt (tgt := 11) hx hbc dX7_feed_2 (by decide) (fun c_2 => ?_) (fun c_2 => ?_)
  · refine lv_bipush (v := (-102)) hx hbc dX7_feed_11 (by decide) ?_
    exact hend _ _ _ _ _ _ (Or.inl ⟨oo1_n c_2 (by decide), rfl, rfl⟩) rfl w dX7_feed_13
  · refine lv_iload_n hx hbc dX7_feed_5 rfl (lv_at hl 1 rfl) ?_
    refine lv_bipush (v := nI (8)) hx hbc dX7_feed_6 (by decide) ?_
    refine lv_icmp_le (tgt := 14) hx hbc dX7_feed_8 (by decide) (fun c_8 => ?_) (fun c_8 => ?_)
    · obtain ⟨k, hk, rfl⟩ := rg_1 c_2 c_8 (by decide)
      refine lv_iload_n hx hbc dX7_feed_14 rfl (lv_at hl 1 rfl) ?_
      refine lv_sipush (v := nI (200)) hx hbc dX7_feed_15 (by decide) ?_
      refine lv_aload_n hx hbc dX7_feed_18 rfl (lv_at hl 0 rfl) ?_
      refine wb_gr (t := 58) hx hbc hg hown w inG_X7 57 (by decide) rfl rfl 0 (by decide) rfl wk_205 dX7_feed_19 ?_
      refine wb_gi (v := nI (t)) hx hbc hg hown w inG_X0 58 (by decide) rfl rfl 1 (by decide) rfl wk_38 ht dX7_feed_22 ?_
      refine n_isub (by omega) hx hbc dX7_feed_25 ?_
      refine n_cmp_le (tgt := 32) (by omega) (by omega) hx hbc dX7_feed_26 (by decide) (fun c_26 => ?_) (fun c_26 => ?_)
      · refine lv_iload_n hx hbc dX7_feed_32 rfl (lv_at hl 1 rfl) ?_
        refine lv_iconst (v := nI (1)) hx hbc dX7_feed_33 (by decide) ?_
        refine n_isub (by omega) hx hbc dX7_feed_34 ?_
        refine lv_istore (lv' := [(4, .int (nI ((k + 1) - 1))), (0, .ref (ad (57))), (1, .int (nI (k + 1))), (2, .long (v))]) hx hbc dX7_feed_35 hl (by decide) rfl (fun ls hl => ?_)
        have lp_37 : ∀ (fu : Nat) (j : Nat) (H : Heap) (locs : List Loc) (ls : Array Slot), (j + fu = k + 1) → WB D (tyC cy) 322 cy ad skD A s (sI (sB S 59 (pts (S.2.1 59) t (fdS v k) j)) 58 1 (nI (t + j))) H locs → lv_has ls 5 [(0, .ref (ad (57))), (2, .long (v)), (4, .int (dn fu))] → W p l e R s m args below meth c H locs 0 0 Q (F0 m 37 ls []) := by
          intro fu
          induction fu with
          | zero =>
            intro j H locs ls h1 w hl
            obtain rfl : j = k + 1 := by omega
            have hl : lv_has ls 5 [(0, .ref (ad (57))), (2, .long (v)), (4, .int ((-1)))] := hl
            refine lv_iload hx hbc dX7_feed_37 (lv_at hl 2 rfl) ?_
            refine lv_if_lt (tgt := 85) hx hbc dX7_feed_39 (by decide) (fun c_39 => ?_) (fun c_39 => ?_)
            · refine lv_aload_n hx hbc dX7_feed_85 rfl (lv_at hl 0 rfl) ?_
              refine wb_gr (t := 58) hx hbc hg hown w inG_X7 57 (by decide) rfl rfl 0 (by decide) rfl wk_205 dX7_feed_86 ?_
              refine wb_gi (v := nI (t + (k + 1))) hx hbc hg hown w inG_X0 58 (by decide) rfl rfl 1 (by decide) rfl wk_38 rfl dX7_feed_89 ?_
              exact hend _ _ _ _ _ _ (Or.inr (Or.inr ⟨k, hk, rfl, (by omega), rfl, rfl⟩)) rfl w dX7_feed_92
            · exact absurd c_39 (by decide)
          | succ fu ih_37 =>
            intro j H locs ls h1 w hl
            have hl : lv_has ls 5 [(0, .ref (ad (57))), (2, .long (v)), (4, .int (nI (fu)))] := hl
            refine lv_iload hx hbc dX7_feed_37 (lv_at hl 2 rfl) ?_
            refine lv_if_lt (tgt := 85) hx hbc dX7_feed_39 (by decide) (fun c_39 => ?_) (fun c_39 => ?_)
            · exact absurd c_39 (nI_pos (by omega))
            · refine lv_aload_n hx hbc dX7_feed_42 rfl (lv_at hl 0 rfl) ?_
              refine wb_gr (t := 58) hx hbc hg hown w inG_X7 57 (by decide) rfl rfl 0 (by decide) rfl wk_205 dX7_feed_43 ?_
              refine wb_gr (t := 59) hx hbc hg hown w inG_X0 58 (by decide) rfl rfl 0 (by decide) rfl wk_35 dX7_feed_46 ?_
              refine lv_aload_n hx hbc dX7_feed_49 rfl (lv_at hl 0 rfl) ?_
              refine wb_gr (t := 58) hx hbc hg hown w inG_X7 57 (by decide) rfl rfl 0 (by decide) rfl wk_205 dX7_feed_50 ?_
              refine wb_gi (v := nI (t + j)) hx hbc hg hown w inG_X0 58 (by decide) rfl rfl 1 (by decide) rfl wk_38 rfl dX7_feed_53 ?_
              refine lv_lload_n hx hbc dX7_feed_56 rfl (lv_at hl 1 rfl) ?_
              refine lv_bipush (v := nI (8)) hx hbc dX7_feed_57 (by decide) ?_
              refine lv_iload hx hbc dX7_feed_59 (lv_at hl 2 rfl) ?_
              refine n_imul hx hbc dX7_feed_61 ?_
              refine lv_lushr hx hbc dX7_feed_62 rfl ?_
              refine lv_l2i hx hbc dX7_feed_63 rfl ?_
              refine lv_i2b hx hbc dX7_feed_64 rfl ?_
              refine wb_bast (k := t + j) (z := (((v.toUInt64 >>> ((nI (8 * fu)).toInt64.toUInt64 &&& Int64.toUInt64 63)).toInt64).toInt32).toInt8.toInt32) (f := pts (S.2.1 59) t (fdS v k) j) hx hbc w 59 (by decide) rfl 1 rfl rfl (by omega) (by decide) rfl (i8i8 _) rfl dX7_feed_65 (fun H locs w => ?_)
              refine lv_aload_n hx hbc dX7_feed_66 rfl (lv_at hl 0 rfl) ?_
              refine wb_gr (t := 58) hx hbc hg hown w inG_X7 57 (by decide) rfl rfl 0 (by decide) rfl wk_205 dX7_feed_67 ?_
              refine lv_dup hx hbc dX7_feed_70 rfl ?_
              refine wb_gi (v := nI (t + j)) hx hbc hg hown w inG_X0 58 (by decide) rfl rfl 1 (by decide) rfl wk_38 rfl dX7_feed_71 ?_
              refine lv_iconst (v := nI (1)) hx hbc dX7_feed_74 (by decide) ?_
              refine n_iadd hx hbc dX7_feed_75 ?_
              refine wb_pi (v := nI ((t + j) + 1)) hx hbc hg hown w inG_X0 tyX0 tyX0_ok nmX0 58 (by decide) rfl rfl 1 (by decide) rfl wk_38 rfl rfl rfl rfl dX7_feed_76 (fun H locs w => ?_)
              refine lv_iinc (v := dn fu) (lv' := [(4, .int (dn fu)), (0, .ref (ad (57))), (2, .long (v))]) hx hbc dX7_feed_79 hl (k := 2) rfl (dn_dec _) (by decide) rfl (fun ls hl => ?_)
              refine lv_goto (tgt := 37) hx hbc dX7_feed_82 (by decide) ?_
              exact ih_37 (j + 1) _ _ _ (by omega) (WB_cast w (by rw [sIB]; have e9 : fu = k - j := (by omega); subst e9; rfl)) (lv_sub hl [1, 2, 0] rfl)
        exact lp_37 (k + 1) 0 _ _ _ (by omega) (WB_cast w (sIB_beg _ 59 _ 58 1 _ rfl ht)) (lv_sub hl [1, 3, 0] rfl)
      · refine lv_bipush (v := (-103)) hx hbc dX7_feed_29 (by decide) ?_
        exact hend _ _ _ _ _ _ (Or.inr (Or.inl ⟨k, hk, rfl, (by omega), rfl, rfl⟩)) rfl w dX7_feed_31
    · refine lv_bipush (v := (-102)) hx hbc dX7_feed_11 (by decide) ?_
      exact hend _ _ _ _ _ _ (Or.inl ⟨oo1_g c_8 (by decide), rfl, rfl⟩) rfl w dX7_feed_13
set_option maxHeartbeats 1000000 in
set_option maxRecDepth 100000 in
theorem k_D_key (l : Launch) (D : va_G) (cy : Nat → ClassId) (ad al : Nat → Nat) (S : wS) (t : Nat) (ht : S.1 58 1 = nI t) (ht2 : t ≤ 200) (hfit : ∀ i, fits .byte (.int (S.2.1 59 i)) = true) : CtI l yX7_key (Cond.code yX7_key cX7_key 1 (some .int) :: wsG) 1 26 [.ref (ad (57))] D (tyC cy) 322 cy ad skD (EC al) (S) (fun r S' => r = nI t ∧ S' = sI (sI (sB S 61 (va_cpy (S.2.1 59) (S.2.1 61) 0 0 t)) 60 1 (nI t)) 58 1 (nI 0)) := by
  refine CtI_of (by decide) (Nat.le_of_ble_eq_true rfl) ?_
  intro p e s m args below meth c A ls R Q hB hRf hRl hend
  obtain ⟨hx, hbc, hr, hg, hown, hml, hlk, w, hE, hl⟩ := hB
  have hl : lv_has ls 1 [(0, .ref (ad (57)))] := hl
  refine lv_aload_n hx hbc dX7_key_0 rfl (lv_at hl 0 rfl) ?_
  refine wb_gr (t := 58) hx hbc hg hown w inG_X7 57 (by decide) rfl rfl 0 (by decide) rfl wk_205 dX7_key_1 ?_
  refine wb_gr (t := 59) hx hbc hg hown w inG_X0 58 (by decide) rfl rfl 0 (by decide) rfl wk_35 dX7_key_4 ?_
  refine lv_iconst (v := nI (0)) hx hbc dX7_key_7 (by decide) ?_
  refine lv_aload_n hx hbc dX7_key_8 rfl (lv_at hl 0 rfl) ?_
  refine wb_gr (t := 60) hx hbc hg hown w inG_X7 57 (by decide) rfl rfl 1 (by decide) rfl wk_206 dX7_key_9 ?_
  refine wb_gr (t := 61) hx hbc hg hown w inG_X0 60 (by decide) rfl rfl 0 (by decide) rfl wk_35 dX7_key_12 ?_
  refine lv_iconst (v := nI (0)) hx hbc dX7_key_15 (by decide) ?_
  refine lv_aload_n hx hbc dX7_key_16 rfl (lv_at hl 0 rfl) ?_
  refine wb_gr (t := 58) hx hbc hg hown w inG_X7 57 (by decide) rfl rfl 0 (by decide) rfl wk_205 dX7_key_17 ?_
  refine wb_gi (v := nI (t)) hx hbc hg hown w inG_X0 58 (by decide) rfl rfl 1 (by decide) rfl wk_38 ht dX7_key_20 ?_
  refine wb_cpi (ty := .byte) (f := S.2.1 61) (f0 := S.2.1 59) hx hbc (hml.trans hl.1.symm) hg hown wk_244 wk_246 wk_245 wk_10 w 59 (by decide) rfl 61 (by decide) rfl (by decide) 1 rfl rfl (by omega) (by omega) (by decide) (by decide) rfl rfl (fun i _ => hfit _) (by rw [hRf]; decide) (by rw [hRl]; exact Nat.le_of_ble_eq_true rfl) dX7_key_23 (fun H locs w => ?_)
  refine lv_aload_n hx hbc dX7_key_26 rfl (lv_at hl 0 rfl) ?_
  refine wb_gr (t := 60) hx hbc hg hown w inG_X7 57 (by decide) rfl rfl 1 (by decide) rfl wk_206 dX7_key_27 ?_
  refine lv_aload_n hx hbc dX7_key_30 rfl (lv_at hl 0 rfl) ?_
  refine wb_gr (t := 58) hx hbc hg hown w inG_X7 57 (by decide) rfl rfl 0 (by decide) rfl wk_205 dX7_key_31 ?_
  refine wb_gi (v := nI (t)) hx hbc hg hown w inG_X0 58 (by decide) rfl rfl 1 (by decide) rfl wk_38 ht dX7_key_34 ?_
  refine wb_pi (v := nI (t)) hx hbc hg hown w inG_X0 tyX0 tyX0_ok nmX0 60 (by decide) rfl rfl 1 (by decide) rfl wk_38 rfl rfl rfl rfl dX7_key_37 (fun H locs w => ?_)
  refine lv_aload_n hx hbc dX7_key_40 rfl (lv_at hl 0 rfl) ?_
  refine wb_gr (t := 58) hx hbc hg hown w inG_X7 57 (by decide) rfl rfl 0 (by decide) rfl wk_205 dX7_key_41 ?_
  refine lv_iconst (v := nI (0)) hx hbc dX7_key_44 (by decide) ?_
  refine wb_pi (v := nI (0)) hx hbc hg hown w inG_X0 tyX0 tyX0_ok nmX0 58 (by decide) rfl rfl 1 (by decide) rfl wk_38 rfl rfl rfl rfl dX7_key_45 (fun H locs w => ?_)
  refine lv_aload_n hx hbc dX7_key_48 rfl (lv_at hl 0 rfl) ?_
  refine wb_gr (t := 60) hx hbc hg hown w inG_X7 57 (by decide) rfl rfl 1 (by decide) rfl wk_206 dX7_key_49 ?_
  refine wb_gi (v := nI (t)) hx hbc hg hown w inG_X0 60 (by decide) rfl rfl 1 (by decide) rfl wk_38 rfl dX7_key_52 ?_
  exact hend _ _ _ _ _ _ ⟨rfl, rfl⟩ rfl w dX7_key_55
set_option maxHeartbeats 1000000 in
set_option maxRecDepth 100000 in
theorem k_D_isLeaf (l : Launch) (D : va_G) (cy : Nat → ClassId) (ad al : Nat → Nat) (S : wS) (x : Int32) (t : Nat) (ht : S.1 58 1 = nI t) (ht2 : t ≤ 200) : CtI l yX7_isLeaf (Cond.code yX7_isLeaf cX7_isLeaf 2 (some .boolean) :: wsG) 0 0 [.ref (ad (57)), .int (x)] D (tyC cy) 322 cy ad skD (EC al) (S) (fun r S' => (r = nI 1 ∧ (∃ k, k < 8 ∧ x = nI k) ∧ t ≤ 40 ∧ S' = S) ∨ (r = nI 0 ∧ (oor x 8 ∨ 40 < t) ∧ S' = S)) := by
  refine CtI_of (by decide) (Nat.le_of_ble_eq_true rfl) ?_
  intro p e s m args below meth c A ls R Q hB hRf hRl hend
  obtain ⟨hx, hbc, hr, hg, hown, hml, hlk, w, hE, hl⟩ := hB
  have hl : lv_has ls 2 [(0, .ref (ad (57))), (1, .int (x))] := hl
  refine lv_iload_n hx hbc dX7_isLeaf_0 rfl (lv_at hl 1 rfl) ?_
  refine lv_if_lt (tgt := 26) hx hbc dX7_isLeaf_1 (by decide) (fun c_1 => ?_) (fun c_1 => ?_)
  · refine lv_iconst (v := nI (0)) hx hbc dX7_isLeaf_26 (by decide) ?_
    exact hend _ _ _ _ _ _ (Or.inr ⟨rfl, Or.inl (oor_n c_1 (by decide)), rfl⟩) (by decide) w dX7_isLeaf_27
  · refine lv_iload_n hx hbc dX7_isLeaf_4 rfl (lv_at hl 1 rfl) ?_
    refine lv_bipush (v := nI (8)) hx hbc dX7_isLeaf_5 (by decide) ?_
    refine lv_icmp_ge (tgt := 26) hx hbc dX7_isLeaf_7 (by decide) (fun c_7 => ?_) (fun c_7 => ?_)
    · refine lv_iconst (v := nI (0)) hx hbc dX7_isLeaf_26 (by decide) ?_
      exact hend _ _ _ _ _ _ (Or.inr ⟨rfl, Or.inl (oor_g (Int32.not_lt.mpr c_7) (by decide)), rfl⟩) (by decide) w dX7_isLeaf_27
    · refine lv_aload_n hx hbc dX7_isLeaf_10 rfl (lv_at hl 0 rfl) ?_
      refine wb_gr (t := 58) hx hbc hg hown w inG_X7 57 (by decide) rfl rfl 0 (by decide) rfl wk_205 dX7_isLeaf_11 ?_
      refine wb_gi (v := nI (t)) hx hbc hg hown w inG_X0 58 (by decide) rfl rfl 1 (by decide) rfl wk_38 ht dX7_isLeaf_14 ?_
      refine lv_bipush (v := nI (40)) hx hbc dX7_isLeaf_17 (by decide) ?_
      refine n_cmp_gt (tgt := 26) (by omega) (by omega) hx hbc dX7_isLeaf_19 (by decide) (fun c_19 => ?_) (fun c_19 => ?_)
      · refine lv_iconst (v := nI (0)) hx hbc dX7_isLeaf_26 (by decide) ?_
        exact hend _ _ _ _ _ _ (Or.inr ⟨rfl, Or.inr (by omega), rfl⟩) (by decide) w dX7_isLeaf_27
      · refine lv_iconst (v := nI (1)) hx hbc dX7_isLeaf_22 (by decide) ?_
        refine lv_goto (tgt := 27) hx hbc dX7_isLeaf_23 (by decide) ?_
        exact hend _ _ _ _ _ _ (Or.inl ⟨rfl, rg_in c_1 (Int32.not_le.mp c_7) (by decide), (by omega), rfl⟩) (by decide) w dX7_isLeaf_27
set_option maxHeartbeats 1000000 in
set_option maxRecDepth 100000 in
theorem k_D_told (l : Launch) (D : va_G) (cy : Nat → ClassId) (ad al : Nat → Nat) (S : wS) (g x : Int32) (d : Nat) (hd : S.1 31 5 = nI d) (hd2 : d ≤ 60) : CtI l yX7_told (Cond.code yX7_told cX7_told 3 (some .int) :: wsG) 1 21 [.ref (ad (57)), .int (g), .int (x)] D (tyC cy) 322 cy ad skD (EC al) (S) (fun r S' => (oor g d ∧ r = (-101) ∧ S' = S) ∨ (∃ e, e < d ∧ g = nI e ∧ x = nI 0 ∧ r = S.2.1 34 e ∧ S' = S) ∨ (∃ e, e < d ∧ g = nI e ∧ x = nI 1 ∧ r = nI (l32 (S.2.1 34 e)) ∧ S' = S) ∨ (∃ e, e < d ∧ g = nI e ∧ x = nI 2 ∧ r = S.2.1 35 e ∧ S' = S) ∨ (∃ e, e < d ∧ g = nI e ∧ (x.toInt < 0 ∨ (2 : Int) < x.toInt) ∧ r = (-102) ∧ S' = S)) := by
  refine CtI_of (by decide) (Nat.le_of_ble_eq_true rfl) ?_
  intro p e s m args below meth c A ls R Q hB hRf hRl hend
  obtain ⟨hx, hbc, hr, hg, hown, hml, hlk, w, hE, hl⟩ := hB
  have hl : lv_has ls 3 [(0, .ref (ad (57))), (1, .int (g)), (2, .int (x))] := hl
  refine lv_aload_n hx hbc dX7_told_0 rfl (lv_at hl 0 rfl) ?_
  refine wb_gr (t := 31) hx hbc hg hown w inG_X7 57 (by decide) rfl rfl 5 (by decide) rfl wk_210 dX7_told_1 ?_
  refine lv_iload_n hx hbc dX7_told_4 rfl (lv_at hl 1 rfl) ?_
  refine wc_Vi (na := 1) (f := (fun z9 => z9 + 31)) (As := [.int (g)]) (rest := []) hx hbc hml hg hown w (EC_ok al) hE (w.1.sub (tys' := tyM cy) [0, 1, 2] rfl) lie_sh.A 31 (by decide) rfl rfl (k_shas l D cy (fun z9 => ad (z9 + 31)) al (pul S (fun z9 => z9 + 31)) g d hd) wk_356 wk_5 wk_353 wk_354 wk_355 ⟨by decide, by decide, by decide⟩ ⟨by rw [hRf]; decide, by rw [hRl]; decide⟩ rfl hl.1 rfl (Nat.le_of_ble_eq_true rfl) dX7_told_5 ⟨Nat.zero_le _, Nat.zero_le _⟩ (fun r S9 hp H locs w => ?_)
  obtain ⟨hr9, hp⟩ := hp
  subst hr9
  subst hp
  have w : WB D (tyC cy) 322 cy ad skD A s (S) H locs := w _ lie_sh.id
  refine lv_if_ne (tgt := 14) hx hbc dX7_told_8 (by decide) (fun c_8 => ?_) (fun c_8 => ?_)
  · obtain ⟨e9, he9, rfl⟩ := hsF_nz c_8 (by omega)
    refine lv_iload_n hx hbc dX7_told_14 rfl (lv_at hl 2 rfl) ?_
    rcases sw_in x 2 (by decide) with ⟨k9, hk9, rfl⟩ | hsw
    · rcases (show k9 = 0 ∨ k9 = 1 ∨ k9 = 2 by omega) with rfl | rfl | rfl
      · skip
        refine lv_tableIn (tgt := 40) hx hbc dX7_told_15 (by decide) (by decide) rfl (by decide) ?_
        refine lv_aload_n hx hbc dX7_told_40 rfl (lv_at hl 0 rfl) ?_
        refine wb_gr (t := 31) hx hbc hg hown w inG_X7 57 (by decide) rfl rfl 5 (by decide) rfl wk_210 dX7_told_41 ?_
        refine wb_gr (t := 34) hx hbc hg hown w inG_X4 31 (by decide) rfl rfl 2 (by decide) rfl wk_117 dX7_told_44 ?_
        refine lv_iload_n hx hbc dX7_told_47 rfl (lv_at hl 1 rfl) ?_
        refine wb_iald (k := e9) (v := (S.2.1 34) e9) hx hbc w 34 (by decide) rfl 0 rfl rfl (by omega) (by decide) rfl dX7_told_48 ?_
        exact hend _ _ _ _ _ _ (Or.inr (Or.inl ⟨e9, he9, rfl, rfl, rfl, rfl⟩)) rfl w dX7_told_49
      · skip
        refine lv_tableIn (tgt := 50) hx hbc dX7_told_15 (by decide) (by decide) rfl (by decide) ?_
        refine lv_aload_n hx hbc dX7_told_50 rfl (lv_at hl 0 rfl) ?_
        refine wb_gr (t := 31) hx hbc hg hown w inG_X7 57 (by decide) rfl rfl 5 (by decide) rfl wk_210 dX7_told_51 ?_
        refine wb_gr (t := 34) hx hbc hg hown w inG_X4 31 (by decide) rfl rfl 2 (by decide) rfl wk_117 dX7_told_54 ?_
        refine lv_iload_n hx hbc dX7_told_57 rfl (lv_at hl 1 rfl) ?_
        refine wb_iald (k := e9) (v := (S.2.1 34) e9) hx hbc w 34 (by decide) rfl 0 rfl rfl (by omega) (by decide) rfl dX7_told_58 ?_
        refine wb_Si (na := 1) (As := [.int ((S.2.1 34) e9)]) (rest := []) hx hbc hml hg hown w E0_ok trivial (w.1.sub (tys' := tyM cy) [0, 1, 2] rfl) Sub.none (k_bytesOf l D cy ad al (S) ((S.2.1 34) e9)) wk_331 wk_1 wk_357 wk_330 ⟨by decide, by decide, by decide⟩ ⟨by rw [hRf]; decide, by rw [hRl]; decide⟩ rfl hl.1 rfl (Nat.le_of_ble_eq_true rfl) dX7_told_59 ⟨Nat.zero_le _, Nat.zero_le _⟩ (fun r S9 H locs hp w => ?_)
        subst hp
        have hl32_0 := l32_in ((S.2.1 34) e9)
        exact hend _ _ _ _ _ _ (Or.inr (Or.inr (Or.inl ⟨e9, he9, rfl, rfl, rfl, rfl⟩))) rfl w dX7_told_62
      · skip
        refine lv_tableIn (tgt := 63) hx hbc dX7_told_15 (by decide) (by decide) rfl (by decide) ?_
        refine lv_aload_n hx hbc dX7_told_63 rfl (lv_at hl 0 rfl) ?_
        refine wb_gr (t := 31) hx hbc hg hown w inG_X7 57 (by decide) rfl rfl 5 (by decide) rfl wk_210 dX7_told_64 ?_
        refine wb_gr (t := 35) hx hbc hg hown w inG_X4 31 (by decide) rfl rfl 3 (by decide) rfl wk_119 dX7_told_67 ?_
        refine lv_iload_n hx hbc dX7_told_70 rfl (lv_at hl 1 rfl) ?_
        refine wb_iald (k := e9) (v := (S.2.1 35) e9) hx hbc w 35 (by decide) rfl 0 rfl rfl (by omega) (by decide) rfl dX7_told_71 ?_
        exact hend _ _ _ _ _ _ (Or.inr (Or.inr (Or.inr (Or.inl ⟨e9, he9, rfl, rfl, rfl, rfl⟩)))) rfl w dX7_told_72
    · skip
      refine lv_tableOut (tgt := 73) hx hbc dX7_told_15 hsw (by decide) ?_
      refine lv_bipush (v := (-102)) hx hbc dX7_told_73 (by decide) ?_
      exact hend _ _ _ _ _ _ (Or.inr (Or.inr (Or.inr (Or.inr ⟨e9, he9, rfl, hsw, rfl, rfl⟩)))) rfl w dX7_told_75
  · refine lv_bipush (v := (-101)) hx hbc dX7_told_11 (by decide) ?_
    exact hend _ _ _ _ _ _ (Or.inl ⟨hsF_oor c_8 (by omega), rfl, rfl⟩) rfl w dX7_told_13
set_option maxHeartbeats 1000000 in
set_option maxRecDepth 100000 in
theorem k_alikeS (l : Launch) (D : va_G) (cy : Nat → ClassId) (ad al : Nat → Nat) (S : wS) (len n : Nat) (hlen : len < 2 ^ 31) (hn : n ≤ len) : CtI l yX7_alike (Cond.code yX7_alike cX7_alike 4 (some .boolean) :: wsG) 0 0 [.ref (ad (0)), .ref (ad (0)), .int (nI (n))] D (tyM cy) 1 cy ad (skB len) (EC al) (S) (fun r S' => r = nI 1 ∧ S' = S) := by
  refine CtI_of (by decide) (Nat.le_of_ble_eq_true rfl) ?_
  intro p e s m args below meth c A ls R Q hB hRf hRl hend
  obtain ⟨hx, hbc, hr, hg, hown, hml, hlk, w, hE, hl⟩ := hB
  have hl : lv_has ls 4 [(0, .ref (ad (0))), (1, .ref (ad (0))), (2, .int (nI (n)))] := hl
  refine lv_iconst (v := nI (0)) hx hbc dX7_alike_0 (by decide) ?_
  refine lv_istore_n (lv' := [(3, .int (nI (0))), (0, .ref (ad (0))), (1, .ref (ad (0))), (2, .int (nI (n)))]) hx hbc dX7_alike_1 rfl hl (by decide) rfl (fun ls hl => ?_)
  have lp_2 : ∀ (fu : Nat) (k : Nat) (H : Heap) (locs : List Loc) (ls : Array Slot), (n < k + fu) → (k ≤ n) → WB D (tyM cy) 1 cy ad (skB len) A s (S) H locs → lv_has ls 4 [(0, .ref (ad (0))), (1, .ref (ad (0))), (2, .int (nI (n))), (3, .int (nI (k)))] → W p l e R s m args below meth c H locs 0 0 Q (F0 m 2 ls []) := by
    intro fu
    induction fu with
    | zero =>
      intro k H locs ls h1 h2 w hl
      exact absurd h1 (by omega)
    | succ fu ih_2 =>
      intro k H locs ls h1 h2 w hl
      refine lv_iload_n hx hbc dX7_alike_2 rfl (lv_at hl 3 rfl) ?_
      refine lv_iload_n hx hbc dX7_alike_3 rfl (lv_at hl 2 rfl) ?_
      refine n_cmp_ge (tgt := 24) (by omega) (by omega) hx hbc dX7_alike_4 (by decide) (fun c_4 => ?_) (fun c_4 => ?_)
      · refine lv_iconst (v := nI (1)) hx hbc dX7_alike_24 (by decide) ?_
        exact hend _ _ _ _ _ _ ⟨rfl, rfl⟩ (by decide) w dX7_alike_25
      · refine lv_aload_n hx hbc dX7_alike_7 rfl (lv_at hl 0 rfl) ?_
        refine lv_iload_n hx hbc dX7_alike_8 rfl (lv_at hl 3 rfl) ?_
        refine wb_bald (k := k) (v := (S.2.1 0) k) hx hbc w 0 (by decide) rfl 1 rfl rfl (by omega) hlen rfl dX7_alike_9 ?_
        refine lv_aload_n hx hbc dX7_alike_10 rfl (lv_at hl 1 rfl) ?_
        refine lv_iload_n hx hbc dX7_alike_11 rfl (lv_at hl 3 rfl) ?_
        refine wb_bald (k := k) (v := (S.2.1 0) k) hx hbc w 0 (by decide) rfl 1 rfl rfl (by omega) hlen rfl dX7_alike_12 ?_
        refine lv_icmp_eq (tgt := 18) hx hbc dX7_alike_13 (by decide) (fun c_13 => ?_) (fun c_13 => ?_)
        · refine lv_iinc (v := nI (k + 1)) (lv' := [(3, .int (nI (k + 1))), (0, .ref (ad (0))), (1, .ref (ad (0))), (2, .int (nI (n)))]) hx hbc dX7_alike_18 hl (k := 3) rfl (ni_inc _ _) (by decide) rfl (fun ls hl => ?_)
          refine lv_goto (tgt := 2) hx hbc dX7_alike_21 (by decide) ?_
          exact ih_2 (k + 1) _ _ _ (by omega) (by omega) w (lv_sub hl [1, 2, 3, 0] rfl)
        · exact absurd rfl c_13
  exact lp_2 (n + 1) 0 _ _ _ (by omega) (by omega) w (lv_sub hl [1, 2, 3, 0] rfl)
set_option maxHeartbeats 1000000 in
set_option maxRecDepth 100000 in
theorem k_D_same (l : Launch) (D : va_G) (cy : Nat → ClassId) (ad al : Nat → Nat) (S : wS) (ga gb : Int32) (d : Nat) (hd : S.1 31 5 = nI d) (hd2 : d ≤ 60) : CtI l yX7_same (Cond.code yX7_same cX7_same 4 (some .int) :: wsG) 1 23 [.ref (ad (57)), .int (ga), .int (gb)] D (tyC cy) 322 cy ad skD (EC al) (S) (fun r S' => ((oor ga d ∨ oor gb d) ∧ r = (-101) ∧ S' = S) ∨ (∃ a b, a < d ∧ b < d ∧ ga = nI a ∧ gb = nI b ∧ (¬ l32 (S.2.1 34 a) = l32 (S.2.1 34 b) ∨ ∃ q, q < l32 (S.2.1 34 a) ∧ ¬ S.2.1 (62 + a) q = S.2.1 (62 + b) q) ∧ r = nI 0 ∧ S' = S) ∨ (∃ a b, a < d ∧ b < d ∧ ga = nI a ∧ gb = nI b ∧ l32 (S.2.1 34 a) = l32 (S.2.1 34 b) ∧ (∀ q, q < l32 (S.2.1 34 a) → S.2.1 (62 + a) q = S.2.1 (62 + b) q) ∧ r = nI 1 ∧ S' = S)) := by
  refine CtI_of (by decide) (Nat.le_of_ble_eq_true rfl) ?_
  intro p e s m args below meth c A ls R Q hB hRf hRl hend
  obtain ⟨hx, hbc, hr, hg, hown, hml, hlk, w, hE, hl⟩ := hB
  have hl : lv_has ls 4 [(0, .ref (ad (57))), (1, .int (ga)), (2, .int (gb))] := hl
  refine lv_aload_n hx hbc dX7_same_0 rfl (lv_at hl 0 rfl) ?_
  refine wb_gr (t := 31) hx hbc hg hown w inG_X7 57 (by decide) rfl rfl 5 (by decide) rfl wk_210 dX7_same_1 ?_
  refine lv_iload_n hx hbc dX7_same_4 rfl (lv_at hl 1 rfl) ?_
  refine wc_Vi (na := 1) (f := (fun z9 => z9 + 31)) (As := [.int (ga)]) (rest := []) hx hbc hml hg hown w (EC_ok al) hE (w.1.sub (tys' := tyM cy) [0, 1, 2] rfl) lie_sh.A 31 (by decide) rfl rfl (k_shas l D cy (fun z9 => ad (z9 + 31)) al (pul S (fun z9 => z9 + 31)) ga d hd) wk_356 wk_5 wk_353 wk_354 wk_355 ⟨by decide, by decide, by decide⟩ ⟨by rw [hRf]; decide, by rw [hRl]; decide⟩ rfl hl.1 rfl (Nat.le_of_ble_eq_true rfl) dX7_same_5 ⟨Nat.zero_le _, Nat.zero_le _⟩ (fun r S9 hp H locs w => ?_)
  obtain ⟨hr9, hp⟩ := hp
  subst hr9
  subst hp
  have w : WB D (tyC cy) 322 cy ad skD A s (S) H locs := w _ lie_sh.id
  refine lv_if_eq (tgt := 22) hx hbc dX7_same_8 (by decide) (fun c_8 => ?_) (fun c_8 => ?_)
  · refine lv_bipush (v := (-101)) hx hbc dX7_same_22 (by decide) ?_
    exact hend _ _ _ _ _ _ (Or.inl ⟨Or.inl (hsF_oor c_8 (by omega)), rfl, rfl⟩) rfl w dX7_same_24
  · obtain ⟨e9, he9, rfl⟩ := hsF_nz c_8 (by omega)
    refine lv_aload_n hx hbc dX7_same_11 rfl (lv_at hl 0 rfl) ?_
    refine wb_gr (t := 31) hx hbc hg hown w inG_X7 57 (by decide) rfl rfl 5 (by decide) rfl wk_210 dX7_same_12 ?_
    refine lv_iload_n hx hbc dX7_same_15 rfl (lv_at hl 2 rfl) ?_
    refine wc_Vi (na := 1) (f := (fun z9 => z9 + 31)) (As := [.int (gb)]) (rest := []) hx hbc hml hg hown w (EC_ok al) hE (w.1.sub (tys' := tyM cy) [0, 1, 2] rfl) lie_sh.A 31 (by decide) rfl rfl (k_shas l D cy (fun z9 => ad (z9 + 31)) al (pul S (fun z9 => z9 + 31)) gb d hd) wk_356 wk_5 wk_353 wk_354 wk_355 ⟨by decide, by decide, by decide⟩ ⟨by rw [hRf]; decide, by rw [hRl]; decide⟩ rfl hl.1 rfl (Nat.le_of_ble_eq_true rfl) dX7_same_16 ⟨Nat.zero_le _, Nat.zero_le _⟩ (fun r S9 hp H locs w => ?_)
    obtain ⟨hr9, hp⟩ := hp
    subst hr9
    subst hp
    have w : WB D (tyC cy) 322 cy ad skD A s (S) H locs := w _ lie_sh.id
    refine lv_if_ne (tgt := 25) hx hbc dX7_same_19 (by decide) (fun c_19 => ?_) (fun c_19 => ?_)
    · obtain ⟨e8, he8, rfl⟩ := hsF_nz c_19 (by omega)
      refine lv_aload_n hx hbc dX7_same_25 rfl (lv_at hl 0 rfl) ?_
      refine wb_gr (t := 31) hx hbc hg hown w inG_X7 57 (by decide) rfl rfl 5 (by decide) rfl wk_210 dX7_same_26 ?_
      refine wb_gr (t := 34) hx hbc hg hown w inG_X4 31 (by decide) rfl rfl 2 (by decide) rfl wk_117 dX7_same_29 ?_
      refine lv_iload_n hx hbc dX7_same_32 rfl (lv_at hl 1 rfl) ?_
      refine wb_iald (k := e9) (v := (S.2.1 34) e9) hx hbc w 34 (by decide) rfl 0 rfl rfl (by omega) (by decide) rfl dX7_same_33 ?_
      refine wb_Si (na := 1) (As := [.int ((S.2.1 34) e9)]) (rest := []) hx hbc hml hg hown w E0_ok trivial (w.1.sub (tys' := tyM cy) [0, 1, 2] rfl) Sub.none (k_bytesOf l D cy ad al (S) ((S.2.1 34) e9)) wk_331 wk_1 wk_357 wk_330 ⟨by decide, by decide, by decide⟩ ⟨by rw [hRf]; decide, by rw [hRl]; decide⟩ rfl hl.1 rfl (Nat.le_of_ble_eq_true rfl) dX7_same_34 ⟨Nat.zero_le _, Nat.zero_le _⟩ (fun r S9 H locs hp w => ?_)
      subst hp
      have hl32_0 := l32_in ((S.2.1 34) e9)
      refine lv_istore_n (lv' := [(3, .int (nI (l32 ((S.2.1 34) e9)))), (0, .ref (ad (57))), (1, .int (nI (e9))), (2, .int (nI (e8)))]) hx hbc dX7_same_37 rfl hl (by decide) rfl (fun ls hl => ?_)
      refine lv_iload_n hx hbc dX7_same_38 rfl (lv_at hl 0 rfl) ?_
      refine lv_aload_n hx hbc dX7_same_39 rfl (lv_at hl 1 rfl) ?_
      refine wb_gr (t := 31) hx hbc hg hown w inG_X7 57 (by decide) rfl rfl 5 (by decide) rfl wk_210 dX7_same_40 ?_
      refine wb_gr (t := 34) hx hbc hg hown w inG_X4 31 (by decide) rfl rfl 2 (by decide) rfl wk_117 dX7_same_43 ?_
      refine lv_iload_n hx hbc dX7_same_46 rfl (lv_at hl 3 rfl) ?_
      refine wb_iald (k := e8) (v := (S.2.1 34) e8) hx hbc w 34 (by decide) rfl 0 rfl rfl (by omega) (by decide) rfl dX7_same_47 ?_
      refine wb_Si (na := 1) (As := [.int ((S.2.1 34) e8)]) (rest := [.int (nI (l32 ((S.2.1 34) e9)))]) hx hbc hml hg hown w E0_ok trivial (w.1.sub (tys' := tyM cy) [0, 1, 2] rfl) Sub.none (k_bytesOf l D cy ad al (S) ((S.2.1 34) e8)) wk_331 wk_1 wk_357 wk_330 ⟨by decide, by decide, by decide⟩ ⟨by rw [hRf]; decide, by rw [hRl]; decide⟩ rfl hl.1 rfl (Nat.le_of_ble_eq_true rfl) dX7_same_48 ⟨Nat.zero_le _, Nat.zero_le _⟩ (fun r S9 H locs hp w => ?_)
      subst hp
      have hl32_0 := l32_in ((S.2.1 34) e8)
      refine n_cmp_eq (tgt := 56) (by omega) (by omega) hx hbc dX7_same_51 (by decide) (fun c_51 => ?_) (fun c_51 => ?_)
      · rcases (show e9 = e8 ∨ ¬ e9 = e8 by omega) with rfl | hne
        · skip
          refine lv_aload_n hx hbc dX7_same_56 rfl (lv_at hl 1 rfl) ?_
          refine wb_gr (t := 31) hx hbc hg hown w inG_X7 57 (by decide) rfl rfl 5 (by decide) rfl wk_210 dX7_same_57 ?_
          refine wb_gr (t := 32) hx hbc hg hown w inG_X4 31 (by decide) rfl rfl 0 (by decide) rfl wk_114 dX7_same_60 ?_
          refine lv_iload_n hx hbc dX7_same_63 rfl (lv_at hl 2 rfl) ?_
          refine wb_aaldA (k := e9) (t := 62 + e9) hx hbc w 32 (by decide) rfl (by decide) 5 rfl rfl (by omega) (by decide) rfl dX7_same_64 ?_
          refine lv_aload_n hx hbc dX7_same_65 rfl (lv_at hl 1 rfl) ?_
          refine wb_gr (t := 31) hx hbc hg hown w inG_X7 57 (by decide) rfl rfl 5 (by decide) rfl wk_210 dX7_same_66 ?_
          refine wb_gr (t := 32) hx hbc hg hown w inG_X4 31 (by decide) rfl rfl 0 (by decide) rfl wk_114 dX7_same_69 ?_
          refine lv_iload_n hx hbc dX7_same_72 rfl (lv_at hl 3 rfl) ?_
          refine wb_aaldA (k := e9) (t := 62 + e9) hx hbc w 32 (by decide) rfl (by decide) 5 rfl rfl (by omega) (by decide) rfl dX7_same_73 ?_
          refine lv_iload_n hx hbc dX7_same_74 rfl (lv_at hl 0 rfl) ?_
          have hli := lie_1 (n := 322) (show 62 + e9 < 322 by omega) (skD_b _ (by omega))
          refine wc_Si (na := 3) (f := (f1 (62 + e9))) (As := [.ref (ad (62 + e9)), .ref (ad (62 + e9)), .int (nI (l32 ((S.2.1 34) e9)))]) (rest := []) hx hbc hml hg hown w (EC_ok al) hE (w.1.sub (tys' := tyM cy) [0, 1, 2] rfl) hli.A (k_alikeS l D cy (fun z9 => ad (f1 (62 + e9) z9)) al (pul S (f1 (62 + e9))) 32 (l32 ((S.2.1 34) e9)) (by decide) (by omega)) wk_364 wk_1 wk_362 wk_363 ⟨by decide, by decide, by decide⟩ ⟨by rw [hRf]; decide, by rw [hRl]; decide⟩ rfl hl.1 rfl (Nat.le_of_ble_eq_true rfl) dX7_same_75 ⟨Nat.zero_le _, Nat.zero_le _⟩ (fun r S9 hp H locs w => ?_)
          obtain ⟨hr9, hp⟩ := hp
          subst hr9
          subst hp
          have w : WB D (tyC cy) 322 cy ad skD A s (S) H locs := w _ hli.id
          refine lv_if_eq (tgt := 85) hx hbc dX7_same_78 (by decide) (fun c_78 => ?_) (fun c_78 => ?_)
          · exact absurd c_78 (by decide)
          · refine lv_iconst (v := nI (1)) hx hbc dX7_same_81 (by decide) ?_
            refine lv_goto (tgt := 86) hx hbc dX7_same_82 (by decide) ?_
            exact hend _ _ _ _ _ _ (Or.inr (Or.inr ⟨e9, e9, he9, he8, rfl, rfl, c_51, (fun _ _ => rfl), rfl, rfl⟩)) rfl w dX7_same_86
        · skip
          refine lv_aload_n hx hbc dX7_same_56 rfl (lv_at hl 1 rfl) ?_
          refine wb_gr (t := 31) hx hbc hg hown w inG_X7 57 (by decide) rfl rfl 5 (by decide) rfl wk_210 dX7_same_57 ?_
          refine wb_gr (t := 32) hx hbc hg hown w inG_X4 31 (by decide) rfl rfl 0 (by decide) rfl wk_114 dX7_same_60 ?_
          refine lv_iload_n hx hbc dX7_same_63 rfl (lv_at hl 2 rfl) ?_
          refine wb_aaldA (k := e9) (t := 62 + e9) hx hbc w 32 (by decide) rfl (by decide) 5 rfl rfl (by omega) (by decide) rfl dX7_same_64 ?_
          refine lv_aload_n hx hbc dX7_same_65 rfl (lv_at hl 1 rfl) ?_
          refine wb_gr (t := 31) hx hbc hg hown w inG_X7 57 (by decide) rfl rfl 5 (by decide) rfl wk_210 dX7_same_66 ?_
          refine wb_gr (t := 32) hx hbc hg hown w inG_X4 31 (by decide) rfl rfl 0 (by decide) rfl wk_114 dX7_same_69 ?_
          refine lv_iload_n hx hbc dX7_same_72 rfl (lv_at hl 3 rfl) ?_
          refine wb_aaldA (k := e8) (t := 62 + e8) hx hbc w 32 (by decide) rfl (by decide) 5 rfl rfl (by omega) (by decide) rfl dX7_same_73 ?_
          refine lv_iload_n hx hbc dX7_same_74 rfl (lv_at hl 0 rfl) ?_
          have hli : Lie 322 skD 2 (skB2 32 32) (f2 (62 + e9) (62 + e8)) (fi2 (62 + e9) (62 + e8)) := lie_2 (by omega) (by omega) (by omega) (skD_b _ (by omega)) (skD_b _ (by omega))
          refine wc_Si (na := 3) (f := (f2 (62 + e9) (62 + e8))) (As := [.ref (ad (62 + e9)), .ref (ad (62 + e8)), .int (nI (l32 ((S.2.1 34) e9)))]) (rest := []) hx hbc hml hg hown w (EC_ok al) hE (w.1.sub (tys' := tyM cy) [0, 1, 2] rfl) hli.A (k_alike l D cy (fun z9 => ad (f2 (62 + e9) (62 + e8) z9)) al (pul S (f2 (62 + e9) (62 + e8))) 32 32 (l32 ((S.2.1 34) e9)) (by decide) (by decide) (by omega) (by omega)) wk_364 wk_1 wk_362 wk_363 ⟨by decide, by decide, by decide⟩ ⟨by rw [hRf]; decide, by rw [hRl]; decide⟩ rfl hl.1 rfl (Nat.le_of_ble_eq_true rfl) dX7_same_75 ⟨Nat.zero_le _, Nat.zero_le _⟩ (fun r S9 hp H locs w => ?_)
          obtain rfl : S9 = pul S (f2 (62 + e9) (62 + e8)) := by rcases hp with ⟨_, _, h9⟩ | ⟨_, _, h9⟩ <;> exact h9
          have w : WB D (tyC cy) 322 cy ad skD A s (S) H locs := w _ hli.id
          rcases hp with ⟨rfl, hal, _⟩ | ⟨rfl, hal, _⟩
          · skip
            refine lv_if_eq (tgt := 85) hx hbc dX7_same_78 (by decide) (fun c_78 => ?_) (fun c_78 => ?_)
            · exact absurd c_78 (by decide)
            · refine lv_iconst (v := nI (1)) hx hbc dX7_same_81 (by decide) ?_
              refine lv_goto (tgt := 86) hx hbc dX7_same_82 (by decide) ?_
              exact hend _ _ _ _ _ _ (Or.inr (Or.inr ⟨e9, e8, he9, he8, rfl, rfl, c_51, hal, rfl, rfl⟩)) rfl w dX7_same_86
          · skip
            refine lv_if_eq (tgt := 85) hx hbc dX7_same_78 (by decide) (fun c_78 => ?_) (fun c_78 => ?_)
            · refine lv_iconst (v := nI (0)) hx hbc dX7_same_85 (by decide) ?_
              exact hend _ _ _ _ _ _ (Or.inr (Or.inl ⟨e9, e8, he9, he8, rfl, rfl, Or.inr hal, rfl, rfl⟩)) rfl w dX7_same_86
            · exact absurd c_78 (by decide)
      · refine lv_iconst (v := nI (0)) hx hbc dX7_same_54 (by decide) ?_
        exact hend _ _ _ _ _ _ (Or.inr (Or.inl ⟨e9, e8, he9, he8, rfl, rfl, Or.inl c_51, rfl, rfl⟩)) rfl w dX7_same_55
    · refine lv_bipush (v := (-101)) hx hbc dX7_same_22 (by decide) ?_
      exact hend _ _ _ _ _ _ (Or.inl ⟨Or.inr (hsF_oor c_19 (by omega)), rfl, rfl⟩) rfl w dX7_same_24
set_option maxHeartbeats 1000000 in
set_option maxRecDepth 100000 in
theorem k_D_drop (l : Launch) (D : va_G) (cy : Nat → ClassId) (ad al : Nat → Nat) (S : wS) (a : Int32) (lv : Nat → Nat) (hlv : ∀ j, j < 4 → S.1 (38 + 3 * j) 2 = nI (lv j) ∧ lv j ≤ 12) : CtI l yX7_drop (Cond.code yX7_drop cX7_drop 3 (some .int) :: wsG) 1 20 [.ref (ad (57)), .int (a)] D (tyC cy) 322 cy ad skD (EC al) (S) (fun r S' => (oor a 4 ∧ r = (-102) ∧ S' = S) ∨ (∃ tr, tr < 4 ∧ a = nI tr ∧ r = nI (lv tr) ∧ S' = sI S (38 + 3 * tr) 2 (nI 0))) := by
  refine CtI_of (by decide) (Nat.le_of_ble_eq_true rfl) ?_
  intro p e s m args below meth c A ls R Q hB hRf hRl hend
  obtain ⟨hx, hbc, hr, hg, hown, hml, hlk, w, hE, hl⟩ := hB
  have hl : lv_has ls 3 [(0, .ref (ad (57))), (1, .int (a))] := hl
  refine lv_iload_n hx hbc dX7_drop_0 rfl (lv_at hl 1 rfl) ?_
  refine wb_Si (na := 1) (As := [.int (a)]) (rest := []) hx hbc hml hg hown w E0_ok trivial (w.1.sub (tys' := tyM cy) [0, 1, 2] rfl) Sub.none (k_isTree l D cy ad al (S) a) wk_371 wk_1 wk_369 wk_370 ⟨by decide, by decide, by decide⟩ ⟨by rw [hRf]; decide, by rw [hRl]; decide⟩ rfl hl.1 rfl (Nat.le_of_ble_eq_true rfl) dX7_drop_1 ⟨Nat.zero_le _, Nat.zero_le _⟩ (fun r S9 H locs hp w => ?_)
  subst hp
  refine lv_if_ne (tgt := 10) hx hbc dX7_drop_4 (by decide) (fun c_4 => ?_) (fun c_4 => ?_)
  · obtain ⟨tr, htr, rfl⟩ := hsF_nz c_4 (by decide)
    have hlt := (hlv tr htr).2
    refine lv_aload_n hx hbc dX7_drop_10 rfl (lv_at hl 0 rfl) ?_
    refine wb_gr (t := 37) hx hbc hg hown w inG_X7 57 (by decide) rfl rfl 6 (by decide) rfl wk_211 dX7_drop_11 ?_
    refine lv_iload_n hx hbc dX7_drop_14 rfl (lv_at hl 1 rfl) ?_
    refine wb_aald (k := tr) (t := 38 + 3 * tr) hx hbc w 37 (by decide) rfl (by decide) 4 rfl rfl (by omega) (by decide) rfl dX7_drop_15 ?_
    refine wb_gi (v := nI (lv tr)) hx hbc hg hown w inG_X6 (38 + 3 * tr) (by omega) (skD_T _ (by omega)) rfl 2 (by decide) rfl wk_197 (hlv tr htr).1 dX7_drop_16 ?_
    refine lv_istore_n (lv' := [(2, .int (nI (lv tr))), (0, .ref (ad (57))), (1, .int (nI (tr)))]) hx hbc dX7_drop_19 rfl hl (by decide) rfl (fun ls hl => ?_)
    refine lv_aload_n hx hbc dX7_drop_20 rfl (lv_at hl 1 rfl) ?_
    refine wb_gr (t := 37) hx hbc hg hown w inG_X7 57 (by decide) rfl rfl 6 (by decide) rfl wk_211 dX7_drop_21 ?_
    refine lv_iload_n hx hbc dX7_drop_24 rfl (lv_at hl 2 rfl) ?_
    refine wb_aald (k := tr) (t := 38 + 3 * tr) hx hbc w 37 (by decide) rfl (by decide) 4 rfl rfl (by omega) (by decide) rfl dX7_drop_25 ?_
    refine lv_iconst (v := nI (0)) hx hbc dX7_drop_26 (by decide) ?_
    refine wb_pi (v := nI (0)) hx hbc hg hown w inG_X6 tyX6 tyX6_ok nmX6 (38 + 3 * tr) (by omega) (skD_T _ (by omega)) rfl 2 (by decide) rfl wk_197 rfl rfl rfl rfl dX7_drop_27 (fun H locs w => ?_)
    refine lv_iload_n hx hbc dX7_drop_30 rfl (lv_at hl 0 rfl) ?_
    exact hend _ _ _ _ _ _ (Or.inr ⟨tr, htr, rfl, rfl, rfl⟩) rfl w dX7_drop_31
  · refine lv_bipush (v := (-102)) hx hbc dX7_drop_7 (by decide) ?_
    exact hend _ _ _ _ _ _ (Or.inl ⟨hsF_oor c_4 (by decide), rfl, rfl⟩) rfl w dX7_drop_9
set_option maxHeartbeats 1000000 in
set_option maxRecDepth 100000 in
theorem k_D_alter (l : Launch) (D : va_G) (cy : Nat → ClassId) (ad al : Nat → Nat) (S : wS) (a b x : Int32) (pv : Nat) (hpv : S.1 50 1 = nI pv) (hpv2 : pv ≤ 4) : CtI l yX7_alter (Cond.code yX7_alter cX7_alter 5 (some .int) :: wsG) 0 0 [.ref (ad (57)), .int (a), .int (b), .int (x)] D (tyC cy) 322 cy ad skD (EC al) (S) (fun r S' => (oor a pv ∧ r = (-101) ∧ S' = S) ∨ (∃ k, k < pv ∧ a = nI k ∧ (oor b 32 ∨ oor x 256) ∧ r = (-102) ∧ S' = S) ∨ (∃ k i mk, k < pv ∧ a = nI k ∧ i < 32 ∧ b = nI i ∧ mk ≤ 255 ∧ x = nI mk ∧ r = (S.2.1 (278 + k) i ^^^ nI mk).toInt8.toInt32 &&& nI 255 ∧ S' = sB S (278 + k) (upd (S.2.1 (278 + k)) i ((S.2.1 (278 + k) i ^^^ nI mk).toInt8.toInt32)))) := by
  refine CtI_of (by decide) (Nat.le_of_ble_eq_true rfl) ?_
  intro p e s m args below meth c A ls R Q hB hRf hRl hend
  obtain ⟨hx, hbc, hr, hg, hown, hml, hlk, w, hE, hl⟩ := hB
  have hl : lv_has ls 5 [(0, .ref (ad (57))), (1, .int (a)), (2, .int (b)), (3, .int (x))] := hl
  refine lv_iload_n hx hbc dX7_alter_0 rfl (lv_at hl 1 rfl) ?_
  refine lv_if_lt (tgt := 15) hx hbc dX7_alter_1 (by decide) (fun c_1 => ?_) (fun c_1 => ?_)
  · refine lv_bipush (v := (-101)) hx hbc dX7_alter_15 (by decide) ?_
    exact hend _ _ _ _ _ _ (Or.inl ⟨oor_n c_1 (by omega), rfl, rfl⟩) rfl w dX7_alter_17
  · refine lv_iload_n hx hbc dX7_alter_4 rfl (lv_at hl 1 rfl) ?_
    refine lv_aload_n hx hbc dX7_alter_5 rfl (lv_at hl 0 rfl) ?_
    refine wb_gr (t := 50) hx hbc hg hown w inG_X7 57 (by decide) rfl rfl 7 (by decide) rfl wk_212 dX7_alter_6 ?_
    refine wb_gi (v := nI (pv)) hx hbc hg hown w inG_X3 50 (by decide) rfl rfl 1 (by decide) rfl wk_148 hpv dX7_alter_9 ?_
    refine lv_icmp_lt (tgt := 18) hx hbc dX7_alter_12 (by decide) (fun c_12 => ?_) (fun c_12 => ?_)
    · obtain ⟨k, hk, rfl⟩ := rg_in c_1 c_12 (by omega)
      refine lv_iload_n hx hbc dX7_alter_18 rfl (lv_at hl 2 rfl) ?_
      refine lv_if_lt (tgt := 39) hx hbc dX7_alter_19 (by decide) (fun c_19 => ?_) (fun c_19 => ?_)
      · refine lv_bipush (v := (-102)) hx hbc dX7_alter_39 (by decide) ?_
        exact hend _ _ _ _ _ _ (Or.inr (Or.inl ⟨k, hk, rfl, Or.inl (oor_n c_19 (by decide)), rfl, rfl⟩)) rfl w dX7_alter_41
      · refine lv_iload_n hx hbc dX7_alter_22 rfl (lv_at hl 2 rfl) ?_
        refine lv_bipush (v := nI (32)) hx hbc dX7_alter_23 (by decide) ?_
        refine lv_icmp_ge (tgt := 39) hx hbc dX7_alter_25 (by decide) (fun c_25 => ?_) (fun c_25 => ?_)
        · refine lv_bipush (v := (-102)) hx hbc dX7_alter_39 (by decide) ?_
          exact hend _ _ _ _ _ _ (Or.inr (Or.inl ⟨k, hk, rfl, Or.inl (oor_g (Int32.not_lt.mpr c_25) (by decide)), rfl, rfl⟩)) rfl w dX7_alter_41
        · obtain ⟨i, hi, rfl⟩ := rg_in c_19 (Int32.not_le.mp c_25) (by decide)
          refine lv_iload_n hx hbc dX7_alter_28 rfl (lv_at hl 3 rfl) ?_
          refine lv_if_lt (tgt := 39) hx hbc dX7_alter_29 (by decide) (fun c_29 => ?_) (fun c_29 => ?_)
          · refine lv_bipush (v := (-102)) hx hbc dX7_alter_39 (by decide) ?_
            exact hend _ _ _ _ _ _ (Or.inr (Or.inl ⟨k, hk, rfl, Or.inr (oor_n c_29 (by decide)), rfl, rfl⟩)) rfl w dX7_alter_41
          · refine lv_iload_n hx hbc dX7_alter_32 rfl (lv_at hl 3 rfl) ?_
            refine lv_sipush (v := nI (255)) hx hbc dX7_alter_33 (by decide) ?_
            refine lv_icmp_le (tgt := 42) hx hbc dX7_alter_36 (by decide) (fun c_36 => ?_) (fun c_36 => ?_)
            · obtain ⟨mk, hmk, rfl⟩ := rg_le c_29 c_36 (by decide)
              refine lv_aload_n hx hbc dX7_alter_42 rfl (lv_at hl 0 rfl) ?_
              refine wb_gr (t := 50) hx hbc hg hown w inG_X7 57 (by decide) rfl rfl 7 (by decide) rfl wk_212 dX7_alter_43 ?_
              refine wb_gr (t := 51) hx hbc hg hown w inG_X3 50 (by decide) rfl rfl 0 (by decide) rfl wk_146 dX7_alter_46 ?_
              refine lv_iload_n hx hbc dX7_alter_49 rfl (lv_at hl 1 rfl) ?_
              refine wb_aaldA (k := k) (t := 278 + k) hx hbc w 51 (by decide) rfl (by decide) 5 rfl rfl (by omega) (by decide) (if_pos (by omega)) dX7_alter_50 ?_
              refine lv_astore (lv' := [(4, .ref (ad (278 + k))), (0, .ref (ad (57))), (1, .int (nI (k))), (2, .int (nI (i))), (3, .int (nI (mk)))]) hx hbc dX7_alter_51 hl (by decide) rfl (fun ls hl => ?_)
              refine lv_aload hx hbc dX7_alter_53 (lv_at hl 0 rfl) ?_
              refine lv_iload_n hx hbc dX7_alter_55 rfl (lv_at hl 3 rfl) ?_
              refine lv_aload hx hbc dX7_alter_56 (lv_at hl 0 rfl) ?_
              refine lv_iload_n hx hbc dX7_alter_58 rfl (lv_at hl 3 rfl) ?_
              refine wb_bald (k := i) (v := (S.2.1 (278 + k)) i) hx hbc w (278 + k) (by omega) (skD_p _ (by omega)) 1 rfl rfl (by omega) (by decide) rfl dX7_alter_59 ?_
              refine lv_iload_n hx hbc dX7_alter_60 rfl (lv_at hl 4 rfl) ?_
              refine lv_ixor hx hbc dX7_alter_61 ?_
              refine lv_i2b hx hbc dX7_alter_62 rfl ?_
              refine wb_bast (k := i) (z := (((S.2.1 (278 + k)) i) ^^^ (nI (mk))).toInt8.toInt32) (f := S.2.1 (278 + k)) hx hbc w (278 + k) (by omega) (skD_p _ (by omega)) 1 rfl rfl (by omega) (by decide) rfl (i8i8 _) rfl dX7_alter_63 (fun H locs w => ?_)
              refine lv_aload hx hbc dX7_alter_64 (lv_at hl 0 rfl) ?_
              refine lv_iload_n hx hbc dX7_alter_66 rfl (lv_at hl 3 rfl) ?_
              refine wb_bald (k := i) (v := (S.2.1 (278 + k) i ^^^ nI mk).toInt8.toInt32) hx hbc w (278 + k) (by omega) (skD_p _ (by omega)) 1 rfl rfl (by omega) (by decide) (by simp [sB, va_up, upd]) dX7_alter_67 ?_
              refine lv_sipush (v := nI (255)) hx hbc dX7_alter_68 (by decide) ?_
              refine lv_iand hx hbc dX7_alter_71 ?_
              exact hend _ _ _ _ _ _ (Or.inr (Or.inr ⟨k, i, mk, hk, rfl, hi, rfl, hmk, rfl, rfl, rfl⟩)) rfl w dX7_alter_72
            · refine lv_bipush (v := (-102)) hx hbc dX7_alter_39 (by decide) ?_
              exact hend _ _ _ _ _ _ (Or.inr (Or.inl ⟨k, hk, rfl, Or.inr (oor_g (fun h9 => c_36 (Int32.not_lt.mp (fun h8 => absurd h9 (Int32.not_lt.mpr (le_255 h8))))) (by decide)), rfl, rfl⟩)) rfl w dX7_alter_41
    · refine lv_bipush (v := (-101)) hx hbc dX7_alter_15 (by decide) ?_
      exact hend _ _ _ _ _ _ (Or.inl ⟨oor_g c_12 (by omega), rfl, rfl⟩) rfl w dX7_alter_17
set_option maxHeartbeats 1000000 in
set_option maxRecDepth 100000 in
theorem k_D_about (l : Launch) (D : va_G) (cy : Nat → ClassId) (ad al : Nat → Nat) (S : wS) (x : Int32) (R9 : Nat) (hR9 : S.1 52 3 = nI R9) (hR2 : R9 ≤ 40) : CtI l yX7_about (Cond.code yX7_about cX7_about 2 (some .int) :: wsG) 1 23 [.ref (ad (57)), .int (x)] D (tyC cy) 322 cy ad skD (EC al) (S) (fun r S' => (x = nI 0 ∧ r = S.1 58 1 ∧ S' = S) ∨ (x = nI 1 ∧ r = S.1 31 5 ∧ S' = S) ∨ (x = nI 2 ∧ r = S.1 52 3 ∧ S' = S) ∨ (x = nI 3 ∧ r = nI (pjo (S.2.1 55) R9 R9) ∧ S' = S) ∨ (x = nI 4 ∧ r = S.1 52 4 ∧ S' = S) ∨ (x = nI 5 ∧ r = nI 1 ∧ S' = S) ∨ ((x.toInt < 0 ∨ (5 : Int) < x.toInt) ∧ r = (-102) ∧ S' = S)) := by
  refine CtI_of (by decide) (Nat.le_of_ble_eq_true rfl) ?_
  intro p e s m args below meth c A ls R Q hB hRf hRl hend
  obtain ⟨hx, hbc, hr, hg, hown, hml, hlk, w, hE, hl⟩ := hB
  have hl : lv_has ls 2 [(0, .ref (ad (57))), (1, .int (x))] := hl
  refine lv_iload_n hx hbc dX7_about_0 rfl (lv_at hl 1 rfl) ?_
  rcases sw_in x 5 (by decide) with ⟨k9, hk9, rfl⟩ | hsw
  · rcases (show k9 = 0 ∨ k9 = 1 ∨ k9 = 2 ∨ k9 = 3 ∨ k9 = 4 ∨ k9 = 5 by omega) with rfl | rfl | rfl | rfl | rfl | rfl
    · skip
      refine lv_tableIn (tgt := 40) hx hbc dX7_about_1 (by decide) (by decide) rfl (by decide) ?_
      refine lv_aload_n hx hbc dX7_about_40 rfl (lv_at hl 0 rfl) ?_
      refine wb_gr (t := 58) hx hbc hg hown w inG_X7 57 (by decide) rfl rfl 0 (by decide) rfl wk_205 dX7_about_41 ?_
      refine wb_gi (v := S.1 58 1) hx hbc hg hown w inG_X0 58 (by decide) rfl rfl 1 (by decide) rfl wk_38 rfl dX7_about_44 ?_
      exact hend _ _ _ _ _ _ (Or.inl ⟨rfl, rfl, rfl⟩) rfl w dX7_about_47
    · skip
      refine lv_tableIn (tgt := 48) hx hbc dX7_about_1 (by decide) (by decide) rfl (by decide) ?_
      refine lv_aload_n hx hbc dX7_about_48 rfl (lv_at hl 0 rfl) ?_
      refine wb_gr (t := 31) hx hbc hg hown w inG_X7 57 (by decide) rfl rfl 5 (by decide) rfl wk_210 dX7_about_49 ?_
      refine wb_gi (v := S.1 31 5) hx hbc hg hown w inG_X4 31 (by decide) rfl rfl 5 (by decide) rfl wk_122 rfl dX7_about_52 ?_
      exact hend _ _ _ _ _ _ (Or.inr (Or.inl ⟨rfl, rfl, rfl⟩)) rfl w dX7_about_55
    · skip
      refine lv_tableIn (tgt := 56) hx hbc dX7_about_1 (by decide) (by decide) rfl (by decide) ?_
      refine lv_aload_n hx hbc dX7_about_56 rfl (lv_at hl 0 rfl) ?_
      refine wb_gr (t := 52) hx hbc hg hown w inG_X7 57 (by decide) rfl rfl 8 (by decide) rfl wk_213 dX7_about_57 ?_
      refine wb_gi (v := S.1 52 3) hx hbc hg hown w inG_X5 52 (by decide) rfl rfl 3 (by decide) rfl wk_167 rfl dX7_about_60 ?_
      exact hend _ _ _ _ _ _ (Or.inr (Or.inr (Or.inl ⟨rfl, rfl, rfl⟩))) rfl w dX7_about_63
    · skip
      refine lv_tableIn (tgt := 64) hx hbc dX7_about_1 (by decide) (by decide) rfl (by decide) ?_
      refine lv_aload_n hx hbc dX7_about_64 rfl (lv_at hl 0 rfl) ?_
      refine wb_gr (t := 52) hx hbc hg hown w inG_X7 57 (by decide) rfl rfl 8 (by decide) rfl wk_213 dX7_about_65 ?_
      refine wc_Vi (na := 0) (f := fSt) (As := []) (rest := []) hx hbc hml hg hown w (EC_ok al) hE (w.1.sub (tys' := tyM cy) [0, 1, 2] rfl) lie_St.A 52 (by decide) rfl rfl (k_pairsMeet l D cy (fun z9 => ad (fSt z9)) al (pul S fSt) R9 hR9 hR2) wk_472 wk_7 wk_469 wk_470 wk_471 ⟨by decide, by decide, by decide⟩ ⟨by rw [hRf]; decide, by rw [hRl]; decide⟩ rfl hl.1 rfl (Nat.le_of_ble_eq_true rfl) dX7_about_68 ⟨Nat.zero_le _, Nat.zero_le _⟩ (fun r S9 hp H locs w => ?_)
      obtain ⟨hr9, hp⟩ := hp
      subst hr9
      subst hp
      have w : WB D (tyC cy) 322 cy ad skD A s (S) H locs := w _ lie_St.id
      exact hend _ _ _ _ _ _ (Or.inr (Or.inr (Or.inr (Or.inl ⟨rfl, rfl, rfl⟩)))) rfl w dX7_about_71
    · skip
      refine lv_tableIn (tgt := 72) hx hbc dX7_about_1 (by decide) (by decide) rfl (by decide) ?_
      refine lv_aload_n hx hbc dX7_about_72 rfl (lv_at hl 0 rfl) ?_
      refine wb_gr (t := 52) hx hbc hg hown w inG_X7 57 (by decide) rfl rfl 8 (by decide) rfl wk_213 dX7_about_73 ?_
      refine wb_gi (v := S.1 52 4) hx hbc hg hown w inG_X5 52 (by decide) rfl rfl 4 (by decide) rfl wk_168 rfl dX7_about_76 ?_
      exact hend _ _ _ _ _ _ (Or.inr (Or.inr (Or.inr (Or.inr (Or.inl ⟨rfl, rfl, rfl⟩))))) rfl w dX7_about_79
    · skip
      refine lv_tableIn (tgt := 80) hx hbc dX7_about_1 (by decide) (by decide) rfl (by decide) ?_
      refine lv_iconst (v := nI (1)) hx hbc dX7_about_80 (by decide) ?_
      exact hend _ _ _ _ _ _ (Or.inr (Or.inr (Or.inr (Or.inr (Or.inr (Or.inl ⟨rfl, rfl, rfl⟩)))))) rfl w dX7_about_81
  · skip
    refine lv_tableOut (tgt := 82) hx hbc dX7_about_1 hsw (by decide) ?_
    refine lv_bipush (v := (-102)) hx hbc dX7_about_82 (by decide) ?_
    exact hend _ _ _ _ _ _ (Or.inr (Or.inr (Or.inr (Or.inr (Or.inr (Or.inr ⟨hsw, rfl, rfl⟩)))))) rfl w dX7_about_84
def clD (S : wS) : wS := sI (sI (sI (sI (sI (sI (sI (sI (sI (sI (sI (sI (sI (sI S 58 1 (nI (0))) 60 1 (nI (0))) 31 5 (nI (0))) 18 3 (nI (0))) 21 3 (nI (0))) 24 3 (nI (0))) 27 3 (nI (0))) 38 2 (nI (0))) 41 2 (nI (0))) 44 2 (nI (0))) 47 2 (nI (0))) 50 1 (nI (0))) 52 3 (nI (0))) 52 4 (nI (0))
set_option maxHeartbeats 1000000 in
set_option maxRecDepth 100000 in
theorem k_D_clear (l : Launch) (D : va_G) (cy : Nat → ClassId) (ad al : Nat → Nat) (S : wS)  : CtI l yX7_clear (Cond.code yX7_clear cX7_clear 3 (some .int) :: wsG) 0 0 [.ref (ad (57))] D (tyC cy) 322 cy ad skD (EC al) (S) (fun r S' => r = S.1 31 5 ∧ S' = clD S) := by
  refine CtI_of (by decide) (Nat.le_of_ble_eq_true rfl) ?_
  intro p e s m args below meth c A ls R Q hB hRf hRl hend
  obtain ⟨hx, hbc, hr, hg, hown, hml, hlk, w, hE, hl⟩ := hB
  have hl : lv_has ls 3 [(0, .ref (ad (57)))] := hl
  refine lv_aload_n hx hbc dX7_clear_0 rfl (lv_at hl 0 rfl) ?_
  refine wb_gr (t := 31) hx hbc hg hown w inG_X7 57 (by decide) rfl rfl 5 (by decide) rfl wk_210 dX7_clear_1 ?_
  refine wb_gi (v := S.1 31 5) hx hbc hg hown w inG_X4 31 (by decide) rfl rfl 5 (by decide) rfl wk_122 rfl dX7_clear_4 ?_
  refine lv_istore_n (lv' := [(1, .int (S.1 31 5)), (0, .ref (ad (57)))]) hx hbc dX7_clear_7 rfl hl (by decide) rfl (fun ls hl => ?_)
  refine lv_aload_n hx hbc dX7_clear_8 rfl (lv_at hl 1 rfl) ?_
  refine wb_gr (t := 58) hx hbc hg hown w inG_X7 57 (by decide) rfl rfl 0 (by decide) rfl wk_205 dX7_clear_9 ?_
  refine lv_iconst (v := nI (0)) hx hbc dX7_clear_12 (by decide) ?_
  refine wb_pi (v := nI (0)) hx hbc hg hown w inG_X0 tyX0 tyX0_ok nmX0 58 (by decide) rfl rfl 1 (by decide) rfl wk_38 rfl rfl rfl rfl dX7_clear_13 (fun H locs w => ?_)
  refine lv_aload_n hx hbc dX7_clear_16 rfl (lv_at hl 1 rfl) ?_
  refine wb_gr (t := 60) hx hbc hg hown w inG_X7 57 (by decide) rfl rfl 1 (by decide) rfl wk_206 dX7_clear_17 ?_
  refine lv_iconst (v := nI (0)) hx hbc dX7_clear_20 (by decide) ?_
  refine wb_pi (v := nI (0)) hx hbc hg hown w inG_X0 tyX0 tyX0_ok nmX0 60 (by decide) rfl rfl 1 (by decide) rfl wk_38 rfl rfl rfl rfl dX7_clear_21 (fun H locs w => ?_)
  refine lv_aload_n hx hbc dX7_clear_24 rfl (lv_at hl 1 rfl) ?_
  refine wb_gr (t := 31) hx hbc hg hown w inG_X7 57 (by decide) rfl rfl 5 (by decide) rfl wk_210 dX7_clear_25 ?_
  refine lv_iconst (v := nI (0)) hx hbc dX7_clear_28 (by decide) ?_
  refine wb_pi (v := nI (0)) hx hbc hg hown w inG_X4 tyX4 tyX4_ok nmX4 31 (by decide) rfl rfl 5 (by decide) rfl wk_122 rfl rfl rfl rfl dX7_clear_29 (fun H locs w => ?_)
  refine lv_iconst (v := nI (0)) hx hbc dX7_clear_32 (by decide) ?_
  refine lv_istore_n (lv' := [(2, .int (nI (0))), (1, .int (S.1 31 5)), (0, .ref (ad (57)))]) hx hbc dX7_clear_33 rfl hl (by decide) rfl (fun ls hl => ?_)
  refine lv_iload_n hx hbc dX7_clear_34 rfl (lv_at hl 0 rfl) ?_
  refine lv_iconst (v := nI (4)) hx hbc dX7_clear_35 (by decide) ?_
  refine n_cmp_ge (tgt := 55) (by omega) (by omega) hx hbc dX7_clear_36 (by decide) (fun c_36 => ?_) (fun c_36 => ?_)
  · exact absurd c_36 (by decide)
  · refine lv_aload_n hx hbc dX7_clear_39 rfl (lv_at hl 2 rfl) ?_
    refine wb_gr (t := 30) hx hbc hg hown w inG_X7 57 (by decide) rfl rfl 4 (by decide) rfl wk_209 dX7_clear_40 ?_
    refine lv_iload_n hx hbc dX7_clear_43 rfl (lv_at hl 0 rfl) ?_
    refine wb_aald (k := 0) (t := 18) hx hbc w 30 (by decide) rfl (by decide) 3 rfl rfl (by omega) (by decide) rfl dX7_clear_44 ?_
    refine lv_iconst (v := nI (0)) hx hbc dX7_clear_45 (by decide) ?_
    refine wb_pi (v := nI (0)) hx hbc hg hown w inG_X1 tyX1 tyX1_ok nmX1 18 (by decide) rfl rfl 3 (by decide) rfl wk_82 rfl (by decide) (by decide) rfl dX7_clear_46 (fun H locs w => ?_)
    refine lv_iinc (v := nI (1)) (lv' := [(2, .int (nI (1))), (1, .int (S.1 31 5)), (0, .ref (ad (57)))]) hx hbc dX7_clear_49 hl (k := 0) rfl (by decide) (by decide) rfl (fun ls hl => ?_)
    refine lv_goto (tgt := 34) hx hbc dX7_clear_52 (by decide) ?_
    refine lv_iload_n hx hbc dX7_clear_34 rfl (lv_at hl 0 rfl) ?_
    refine lv_iconst (v := nI (4)) hx hbc dX7_clear_35 (by decide) ?_
    refine n_cmp_ge (tgt := 55) (by omega) (by omega) hx hbc dX7_clear_36 (by decide) (fun c_36 => ?_) (fun c_36 => ?_)
    · exact absurd c_36 (by decide)
    · refine lv_aload_n hx hbc dX7_clear_39 rfl (lv_at hl 2 rfl) ?_
      refine wb_gr (t := 30) hx hbc hg hown w inG_X7 57 (by decide) rfl rfl 4 (by decide) rfl wk_209 dX7_clear_40 ?_
      refine lv_iload_n hx hbc dX7_clear_43 rfl (lv_at hl 0 rfl) ?_
      refine wb_aald (k := 1) (t := 21) hx hbc w 30 (by decide) rfl (by decide) 3 rfl rfl (by omega) (by decide) rfl dX7_clear_44 ?_
      refine lv_iconst (v := nI (0)) hx hbc dX7_clear_45 (by decide) ?_
      refine wb_pi (v := nI (0)) hx hbc hg hown w inG_X1 tyX1 tyX1_ok nmX1 21 (by decide) rfl rfl 3 (by decide) rfl wk_82 rfl (by decide) (by decide) rfl dX7_clear_46 (fun H locs w => ?_)
      refine lv_iinc (v := nI (2)) (lv' := [(2, .int (nI (2))), (1, .int (S.1 31 5)), (0, .ref (ad (57)))]) hx hbc dX7_clear_49 hl (k := 0) rfl (by decide) (by decide) rfl (fun ls hl => ?_)
      refine lv_goto (tgt := 34) hx hbc dX7_clear_52 (by decide) ?_
      refine lv_iload_n hx hbc dX7_clear_34 rfl (lv_at hl 0 rfl) ?_
      refine lv_iconst (v := nI (4)) hx hbc dX7_clear_35 (by decide) ?_
      refine n_cmp_ge (tgt := 55) (by omega) (by omega) hx hbc dX7_clear_36 (by decide) (fun c_36 => ?_) (fun c_36 => ?_)
      · exact absurd c_36 (by decide)
      · refine lv_aload_n hx hbc dX7_clear_39 rfl (lv_at hl 2 rfl) ?_
        refine wb_gr (t := 30) hx hbc hg hown w inG_X7 57 (by decide) rfl rfl 4 (by decide) rfl wk_209 dX7_clear_40 ?_
        refine lv_iload_n hx hbc dX7_clear_43 rfl (lv_at hl 0 rfl) ?_
        refine wb_aald (k := 2) (t := 24) hx hbc w 30 (by decide) rfl (by decide) 3 rfl rfl (by omega) (by decide) rfl dX7_clear_44 ?_
        refine lv_iconst (v := nI (0)) hx hbc dX7_clear_45 (by decide) ?_
        refine wb_pi (v := nI (0)) hx hbc hg hown w inG_X1 tyX1 tyX1_ok nmX1 24 (by decide) rfl rfl 3 (by decide) rfl wk_82 rfl (by decide) (by decide) rfl dX7_clear_46 (fun H locs w => ?_)
        refine lv_iinc (v := nI (3)) (lv' := [(2, .int (nI (3))), (1, .int (S.1 31 5)), (0, .ref (ad (57)))]) hx hbc dX7_clear_49 hl (k := 0) rfl (by decide) (by decide) rfl (fun ls hl => ?_)
        refine lv_goto (tgt := 34) hx hbc dX7_clear_52 (by decide) ?_
        refine lv_iload_n hx hbc dX7_clear_34 rfl (lv_at hl 0 rfl) ?_
        refine lv_iconst (v := nI (4)) hx hbc dX7_clear_35 (by decide) ?_
        refine n_cmp_ge (tgt := 55) (by omega) (by omega) hx hbc dX7_clear_36 (by decide) (fun c_36 => ?_) (fun c_36 => ?_)
        · exact absurd c_36 (by decide)
        · refine lv_aload_n hx hbc dX7_clear_39 rfl (lv_at hl 2 rfl) ?_
          refine wb_gr (t := 30) hx hbc hg hown w inG_X7 57 (by decide) rfl rfl 4 (by decide) rfl wk_209 dX7_clear_40 ?_
          refine lv_iload_n hx hbc dX7_clear_43 rfl (lv_at hl 0 rfl) ?_
          refine wb_aald (k := 3) (t := 27) hx hbc w 30 (by decide) rfl (by decide) 3 rfl rfl (by omega) (by decide) rfl dX7_clear_44 ?_
          refine lv_iconst (v := nI (0)) hx hbc dX7_clear_45 (by decide) ?_
          refine wb_pi (v := nI (0)) hx hbc hg hown w inG_X1 tyX1 tyX1_ok nmX1 27 (by decide) rfl rfl 3 (by decide) rfl wk_82 rfl (by decide) (by decide) rfl dX7_clear_46 (fun H locs w => ?_)
          refine lv_iinc (v := nI (4)) (lv' := [(2, .int (nI (4))), (1, .int (S.1 31 5)), (0, .ref (ad (57)))]) hx hbc dX7_clear_49 hl (k := 0) rfl (by decide) (by decide) rfl (fun ls hl => ?_)
          refine lv_goto (tgt := 34) hx hbc dX7_clear_52 (by decide) ?_
          refine lv_iload_n hx hbc dX7_clear_34 rfl (lv_at hl 0 rfl) ?_
          refine lv_iconst (v := nI (4)) hx hbc dX7_clear_35 (by decide) ?_
          refine n_cmp_ge (tgt := 55) (by omega) (by omega) hx hbc dX7_clear_36 (by decide) (fun c_36 => ?_) (fun c_36 => ?_)
          · refine lv_iconst (v := nI (0)) hx hbc dX7_clear_55 (by decide) ?_
            refine lv_istore_n (lv' := [(2, .int (nI (0))), (1, .int (S.1 31 5)), (0, .ref (ad (57)))]) hx hbc dX7_clear_56 rfl hl (by decide) rfl (fun ls hl => ?_)
            refine lv_iload_n hx hbc dX7_clear_57 rfl (lv_at hl 0 rfl) ?_
            refine lv_iconst (v := nI (4)) hx hbc dX7_clear_58 (by decide) ?_
            refine n_cmp_ge (tgt := 78) (by omega) (by omega) hx hbc dX7_clear_59 (by decide) (fun c_59 => ?_) (fun c_59 => ?_)
            · exact absurd c_59 (by decide)
            · refine lv_aload_n hx hbc dX7_clear_62 rfl (lv_at hl 2 rfl) ?_
              refine wb_gr (t := 37) hx hbc hg hown w inG_X7 57 (by decide) rfl rfl 6 (by decide) rfl wk_211 dX7_clear_63 ?_
              refine lv_iload_n hx hbc dX7_clear_66 rfl (lv_at hl 0 rfl) ?_
              refine wb_aald (k := 0) (t := 38) hx hbc w 37 (by decide) rfl (by decide) 4 rfl rfl (by omega) (by decide) rfl dX7_clear_67 ?_
              refine lv_iconst (v := nI (0)) hx hbc dX7_clear_68 (by decide) ?_
              refine wb_pi (v := nI (0)) hx hbc hg hown w inG_X6 tyX6 tyX6_ok nmX6 38 (by decide) rfl rfl 2 (by decide) rfl wk_197 rfl rfl rfl rfl dX7_clear_69 (fun H locs w => ?_)
              refine lv_iinc (v := nI (1)) (lv' := [(2, .int (nI (1))), (1, .int (S.1 31 5)), (0, .ref (ad (57)))]) hx hbc dX7_clear_72 hl (k := 0) rfl (by decide) (by decide) rfl (fun ls hl => ?_)
              refine lv_goto (tgt := 57) hx hbc dX7_clear_75 (by decide) ?_
              refine lv_iload_n hx hbc dX7_clear_57 rfl (lv_at hl 0 rfl) ?_
              refine lv_iconst (v := nI (4)) hx hbc dX7_clear_58 (by decide) ?_
              refine n_cmp_ge (tgt := 78) (by omega) (by omega) hx hbc dX7_clear_59 (by decide) (fun c_59 => ?_) (fun c_59 => ?_)
              · exact absurd c_59 (by decide)
              · refine lv_aload_n hx hbc dX7_clear_62 rfl (lv_at hl 2 rfl) ?_
                refine wb_gr (t := 37) hx hbc hg hown w inG_X7 57 (by decide) rfl rfl 6 (by decide) rfl wk_211 dX7_clear_63 ?_
                refine lv_iload_n hx hbc dX7_clear_66 rfl (lv_at hl 0 rfl) ?_
                refine wb_aald (k := 1) (t := 41) hx hbc w 37 (by decide) rfl (by decide) 4 rfl rfl (by omega) (by decide) rfl dX7_clear_67 ?_
                refine lv_iconst (v := nI (0)) hx hbc dX7_clear_68 (by decide) ?_
                refine wb_pi (v := nI (0)) hx hbc hg hown w inG_X6 tyX6 tyX6_ok nmX6 41 (by decide) rfl rfl 2 (by decide) rfl wk_197 rfl rfl rfl rfl dX7_clear_69 (fun H locs w => ?_)
                refine lv_iinc (v := nI (2)) (lv' := [(2, .int (nI (2))), (1, .int (S.1 31 5)), (0, .ref (ad (57)))]) hx hbc dX7_clear_72 hl (k := 0) rfl (by decide) (by decide) rfl (fun ls hl => ?_)
                refine lv_goto (tgt := 57) hx hbc dX7_clear_75 (by decide) ?_
                refine lv_iload_n hx hbc dX7_clear_57 rfl (lv_at hl 0 rfl) ?_
                refine lv_iconst (v := nI (4)) hx hbc dX7_clear_58 (by decide) ?_
                refine n_cmp_ge (tgt := 78) (by omega) (by omega) hx hbc dX7_clear_59 (by decide) (fun c_59 => ?_) (fun c_59 => ?_)
                · exact absurd c_59 (by decide)
                · refine lv_aload_n hx hbc dX7_clear_62 rfl (lv_at hl 2 rfl) ?_
                  refine wb_gr (t := 37) hx hbc hg hown w inG_X7 57 (by decide) rfl rfl 6 (by decide) rfl wk_211 dX7_clear_63 ?_
                  refine lv_iload_n hx hbc dX7_clear_66 rfl (lv_at hl 0 rfl) ?_
                  refine wb_aald (k := 2) (t := 44) hx hbc w 37 (by decide) rfl (by decide) 4 rfl rfl (by omega) (by decide) rfl dX7_clear_67 ?_
                  refine lv_iconst (v := nI (0)) hx hbc dX7_clear_68 (by decide) ?_
                  refine wb_pi (v := nI (0)) hx hbc hg hown w inG_X6 tyX6 tyX6_ok nmX6 44 (by decide) rfl rfl 2 (by decide) rfl wk_197 rfl rfl rfl rfl dX7_clear_69 (fun H locs w => ?_)
                  refine lv_iinc (v := nI (3)) (lv' := [(2, .int (nI (3))), (1, .int (S.1 31 5)), (0, .ref (ad (57)))]) hx hbc dX7_clear_72 hl (k := 0) rfl (by decide) (by decide) rfl (fun ls hl => ?_)
                  refine lv_goto (tgt := 57) hx hbc dX7_clear_75 (by decide) ?_
                  refine lv_iload_n hx hbc dX7_clear_57 rfl (lv_at hl 0 rfl) ?_
                  refine lv_iconst (v := nI (4)) hx hbc dX7_clear_58 (by decide) ?_
                  refine n_cmp_ge (tgt := 78) (by omega) (by omega) hx hbc dX7_clear_59 (by decide) (fun c_59 => ?_) (fun c_59 => ?_)
                  · exact absurd c_59 (by decide)
                  · refine lv_aload_n hx hbc dX7_clear_62 rfl (lv_at hl 2 rfl) ?_
                    refine wb_gr (t := 37) hx hbc hg hown w inG_X7 57 (by decide) rfl rfl 6 (by decide) rfl wk_211 dX7_clear_63 ?_
                    refine lv_iload_n hx hbc dX7_clear_66 rfl (lv_at hl 0 rfl) ?_
                    refine wb_aald (k := 3) (t := 47) hx hbc w 37 (by decide) rfl (by decide) 4 rfl rfl (by omega) (by decide) rfl dX7_clear_67 ?_
                    refine lv_iconst (v := nI (0)) hx hbc dX7_clear_68 (by decide) ?_
                    refine wb_pi (v := nI (0)) hx hbc hg hown w inG_X6 tyX6 tyX6_ok nmX6 47 (by decide) rfl rfl 2 (by decide) rfl wk_197 rfl rfl rfl rfl dX7_clear_69 (fun H locs w => ?_)
                    refine lv_iinc (v := nI (4)) (lv' := [(2, .int (nI (4))), (1, .int (S.1 31 5)), (0, .ref (ad (57)))]) hx hbc dX7_clear_72 hl (k := 0) rfl (by decide) (by decide) rfl (fun ls hl => ?_)
                    refine lv_goto (tgt := 57) hx hbc dX7_clear_75 (by decide) ?_
                    refine lv_iload_n hx hbc dX7_clear_57 rfl (lv_at hl 0 rfl) ?_
                    refine lv_iconst (v := nI (4)) hx hbc dX7_clear_58 (by decide) ?_
                    refine n_cmp_ge (tgt := 78) (by omega) (by omega) hx hbc dX7_clear_59 (by decide) (fun c_59 => ?_) (fun c_59 => ?_)
                    · refine lv_aload_n hx hbc dX7_clear_78 rfl (lv_at hl 2 rfl) ?_
                      refine wb_gr (t := 50) hx hbc hg hown w inG_X7 57 (by decide) rfl rfl 7 (by decide) rfl wk_212 dX7_clear_79 ?_
                      refine lv_iconst (v := nI (0)) hx hbc dX7_clear_82 (by decide) ?_
                      refine wb_pi (v := nI (0)) hx hbc hg hown w inG_X3 tyX3 tyX3_ok nmX3 50 (by decide) rfl rfl 1 (by decide) rfl wk_148 rfl rfl rfl rfl dX7_clear_83 (fun H locs w => ?_)
                      refine lv_aload_n hx hbc dX7_clear_86 rfl (lv_at hl 2 rfl) ?_
                      refine wb_gr (t := 52) hx hbc hg hown w inG_X7 57 (by decide) rfl rfl 8 (by decide) rfl wk_213 dX7_clear_87 ?_
                      refine lv_iconst (v := nI (0)) hx hbc dX7_clear_90 (by decide) ?_
                      refine wb_pi (v := nI (0)) hx hbc hg hown w inG_X5 tyX5 tyX5_ok nmX5 52 (by decide) rfl rfl 3 (by decide) rfl wk_167 rfl rfl rfl rfl dX7_clear_91 (fun H locs w => ?_)
                      refine lv_aload_n hx hbc dX7_clear_94 rfl (lv_at hl 2 rfl) ?_
                      refine wb_gr (t := 52) hx hbc hg hown w inG_X7 57 (by decide) rfl rfl 8 (by decide) rfl wk_213 dX7_clear_95 ?_
                      refine lv_iconst (v := nI (0)) hx hbc dX7_clear_98 (by decide) ?_
                      refine wb_pi (v := nI (0)) hx hbc hg hown w inG_X5 tyX5 tyX5_ok nmX5 52 (by decide) rfl rfl 4 (by decide) rfl wk_168 rfl rfl rfl rfl dX7_clear_99 (fun H locs w => ?_)
                      refine lv_iload_n hx hbc dX7_clear_102 rfl (lv_at hl 1 rfl) ?_
                      exact hend _ _ _ _ _ _ ⟨rfl, rfl⟩ rfl w dX7_clear_103
                    · exact absurd c_59 (by decide)
          · exact absurd c_36 (by decide)
