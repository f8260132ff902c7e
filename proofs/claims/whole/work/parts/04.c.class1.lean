set_option maxHeartbeats 4000000 in
set_option maxRecDepth 100000 in
theorem k_rotR (l : Launch) (D : va_G) (cy : Nat → ClassId) (ad al : Nat → Nat) (S : wS) (x : Int32) (k : Nat) (hk : -(nI k) &&& 31 = nI (32 - k) &&& 31) : CtI l yJ6_rotateRight_7cf53 (Cond.code yJ6_rotateRight_7cf53 cJ6_rotateRight_7cf53 2 (some .int) :: wsG) 0 0 [.int (x), .int (nI (k))] D (tyM cy) 0 cy ad skSp E0 (S) (fun r _ => r = rotr x k) := by
  refine CtI_of (by decide) (Nat.le_of_ble_eq_true rfl) ?_
  intro p e s m args below meth c A ls R Q hB hRf hRl hend
  obtain ⟨hx, hbc, hr, hg, hown, hml, hlk, w, hE, hl⟩ := hB
  have hl : lv_has ls 2 [(0, .int (x)), (1, .int (nI (k)))] := hl
  refine lv_iload_n hx hbc dJ6_rotateRight_7cf53_0 rfl (lv_at hl 0 rfl) ?_
  refine lv_iload_n hx hbc dJ6_rotateRight_7cf53_1 rfl (lv_at hl 1 rfl) ?_
  refine lv_iushr hx hbc dJ6_rotateRight_7cf53_2 rfl ?_
  refine lv_iload_n hx hbc dJ6_rotateRight_7cf53_3 rfl (lv_at hl 0 rfl) ?_
  refine lv_iload_n hx hbc dJ6_rotateRight_7cf53_4 rfl (lv_at hl 1 rfl) ?_
  refine lv_ineg hx hbc dJ6_rotateRight_7cf53_5 ?_
  refine lv_ishl hx hbc dJ6_rotateRight_7cf53_6 ?_
  refine lv_ior hx hbc dJ6_rotateRight_7cf53_7 ?_
  exact hend _ _ _ _ _ _ (by unfold rotr; rw [← hk]) rfl w dJ6_rotateRight_7cf53_8
set_option maxHeartbeats 4000000 in
set_option maxRecDepth 100000 in
theorem k_spread (l : Launch) (D : va_G) (cy : Nat → ClassId) (ad al : Nat → Nat) (S : wS)  : CtV l yX7_spread (Cond.code yX7_spread cX7_spread 6 none :: wsG) 1 21 [.ref (ad (0))] D (tyM cy) 1 cy ad (skSp) (EC al) (S) (fun S' => S' = sB S 0 (schN (S.2.1 0) 48)) := by
  refine CtV_of (by decide) (Nat.le_of_ble_eq_true rfl) ?_
  intro p e s m args below meth c A ls R Q hB hRf hRl hend
  obtain ⟨hx, hbc, hr, hg, hown, hml, hlk, w, hE, hl⟩ := hB
  have hl : lv_has ls 6 [(0, .ref (ad (0)))] := hl
  refine lv_bipush (v := nI (16)) hx hbc dX7_spread_0 (by decide) ?_
  refine lv_istore_n (lv' := [(1, .int (nI (16))), (0, .ref (ad (0)))]) hx hbc dX7_spread_2 rfl hl (by decide) rfl (fun ls hl => ?_)
  have lp_3 : ∀ (fu : Nat) (u : Nat) (H : Heap) (locs : List Loc) (ls : Array Slot), (48 < u + fu) → (u ≤ 48) → WB D (tyM cy) 1 cy ad (skSp) A s (sB S 0 (schN (S.2.1 0) u)) H locs → lv_has ls 6 [(0, .ref (ad (0))), (1, .int (nI (16 + u)))] → W p l e R s m args below meth c H locs 0 0 Q (F0 m 3 ls []) := by
    intro fu
    induction fu with
    | zero =>
      intro u H locs ls h1 h2 w hl
      exact absurd h1 (by omega)
    | succ fu ih_3 =>
      intro u H locs ls h1 h2 w hl
      refine lv_iload_n hx hbc dX7_spread_3 rfl (lv_at hl 1 rfl) ?_
      refine lv_bipush (v := nI (64)) hx hbc dX7_spread_4 (by decide) ?_
      refine n_cmp_ge (tgt := 89) (by omega) (by omega) hx hbc dX7_spread_6 (by decide) (fun c_6 => ?_) (fun c_6 => ?_)
      · exact hend _ _ _ _ _ (by obtain rfl : u = 48 := (by omega); rfl) w dX7_spread_89
      · refine lv_aload_n hx hbc dX7_spread_9 rfl (lv_at hl 0 rfl) ?_
        refine lv_iload_n hx hbc dX7_spread_10 rfl (lv_at hl 1 rfl) ?_
        refine lv_bipush (v := nI (15)) hx hbc dX7_spread_11 (by decide) ?_
        refine n_isub (by omega) hx hbc dX7_spread_13 ?_
        refine wb_iald (k := (16 + u) - 15) (v := (schN (S.2.1 0) u) ((16 + u) - 15)) hx hbc w 0 (by decide) rfl 0 rfl rfl (by omega) (by decide) rfl dX7_spread_14 ?_
        refine lv_istore_n (lv' := [(2, .int ((schN (S.2.1 0) u) ((16 + u) - 15))), (0, .ref (ad (0))), (1, .int (nI (16 + u)))]) hx hbc dX7_spread_15 rfl hl (by decide) rfl (fun ls hl => ?_)
        refine lv_aload_n hx hbc dX7_spread_16 rfl (lv_at hl 1 rfl) ?_
        refine lv_iload_n hx hbc dX7_spread_17 rfl (lv_at hl 2 rfl) ?_
        refine lv_iconst (v := nI (2)) hx hbc dX7_spread_18 (by decide) ?_
        refine n_isub (by omega) hx hbc dX7_spread_19 ?_
        refine wb_iald (k := (16 + u) - 2) (v := (schN (S.2.1 0) u) ((16 + u) - 2)) hx hbc w 0 (by decide) rfl 0 rfl rfl (by omega) (by decide) rfl dX7_spread_20 ?_
        refine lv_istore_n (lv' := [(3, .int ((schN (S.2.1 0) u) ((16 + u) - 2))), (2, .int ((schN (S.2.1 0) u) ((16 + u) - 15))), (0, .ref (ad (0))), (1, .int (nI (16 + u)))]) hx hbc dX7_spread_21 rfl hl (by decide) rfl (fun ls hl => ?_)
        refine lv_iload_n hx hbc dX7_spread_22 rfl (lv_at hl 1 rfl) ?_
        refine lv_bipush (v := nI (7)) hx hbc dX7_spread_23 (by decide) ?_
        refine wb_Si (na := 2) (As := [.int ((schN (S.2.1 0) u) ((16 + u) - 15)), .int (nI (7))]) (rest := []) hx hbc hml hg hown w E0_ok trivial w.1 Sub.none (k_rotR l D cy ad al (sB S 0 (schN (S.2.1 0) u)) ((schN (S.2.1 0) u) ((16 + u) - 15)) 7 (by decide)) wk_294 wk_12 wk_292 wk_293 ⟨by decide, by decide, by decide⟩ ⟨by rw [hRf]; decide, by rw [hRl]; decide⟩ rfl hl.1 rfl (Nat.le_of_ble_eq_true rfl) dX7_spread_25 ⟨Nat.zero_le _, Nat.zero_le _⟩ (fun r S9 H locs hp w => ?_)
        subst hp
        refine lv_iload_n hx hbc dX7_spread_28 rfl (lv_at hl 1 rfl) ?_
        refine lv_bipush (v := nI (18)) hx hbc dX7_spread_29 (by decide) ?_
        refine wb_Si (na := 2) (As := [.int ((schN (S.2.1 0) u) ((16 + u) - 15)), .int (nI (18))]) (rest := [.int (rotr ((schN (S.2.1 0) u) ((16 + u) - 15)) 7)]) hx hbc hml hg hown w E0_ok trivial w.1 Sub.none (k_rotR l D cy ad al (sB S 0 (schN (S.2.1 0) u)) ((schN (S.2.1 0) u) ((16 + u) - 15)) 18 (by decide)) wk_294 wk_12 wk_292 wk_293 ⟨by decide, by decide, by decide⟩ ⟨by rw [hRf]; decide, by rw [hRl]; decide⟩ rfl hl.1 rfl (Nat.le_of_ble_eq_true rfl) dX7_spread_31 ⟨Nat.zero_le _, Nat.zero_le _⟩ (fun r S9 H locs hp w => ?_)
        subst hp
        refine lv_ixor hx hbc dX7_spread_34 ?_
        refine lv_iload_n hx hbc dX7_spread_35 rfl (lv_at hl 1 rfl) ?_
        refine lv_iconst (v := nI (3)) hx hbc dX7_spread_36 (by decide) ?_
        refine lv_iushr hx hbc dX7_spread_37 rfl ?_
        refine lv_ixor hx hbc dX7_spread_38 ?_
        refine lv_istore (lv' := [(4, .int (((rotr ((schN (S.2.1 0) u) ((16 + u) - 15)) 7) ^^^ (rotr ((schN (S.2.1 0) u) ((16 + u) - 15)) 18)) ^^^ ((((schN (S.2.1 0) u) ((16 + u) - 15)).toUInt32 >>> ((nI (3)).toUInt32 &&& Int32.toUInt32 31)).toInt32))), (3, .int ((schN (S.2.1 0) u) ((16 + u) - 2))), (2, .int ((schN (S.2.1 0) u) ((16 + u) - 15))), (0, .ref (ad (0))), (1, .int (nI (16 + u)))]) hx hbc dX7_spread_39 hl (by decide) rfl (fun ls hl => ?_)
        refine lv_iload_n hx hbc dX7_spread_41 rfl (lv_at hl 1 rfl) ?_
        refine lv_bipush (v := nI (17)) hx hbc dX7_spread_42 (by decide) ?_
        refine wb_Si (na := 2) (As := [.int ((schN (S.2.1 0) u) ((16 + u) - 2)), .int (nI (17))]) (rest := []) hx hbc hml hg hown w E0_ok trivial w.1 Sub.none (k_rotR l D cy ad al (sB S 0 (schN (S.2.1 0) u)) ((schN (S.2.1 0) u) ((16 + u) - 2)) 17 (by decide)) wk_294 wk_12 wk_292 wk_293 ⟨by decide, by decide, by decide⟩ ⟨by rw [hRf]; decide, by rw [hRl]; decide⟩ rfl hl.1 rfl (Nat.le_of_ble_eq_true rfl) dX7_spread_44 ⟨Nat.zero_le _, Nat.zero_le _⟩ (fun r S9 H locs hp w => ?_)
        subst hp
        refine lv_iload_n hx hbc dX7_spread_47 rfl (lv_at hl 1 rfl) ?_
        refine lv_bipush (v := nI (19)) hx hbc dX7_spread_48 (by decide) ?_
        refine wb_Si (na := 2) (As := [.int ((schN (S.2.1 0) u) ((16 + u) - 2)), .int (nI (19))]) (rest := [.int (rotr ((schN (S.2.1 0) u) ((16 + u) - 2)) 17)]) hx hbc hml hg hown w E0_ok trivial w.1 Sub.none (k_rotR l D cy ad al (sB S 0 (schN (S.2.1 0) u)) ((schN (S.2.1 0) u) ((16 + u) - 2)) 19 (by decide)) wk_294 wk_12 wk_292 wk_293 ⟨by decide, by decide, by decide⟩ ⟨by rw [hRf]; decide, by rw [hRl]; decide⟩ rfl hl.1 rfl (Nat.le_of_ble_eq_true rfl) dX7_spread_50 ⟨Nat.zero_le _, Nat.zero_le _⟩ (fun r S9 H locs hp w => ?_)
        subst hp
        refine lv_ixor hx hbc dX7_spread_53 ?_
        refine lv_iload_n hx hbc dX7_spread_54 rfl (lv_at hl 1 rfl) ?_
        refine lv_bipush (v := nI (10)) hx hbc dX7_spread_55 (by decide) ?_
        refine lv_iushr hx hbc dX7_spread_57 rfl ?_
        refine lv_ixor hx hbc dX7_spread_58 ?_
        refine lv_istore (lv' := [(5, .int (((rotr ((schN (S.2.1 0) u) ((16 + u) - 2)) 17) ^^^ (rotr ((schN (S.2.1 0) u) ((16 + u) - 2)) 19)) ^^^ ((((schN (S.2.1 0) u) ((16 + u) - 2)).toUInt32 >>> ((nI (10)).toUInt32 &&& Int32.toUInt32 31)).toInt32))), (4, .int (((rotr ((schN (S.2.1 0) u) ((16 + u) - 15)) 7) ^^^ (rotr ((schN (S.2.1 0) u) ((16 + u) - 15)) 18)) ^^^ ((((schN (S.2.1 0) u) ((16 + u) - 15)).toUInt32 >>> ((nI (3)).toUInt32 &&& Int32.toUInt32 31)).toInt32))), (3, .int ((schN (S.2.1 0) u) ((16 + u) - 2))), (2, .int ((schN (S.2.1 0) u) ((16 + u) - 15))), (0, .ref (ad (0))), (1, .int (nI (16 + u)))]) hx hbc dX7_spread_59 hl (by decide) rfl (fun ls hl => ?_)
        refine lv_aload_n hx hbc dX7_spread_61 rfl (lv_at hl 4 rfl) ?_
        refine lv_iload_n hx hbc dX7_spread_62 rfl (lv_at hl 5 rfl) ?_
        refine lv_iload hx hbc dX7_spread_63 (lv_at hl 0 rfl) ?_
        refine lv_aload_n hx hbc dX7_spread_65 rfl (lv_at hl 4 rfl) ?_
        refine lv_iload_n hx hbc dX7_spread_66 rfl (lv_at hl 5 rfl) ?_
        refine lv_bipush (v := nI (7)) hx hbc dX7_spread_67 (by decide) ?_
        refine n_isub (by omega) hx hbc dX7_spread_69 ?_
        refine wb_iald (k := (16 + u) - 7) (v := (schN (S.2.1 0) u) ((16 + u) - 7)) hx hbc w 0 (by decide) rfl 0 rfl rfl (by omega) (by decide) rfl dX7_spread_70 ?_
        refine lv_iadd hx hbc dX7_spread_71 ?_
        refine lv_iload hx hbc dX7_spread_72 (lv_at hl 1 rfl) ?_
        refine lv_iadd hx hbc dX7_spread_74 ?_
        refine lv_aload_n hx hbc dX7_spread_75 rfl (lv_at hl 4 rfl) ?_
        refine lv_iload_n hx hbc dX7_spread_76 rfl (lv_at hl 5 rfl) ?_
        refine lv_bipush (v := nI (16)) hx hbc dX7_spread_77 (by decide) ?_
        refine n_isub (by omega) hx hbc dX7_spread_79 ?_
        refine wb_iald (k := (16 + u) - 16) (v := (schN (S.2.1 0) u) ((16 + u) - 16)) hx hbc w 0 (by decide) rfl 0 rfl rfl (by omega) (by decide) rfl dX7_spread_80 ?_
        refine lv_iadd hx hbc dX7_spread_81 ?_
        refine wb_iast (k := 16 + u) (f := schN (S.2.1 0) u) hx hbc w 0 (by decide) rfl 0 rfl rfl (by omega) (by decide) rfl (sB_sB _ _ _ _) dX7_spread_82 (fun H locs w => ?_)
        refine lv_iinc (v := nI (16 + u + 1)) (lv' := [(1, .int (nI (16 + u + 1))), (5, .int (((rotr ((schN (S.2.1 0) u) ((16 + u) - 2)) 17) ^^^ (rotr ((schN (S.2.1 0) u) ((16 + u) - 2)) 19)) ^^^ ((((schN (S.2.1 0) u) ((16 + u) - 2)).toUInt32 >>> ((nI (10)).toUInt32 &&& Int32.toUInt32 31)).toInt32))), (4, .int (((rotr ((schN (S.2.1 0) u) ((16 + u) - 15)) 7) ^^^ (rotr ((schN (S.2.1 0) u) ((16 + u) - 15)) 18)) ^^^ ((((schN (S.2.1 0) u) ((16 + u) - 15)).toUInt32 >>> ((nI (3)).toUInt32 &&& Int32.toUInt32 31)).toInt32))), (3, .int ((schN (S.2.1 0) u) ((16 + u) - 2))), (2, .int ((schN (S.2.1 0) u) ((16 + u) - 15))), (0, .ref (ad (0)))]) hx hbc dX7_spread_83 hl (k := 5) rfl (ni_inc _ _) (by decide) rfl (fun ls hl => ?_)
        refine lv_goto (tgt := 3) hx hbc dX7_spread_86 (by decide) ?_
        exact ih_3 (u + 1) _ _ _ (by omega) (by omega) w (lv_sub hl [5, 0] rfl)
  exact lp_3 49 0 _ _ _ (by omega) (by omega) (WB_cast w (sB_beg _ _ _ rfl)) (lv_sub hl [1, 0] rfl)
set_option maxHeartbeats 4000000 in
set_option maxRecDepth 100000 in
theorem k_mwork (l : Launch) (D : va_G) (cy : Nat → ClassId) (ad al : Nat → Nat) (S : wS)  : CtV l yX2_work (Cond.code yX2_work cX2_work 12 none :: wsG) 2 46 [.ref (ad (0))] D (tyM cy) 3 cy ad (skMi 0) (EC al) (S) (fun S' => S' = mwk S) := by
  refine CtV_of (by decide) (Nat.le_of_ble_eq_true rfl) ?_
  intro p e s m args below meth c A ls R Q hB hRf hRl hend
  obtain ⟨hx, hbc, hr, hg, hown, hml, hlk, w, hE, hl⟩ := hB
  have hl : lv_has ls 12 [(0, .ref (ad (0)))] := hl
  refine lv_aload_n hx hbc dX2_work_0 rfl (lv_at hl 0 rfl) ?_
  refine wb_gr (t := 2) hx hbc hg hown w inG_X2 0 (by decide) rfl rfl 1 (by decide) rfl wk_54 dX2_work_1 ?_
  refine wc_SNv (na := 1) (f := (fun k => k + 2)) (As := [.ref (ad (2))]) (rest := []) hx hbc hml hg hown w (EC_ok al) hE w.1 ⟨fun k hk => (by obtain rfl : k = 0 := (by omega); exact ⟨by decide, rfl, rfl⟩), fun k k' h h' _ => (by omega)⟩ (k_spread l D cy (fun k => ad (k + 2)) al ((fun k => (S).1 (k + 2)), (fun k => (S).2.1 (k + 2)), (fun k => (S).2.2 (k + 2)))) wk_291 wk_1 (hE.2.2.2.2.2 _ (List.mem_of_getElem? (i := 6) rfl)) wk_290 ⟨by decide, by decide, by decide⟩ ⟨by rw [hRf]; decide, by rw [hRl]; decide⟩ rfl hl.1 rfl (Nat.le_of_ble_eq_true rfl) dX2_work_4 ⟨Nat.zero_le _, Nat.zero_le _⟩ (fun S9 hp H locs w => ?_)
  subst hp
  have w : WB D (tyM cy) 3 cy ad (skMi 0) A s (sB S 2 (schN (S.2.1 2) 48)) H locs := w _ ⟨fun k hk => (by obtain rfl : k = 0 := (by omega); rfl), fun i hi hn => (by rcases (show i = 0 ∨ i = 1 ∨ i = 2 by omega) with rfl | rfl | rfl <;> first | rfl | exact absurd rfl (hn 0 (by decide)))⟩
  refine lv_aload_n hx hbc dX2_work_7 rfl (lv_at hl 0 rfl) ?_
  refine wb_gr (t := 1) hx hbc hg hown w inG_X2 0 (by decide) rfl rfl 0 (by decide) rfl wk_53 dX2_work_8 ?_
  refine lv_iconst (v := nI (0)) hx hbc dX2_work_11 (by decide) ?_
  refine wb_iald (k := 0) (v := (S.2.1 1) 0) hx hbc w 1 (by decide) rfl 0 rfl rfl (by omega) (by decide) rfl dX2_work_12 ?_
  refine lv_istore_n (lv' := [(1, .int ((S.2.1 1) 0)), (0, .ref (ad (0)))]) hx hbc dX2_work_13 rfl hl (by decide) rfl (fun ls hl => ?_)
  refine lv_aload_n hx hbc dX2_work_14 rfl (lv_at hl 1 rfl) ?_
  refine wb_gr (t := 1) hx hbc hg hown w inG_X2 0 (by decide) rfl rfl 0 (by decide) rfl wk_53 dX2_work_15 ?_
  refine lv_iconst (v := nI (1)) hx hbc dX2_work_18 (by decide) ?_
  refine wb_iald (k := 1) (v := (S.2.1 1) 1) hx hbc w 1 (by decide) rfl 0 rfl rfl (by omega) (by decide) rfl dX2_work_19 ?_
  refine lv_istore_n (lv' := [(2, .int ((S.2.1 1) 1)), (1, .int ((S.2.1 1) 0)), (0, .ref (ad (0)))]) hx hbc dX2_work_20 rfl hl (by decide) rfl (fun ls hl => ?_)
  refine lv_aload_n hx hbc dX2_work_21 rfl (lv_at hl 2 rfl) ?_
  refine wb_gr (t := 1) hx hbc hg hown w inG_X2 0 (by decide) rfl rfl 0 (by decide) rfl wk_53 dX2_work_22 ?_
  refine lv_iconst (v := nI (2)) hx hbc dX2_work_25 (by decide) ?_
  refine wb_iald (k := 2) (v := (S.2.1 1) 2) hx hbc w 1 (by decide) rfl 0 rfl rfl (by omega) (by decide) rfl dX2_work_26 ?_
  refine lv_istore_n (lv' := [(3, .int ((S.2.1 1) 2)), (2, .int ((S.2.1 1) 1)), (1, .int ((S.2.1 1) 0)), (0, .ref (ad (0)))]) hx hbc dX2_work_27 rfl hl (by decide) rfl (fun ls hl => ?_)
  refine lv_aload_n hx hbc dX2_work_28 rfl (lv_at hl 3 rfl) ?_
  refine wb_gr (t := 1) hx hbc hg hown w inG_X2 0 (by decide) rfl rfl 0 (by decide) rfl wk_53 dX2_work_29 ?_
  refine lv_iconst (v := nI (3)) hx hbc dX2_work_32 (by decide) ?_
  refine wb_iald (k := 3) (v := (S.2.1 1) 3) hx hbc w 1 (by decide) rfl 0 rfl rfl (by omega) (by decide) rfl dX2_work_33 ?_
  refine lv_istore (lv' := [(4, .int ((S.2.1 1) 3)), (3, .int ((S.2.1 1) 2)), (2, .int ((S.2.1 1) 1)), (1, .int ((S.2.1 1) 0)), (0, .ref (ad (0)))]) hx hbc dX2_work_34 hl (by decide) rfl (fun ls hl => ?_)
  refine lv_aload_n hx hbc dX2_work_36 rfl (lv_at hl 4 rfl) ?_
  refine wb_gr (t := 1) hx hbc hg hown w inG_X2 0 (by decide) rfl rfl 0 (by decide) rfl wk_53 dX2_work_37 ?_
  refine lv_iconst (v := nI (4)) hx hbc dX2_work_40 (by decide) ?_
  refine wb_iald (k := 4) (v := (S.2.1 1) 4) hx hbc w 1 (by decide) rfl 0 rfl rfl (by omega) (by decide) rfl dX2_work_41 ?_
  refine lv_istore (lv' := [(5, .int ((S.2.1 1) 4)), (4, .int ((S.2.1 1) 3)), (3, .int ((S.2.1 1) 2)), (2, .int ((S.2.1 1) 1)), (1, .int ((S.2.1 1) 0)), (0, .ref (ad (0)))]) hx hbc dX2_work_42 hl (by decide) rfl (fun ls hl => ?_)
  refine lv_aload_n hx hbc dX2_work_44 rfl (lv_at hl 5 rfl) ?_
  refine wb_gr (t := 1) hx hbc hg hown w inG_X2 0 (by decide) rfl rfl 0 (by decide) rfl wk_53 dX2_work_45 ?_
  refine lv_iconst (v := nI (5)) hx hbc dX2_work_48 (by decide) ?_
  refine wb_iald (k := 5) (v := (S.2.1 1) 5) hx hbc w 1 (by decide) rfl 0 rfl rfl (by omega) (by decide) rfl dX2_work_49 ?_
  refine lv_istore (lv' := [(6, .int ((S.2.1 1) 5)), (5, .int ((S.2.1 1) 4)), (4, .int ((S.2.1 1) 3)), (3, .int ((S.2.1 1) 2)), (2, .int ((S.2.1 1) 1)), (1, .int ((S.2.1 1) 0)), (0, .ref (ad (0)))]) hx hbc dX2_work_50 hl (by decide) rfl (fun ls hl => ?_)
  refine lv_aload_n hx hbc dX2_work_52 rfl (lv_at hl 6 rfl) ?_
  refine wb_gr (t := 1) hx hbc hg hown w inG_X2 0 (by decide) rfl rfl 0 (by decide) rfl wk_53 dX2_work_53 ?_
  refine lv_bipush (v := nI (6)) hx hbc dX2_work_56 (by decide) ?_
  refine wb_iald (k := 6) (v := (S.2.1 1) 6) hx hbc w 1 (by decide) rfl 0 rfl rfl (by omega) (by decide) rfl dX2_work_58 ?_
  refine lv_istore (lv' := [(7, .int ((S.2.1 1) 6)), (6, .int ((S.2.1 1) 5)), (5, .int ((S.2.1 1) 4)), (4, .int ((S.2.1 1) 3)), (3, .int ((S.2.1 1) 2)), (2, .int ((S.2.1 1) 1)), (1, .int ((S.2.1 1) 0)), (0, .ref (ad (0)))]) hx hbc dX2_work_59 hl (by decide) rfl (fun ls hl => ?_)
  refine lv_aload_n hx hbc dX2_work_61 rfl (lv_at hl 7 rfl) ?_
  refine wb_gr (t := 1) hx hbc hg hown w inG_X2 0 (by decide) rfl rfl 0 (by decide) rfl wk_53 dX2_work_62 ?_
  refine lv_bipush (v := nI (7)) hx hbc dX2_work_65 (by decide) ?_
  refine wb_iald (k := 7) (v := (S.2.1 1) 7) hx hbc w 1 (by decide) rfl 0 rfl rfl (by omega) (by decide) rfl dX2_work_67 ?_
  refine lv_istore (lv' := [(8, .int ((S.2.1 1) 7)), (7, .int ((S.2.1 1) 6)), (6, .int ((S.2.1 1) 5)), (5, .int ((S.2.1 1) 4)), (4, .int ((S.2.1 1) 3)), (3, .int ((S.2.1 1) 2)), (2, .int ((S.2.1 1) 1)), (1, .int ((S.2.1 1) 0)), (0, .ref (ad (0)))]) hx hbc dX2_work_68 hl (by decide) rfl (fun ls hl => ?_)
  refine lv_iconst (v := nI (0)) hx hbc dX2_work_70 (by decide) ?_
  refine lv_istore (lv' := [(9, .int (nI (0))), (8, .int ((S.2.1 1) 7)), (7, .int ((S.2.1 1) 6)), (6, .int ((S.2.1 1) 5)), (5, .int ((S.2.1 1) 4)), (4, .int ((S.2.1 1) 3)), (3, .int ((S.2.1 1) 2)), (2, .int ((S.2.1 1) 1)), (1, .int ((S.2.1 1) 0)), (0, .ref (ad (0)))]) hx hbc dX2_work_71 hl (by decide) rfl (fun ls hl => ?_)
  have lp_73 : ∀ (fu : Nat) (t : Nat) (H : Heap) (locs : List Loc) (ls : Array Slot), (64 < t + fu) → (t ≤ 64) → WB D (tyM cy) 3 cy ad (skMi 0) A s (sB S 2 (schN (S.2.1 2) 48)) H locs → lv_has ls 12 [(0, .ref (ad (0))), (1, .int (rds kC (schN (S.2.1 2) 48) (S.2.1 1) t 0)), (2, .int (rds kC (schN (S.2.1 2) 48) (S.2.1 1) t 1)), (3, .int (rds kC (schN (S.2.1 2) 48) (S.2.1 1) t 2)), (4, .int (rds kC (schN (S.2.1 2) 48) (S.2.1 1) t 3)), (5, .int (rds kC (schN (S.2.1 2) 48) (S.2.1 1) t 4)), (6, .int (rds kC (schN (S.2.1 2) 48) (S.2.1 1) t 5)), (7, .int (rds kC (schN (S.2.1 2) 48) (S.2.1 1) t 6)), (8, .int (rds kC (schN (S.2.1 2) 48) (S.2.1 1) t 7)), (9, .int (nI (t)))] → W p l e R s m args below meth c H locs 0 0 Q (F0 m 73 ls []) := by
    intro fu
    induction fu with
    | zero =>
      intro t H locs ls h1 h2 w hl
      exact absurd h1 (by omega)
    | succ fu ih_73 =>
      intro t H locs ls h1 h2 w hl
      refine lv_iload hx hbc dX2_work_73 (lv_at hl 9 rfl) ?_
      refine lv_bipush (v := nI (64)) hx hbc dX2_work_75 (by decide) ?_
      refine n_cmp_ge (tgt := 208) (by omega) (by omega) hx hbc dX2_work_77 (by decide) (fun c_77 => ?_) (fun c_77 => ?_)
      · obtain rfl : t = 64 := by omega
        have hl := lv_sub (l' := [(0, .ref (ad (0))), (1, .int (rds kC (schN (S.2.1 2) 48) (S.2.1 1) 64 0)), (2, .int (rds kC (schN (S.2.1 2) 48) (S.2.1 1) 64 1)), (3, .int (rds kC (schN (S.2.1 2) 48) (S.2.1 1) 64 2)), (4, .int (rds kC (schN (S.2.1 2) 48) (S.2.1 1) 64 3)), (5, .int (rds kC (schN (S.2.1 2) 48) (S.2.1 1) 64 4)), (6, .int (rds kC (schN (S.2.1 2) 48) (S.2.1 1) 64 5)), (7, .int (rds kC (schN (S.2.1 2) 48) (S.2.1 1) 64 6)), (8, .int (rds kC (schN (S.2.1 2) 48) (S.2.1 1) 64 7))]) hl [0, 1, 2, 3, 4, 5, 6, 7, 8] rfl
        refine lv_aload_n hx hbc dX2_work_208 rfl (lv_at hl 0 rfl) ?_
        refine wb_gr (t := 1) hx hbc hg hown w inG_X2 0 (by decide) rfl rfl 0 (by decide) rfl wk_53 dX2_work_209 ?_
        refine lv_iconst (v := nI (0)) hx hbc dX2_work_212 (by decide) ?_
        refine lv_dup2_11 hx hbc dX2_work_213 rfl rfl ?_
        refine wb_iald (k := 0) (v := (S.2.1 1) 0) hx hbc w 1 (by decide) rfl 0 rfl rfl (by omega) (by decide) rfl dX2_work_214 ?_
        refine lv_iload_n hx hbc dX2_work_215 rfl (lv_at hl 1 rfl) ?_
        refine lv_iadd hx hbc dX2_work_216 ?_
        refine wb_iast (k := 0) (f := S.2.1 1) hx hbc w 1 (by decide) rfl 0 rfl rfl (by omega) (by decide) rfl rfl dX2_work_217 (fun H locs w => ?_)
        refine lv_aload_n hx hbc dX2_work_218 rfl (lv_at hl 0 rfl) ?_
        refine wb_gr (t := 1) hx hbc hg hown w inG_X2 0 (by decide) rfl rfl 0 (by decide) rfl wk_53 dX2_work_219 ?_
        refine lv_iconst (v := nI (1)) hx hbc dX2_work_222 (by decide) ?_
        refine lv_dup2_11 hx hbc dX2_work_223 rfl rfl ?_
        refine wb_iald (k := 1) (v := (S.2.1 1) 1) hx hbc w 1 (by decide) rfl 0 rfl rfl (by omega) (by decide) rfl dX2_work_224 ?_
        refine lv_iload_n hx hbc dX2_work_225 rfl (lv_at hl 2 rfl) ?_
        refine lv_iadd hx hbc dX2_work_226 ?_
        refine wb_iast (k := 1) (f := upd (S.2.1 1) 0 (((S.2.1 1) 0) + (rds kC (schN (S.2.1 2) 48) (S.2.1 1) 64 0))) hx hbc w 1 (by decide) rfl 0 rfl rfl (by omega) (by decide) rfl (sB_sB _ _ _ _) dX2_work_227 (fun H locs w => ?_)
        refine lv_aload_n hx hbc dX2_work_228 rfl (lv_at hl 0 rfl) ?_
        refine wb_gr (t := 1) hx hbc hg hown w inG_X2 0 (by decide) rfl rfl 0 (by decide) rfl wk_53 dX2_work_229 ?_
        refine lv_iconst (v := nI (2)) hx hbc dX2_work_232 (by decide) ?_
        refine lv_dup2_11 hx hbc dX2_work_233 rfl rfl ?_
        refine wb_iald (k := 2) (v := (S.2.1 1) 2) hx hbc w 1 (by decide) rfl 0 rfl rfl (by omega) (by decide) rfl dX2_work_234 ?_
        refine lv_iload_n hx hbc dX2_work_235 rfl (lv_at hl 3 rfl) ?_
        refine lv_iadd hx hbc dX2_work_236 ?_
        refine wb_iast (k := 2) (f := upd (upd (S.2.1 1) 0 (((S.2.1 1) 0) + (rds kC (schN (S.2.1 2) 48) (S.2.1 1) 64 0))) 1 (((S.2.1 1) 1) + (rds kC (schN (S.2.1 2) 48) (S.2.1 1) 64 1))) hx hbc w 1 (by decide) rfl 0 rfl rfl (by omega) (by decide) rfl (sB_sB _ _ _ _) dX2_work_237 (fun H locs w => ?_)
        refine lv_aload_n hx hbc dX2_work_238 rfl (lv_at hl 0 rfl) ?_
        refine wb_gr (t := 1) hx hbc hg hown w inG_X2 0 (by decide) rfl rfl 0 (by decide) rfl wk_53 dX2_work_239 ?_
        refine lv_iconst (v := nI (3)) hx hbc dX2_work_242 (by decide) ?_
        refine lv_dup2_11 hx hbc dX2_work_243 rfl rfl ?_
        refine wb_iald (k := 3) (v := (S.2.1 1) 3) hx hbc w 1 (by decide) rfl 0 rfl rfl (by omega) (by decide) rfl dX2_work_244 ?_
        refine lv_iload hx hbc dX2_work_245 (lv_at hl 4 rfl) ?_
        refine lv_iadd hx hbc dX2_work_247 ?_
        refine wb_iast (k := 3) (f := upd (upd (upd (S.2.1 1) 0 (((S.2.1 1) 0) + (rds kC (schN (S.2.1 2) 48) (S.2.1 1) 64 0))) 1 (((S.2.1 1) 1) + (rds kC (schN (S.2.1 2) 48) (S.2.1 1) 64 1))) 2 (((S.2.1 1) 2) + (rds kC (schN (S.2.1 2) 48) (S.2.1 1) 64 2))) hx hbc w 1 (by decide) rfl 0 rfl rfl (by omega) (by decide) rfl (sB_sB _ _ _ _) dX2_work_248 (fun H locs w => ?_)
        refine lv_aload_n hx hbc dX2_work_249 rfl (lv_at hl 0 rfl) ?_
        refine wb_gr (t := 1) hx hbc hg hown w inG_X2 0 (by decide) rfl rfl 0 (by decide) rfl wk_53 dX2_work_250 ?_
        refine lv_iconst (v := nI (4)) hx hbc dX2_work_253 (by decide) ?_
        refine lv_dup2_11 hx hbc dX2_work_254 rfl rfl ?_
        refine wb_iald (k := 4) (v := (S.2.1 1) 4) hx hbc w 1 (by decide) rfl 0 rfl rfl (by omega) (by decide) rfl dX2_work_255 ?_
        refine lv_iload hx hbc dX2_work_256 (lv_at hl 5 rfl) ?_
        refine lv_iadd hx hbc dX2_work_258 ?_
        refine wb_iast (k := 4) (f := upd (upd (upd (upd (S.2.1 1) 0 (((S.2.1 1) 0) + (rds kC (schN (S.2.1 2) 48) (S.2.1 1) 64 0))) 1 (((S.2.1 1) 1) + (rds kC (schN (S.2.1 2) 48) (S.2.1 1) 64 1))) 2 (((S.2.1 1) 2) + (rds kC (schN (S.2.1 2) 48) (S.2.1 1) 64 2))) 3 (((S.2.1 1) 3) + (rds kC (schN (S.2.1 2) 48) (S.2.1 1) 64 3))) hx hbc w 1 (by decide) rfl 0 rfl rfl (by omega) (by decide) rfl (sB_sB _ _ _ _) dX2_work_259 (fun H locs w => ?_)
        refine lv_aload_n hx hbc dX2_work_260 rfl (lv_at hl 0 rfl) ?_
        refine wb_gr (t := 1) hx hbc hg hown w inG_X2 0 (by decide) rfl rfl 0 (by decide) rfl wk_53 dX2_work_261 ?_
        refine lv_iconst (v := nI (5)) hx hbc dX2_work_264 (by decide) ?_
        refine lv_dup2_11 hx hbc dX2_work_265 rfl rfl ?_
        refine wb_iald (k := 5) (v := (S.2.1 1) 5) hx hbc w 1 (by decide) rfl 0 rfl rfl (by omega) (by decide) rfl dX2_work_266 ?_
        refine lv_iload hx hbc dX2_work_267 (lv_at hl 6 rfl) ?_
        refine lv_iadd hx hbc dX2_work_269 ?_
        refine wb_iast (k := 5) (f := upd (upd (upd (upd (upd (S.2.1 1) 0 (((S.2.1 1) 0) + (rds kC (schN (S.2.1 2) 48) (S.2.1 1) 64 0))) 1 (((S.2.1 1) 1) + (rds kC (schN (S.2.1 2) 48) (S.2.1 1) 64 1))) 2 (((S.2.1 1) 2) + (rds kC (schN (S.2.1 2) 48) (S.2.1 1) 64 2))) 3 (((S.2.1 1) 3) + (rds kC (schN (S.2.1 2) 48) (S.2.1 1) 64 3))) 4 (((S.2.1 1) 4) + (rds kC (schN (S.2.1 2) 48) (S.2.1 1) 64 4))) hx hbc w 1 (by decide) rfl 0 rfl rfl (by omega) (by decide) rfl (sB_sB _ _ _ _) dX2_work_270 (fun H locs w => ?_)
        refine lv_aload_n hx hbc dX2_work_271 rfl (lv_at hl 0 rfl) ?_
        refine wb_gr (t := 1) hx hbc hg hown w inG_X2 0 (by decide) rfl rfl 0 (by decide) rfl wk_53 dX2_work_272 ?_
        refine lv_bipush (v := nI (6)) hx hbc dX2_work_275 (by decide) ?_
        refine lv_dup2_11 hx hbc dX2_work_277 rfl rfl ?_
        refine wb_iald (k := 6) (v := (S.2.1 1) 6) hx hbc w 1 (by decide) rfl 0 rfl rfl (by omega) (by decide) rfl dX2_work_278 ?_
        refine lv_iload hx hbc dX2_work_279 (lv_at hl 7 rfl) ?_
        refine lv_iadd hx hbc dX2_work_281 ?_
        refine wb_iast (k := 6) (f := upd (upd (upd (upd (upd (upd (S.2.1 1) 0 (((S.2.1 1) 0) + (rds kC (schN (S.2.1 2) 48) (S.2.1 1) 64 0))) 1 (((S.2.1 1) 1) + (rds kC (schN (S.2.1 2) 48) (S.2.1 1) 64 1))) 2 (((S.2.1 1) 2) + (rds kC (schN (S.2.1 2) 48) (S.2.1 1) 64 2))) 3 (((S.2.1 1) 3) + (rds kC (schN (S.2.1 2) 48) (S.2.1 1) 64 3))) 4 (((S.2.1 1) 4) + (rds kC (schN (S.2.1 2) 48) (S.2.1 1) 64 4))) 5 (((S.2.1 1) 5) + (rds kC (schN (S.2.1 2) 48) (S.2.1 1) 64 5))) hx hbc w 1 (by decide) rfl 0 rfl rfl (by omega) (by decide) rfl (sB_sB _ _ _ _) dX2_work_282 (fun H locs w => ?_)
        refine lv_aload_n hx hbc dX2_work_283 rfl (lv_at hl 0 rfl) ?_
        refine wb_gr (t := 1) hx hbc hg hown w inG_X2 0 (by decide) rfl rfl 0 (by decide) rfl wk_53 dX2_work_284 ?_
        refine lv_bipush (v := nI (7)) hx hbc dX2_work_287 (by decide) ?_
        refine lv_dup2_11 hx hbc dX2_work_289 rfl rfl ?_
        refine wb_iald (k := 7) (v := (S.2.1 1) 7) hx hbc w 1 (by decide) rfl 0 rfl rfl (by omega) (by decide) rfl dX2_work_290 ?_
        refine lv_iload hx hbc dX2_work_291 (lv_at hl 8 rfl) ?_
        refine lv_iadd hx hbc dX2_work_293 ?_
        refine wb_iast (k := 7) (f := upd (upd (upd (upd (upd (upd (upd (S.2.1 1) 0 (((S.2.1 1) 0) + (rds kC (schN (S.2.1 2) 48) (S.2.1 1) 64 0))) 1 (((S.2.1 1) 1) + (rds kC (schN (S.2.1 2) 48) (S.2.1 1) 64 1))) 2 (((S.2.1 1) 2) + (rds kC (schN (S.2.1 2) 48) (S.2.1 1) 64 2))) 3 (((S.2.1 1) 3) + (rds kC (schN (S.2.1 2) 48) (S.2.1 1) 64 3))) 4 (((S.2.1 1) 4) + (rds kC (schN (S.2.1 2) 48) (S.2.1 1) 64 4))) 5 (((S.2.1 1) 5) + (rds kC (schN (S.2.1 2) 48) (S.2.1 1) 64 5))) 6 (((S.2.1 1) 6) + (rds kC (schN (S.2.1 2) 48) (S.2.1 1) 64 6))) hx hbc w 1 (by decide) rfl 0 rfl rfl (by omega) (by decide) rfl (sB_sB _ _ _ _) dX2_work_294 (fun H locs w => ?_)
        exact hend _ _ _ _ _ rfl w dX2_work_295
      · refine lv_iload hx hbc dX2_work_80 (lv_at hl 8 rfl) ?_
        refine lv_iload hx hbc dX2_work_82 (lv_at hl 5 rfl) ?_
        refine lv_bipush (v := nI (6)) hx hbc dX2_work_84 (by decide) ?_
        refine wb_Si (na := 2) (As := [.int (rds kC (schN (S.2.1 2) 48) (S.2.1 1) t 4), .int (nI (6))]) (rest := [.int (rds kC (schN (S.2.1 2) 48) (S.2.1 1) t 7)]) hx hbc hml hg hown w E0_ok trivial w.1 Sub.none (k_rotR l D cy ad al (sB S 2 (schN (S.2.1 2) 48)) (rds kC (schN (S.2.1 2) 48) (S.2.1 1) t 4) 6 (by decide)) wk_294 wk_12 wk_295 wk_293 ⟨by decide, by decide, by decide⟩ ⟨by rw [hRf]; decide, by rw [hRl]; decide⟩ rfl hl.1 rfl (Nat.le_of_ble_eq_true rfl) dX2_work_86 ⟨Nat.zero_le _, Nat.zero_le _⟩ (fun r S9 H locs hp w => ?_)
        subst hp
        refine lv_iload hx hbc dX2_work_89 (lv_at hl 5 rfl) ?_
        refine lv_bipush (v := nI (11)) hx hbc dX2_work_91 (by decide) ?_
        refine wb_Si (na := 2) (As := [.int (rds kC (schN (S.2.1 2) 48) (S.2.1 1) t 4), .int (nI (11))]) (rest := [.int (rotr (rds kC (schN (S.2.1 2) 48) (S.2.1 1) t 4) 6), .int (rds kC (schN (S.2.1 2) 48) (S.2.1 1) t 7)]) hx hbc hml hg hown w E0_ok trivial w.1 Sub.none (k_rotR l D cy ad al (sB S 2 (schN (S.2.1 2) 48)) (rds kC (schN (S.2.1 2) 48) (S.2.1 1) t 4) 11 (by decide)) wk_294 wk_12 wk_295 wk_293 ⟨by decide, by decide, by decide⟩ ⟨by rw [hRf]; decide, by rw [hRl]; decide⟩ rfl hl.1 rfl (Nat.le_of_ble_eq_true rfl) dX2_work_93 ⟨Nat.zero_le _, Nat.zero_le _⟩ (fun r S9 H locs hp w => ?_)
        subst hp
        refine lv_ixor hx hbc dX2_work_96 ?_
        refine lv_iload hx hbc dX2_work_97 (lv_at hl 5 rfl) ?_
        refine lv_bipush (v := nI (25)) hx hbc dX2_work_99 (by decide) ?_
        refine wb_Si (na := 2) (As := [.int (rds kC (schN (S.2.1 2) 48) (S.2.1 1) t 4), .int (nI (25))]) (rest := [.int ((rotr (rds kC (schN (S.2.1 2) 48) (S.2.1 1) t 4) 6) ^^^ (rotr (rds kC (schN (S.2.1 2) 48) (S.2.1 1) t 4) 11)), .int (rds kC (schN (S.2.1 2) 48) (S.2.1 1) t 7)]) hx hbc hml hg hown w E0_ok trivial w.1 Sub.none (k_rotR l D cy ad al (sB S 2 (schN (S.2.1 2) 48)) (rds kC (schN (S.2.1 2) 48) (S.2.1 1) t 4) 25 (by decide)) wk_294 wk_12 wk_295 wk_293 ⟨by decide, by decide, by decide⟩ ⟨by rw [hRf]; decide, by rw [hRl]; decide⟩ rfl hl.1 rfl (Nat.le_of_ble_eq_true rfl) dX2_work_101 ⟨Nat.zero_le _, Nat.zero_le _⟩ (fun r S9 H locs hp w => ?_)
        subst hp
        refine lv_ixor hx hbc dX2_work_104 ?_
        refine lv_iadd hx hbc dX2_work_105 ?_
        refine lv_iload hx hbc dX2_work_106 (lv_at hl 5 rfl) ?_
        refine lv_iload hx hbc dX2_work_108 (lv_at hl 6 rfl) ?_
        refine lv_iand hx hbc dX2_work_110 ?_
        refine lv_iload hx hbc dX2_work_111 (lv_at hl 5 rfl) ?_
        refine lv_iconst (v := (-1)) hx hbc dX2_work_113 (by decide) ?_
        refine lv_ixor hx hbc dX2_work_114 ?_
        refine lv_iload hx hbc dX2_work_115 (lv_at hl 7 rfl) ?_
        refine lv_iand hx hbc dX2_work_117 ?_
        refine lv_ixor hx hbc dX2_work_118 ?_
        refine lv_iadd hx hbc dX2_work_119 ?_
        refine va_getsN hx hbc hE.1.1 w.2.2.2.1 hown (va_Nw.use rfl (hE.2.2.2.2.1 _ (List.mem_of_getElem? (i := 1) rfl))) (fun _ h9 => h9) dX2_work_120 ?_
        refine lv_iload hx hbc dX2_work_123 (lv_at hl 9 rfl) ?_
        refine wb_sld (k := t) (v := kC t) hx hbc w hE.1 rfl (by omega) (by decide) rfl dX2_work_125 ?_
        refine lv_iadd hx hbc dX2_work_126 ?_
        refine lv_aload_n hx hbc dX2_work_127 rfl (lv_at hl 0 rfl) ?_
        refine wb_gr (t := 2) hx hbc hg hown w inG_X2 0 (by decide) rfl rfl 1 (by decide) rfl wk_54 dX2_work_128 ?_
        refine lv_iload hx hbc dX2_work_131 (lv_at hl 9 rfl) ?_
        refine wb_iald (k := t) (v := (schN (S.2.1 2) 48) t) hx hbc w 2 (by decide) rfl 0 rfl rfl (by omega) (by decide) rfl dX2_work_133 ?_
        refine lv_iadd hx hbc dX2_work_134 ?_
        refine lv_istore (lv' := [(10, .int (((((rds kC (schN (S.2.1 2) 48) (S.2.1 1) t 7) + (((rotr (rds kC (schN (S.2.1 2) 48) (S.2.1 1) t 4) 6) ^^^ (rotr (rds kC (schN (S.2.1 2) 48) (S.2.1 1) t 4) 11)) ^^^ (rotr (rds kC (schN (S.2.1 2) 48) (S.2.1 1) t 4) 25))) + (((rds kC (schN (S.2.1 2) 48) (S.2.1 1) t 4) &&& (rds kC (schN (S.2.1 2) 48) (S.2.1 1) t 5)) ^^^ (((rds kC (schN (S.2.1 2) 48) (S.2.1 1) t 4) ^^^ ((-1))) &&& (rds kC (schN (S.2.1 2) 48) (S.2.1 1) t 6)))) + (kC t)) + ((schN (S.2.1 2) 48) t))), (0, .ref (ad (0))), (1, .int (rds kC (schN (S.2.1 2) 48) (S.2.1 1) t 0)), (2, .int (rds kC (schN (S.2.1 2) 48) (S.2.1 1) t 1)), (3, .int (rds kC (schN (S.2.1 2) 48) (S.2.1 1) t 2)), (4, .int (rds kC (schN (S.2.1 2) 48) (S.2.1 1) t 3)), (5, .int (rds kC (schN (S.2.1 2) 48) (S.2.1 1) t 4)), (6, .int (rds kC (schN (S.2.1 2) 48) (S.2.1 1) t 5)), (7, .int (rds kC (schN (S.2.1 2) 48) (S.2.1 1) t 6)), (8, .int (rds kC (schN (S.2.1 2) 48) (S.2.1 1) t 7)), (9, .int (nI (t)))]) hx hbc dX2_work_135 hl (by decide) rfl (fun ls hl => ?_)
        refine lv_iload_n hx hbc dX2_work_137 rfl (lv_at hl 2 rfl) ?_
        refine lv_iconst (v := nI (2)) hx hbc dX2_work_138 (by decide) ?_
        refine wb_Si (na := 2) (As := [.int (rds kC (schN (S.2.1 2) 48) (S.2.1 1) t 0), .int (nI (2))]) (rest := []) hx hbc hml hg hown w E0_ok trivial w.1 Sub.none (k_rotR l D cy ad al (sB S 2 (schN (S.2.1 2) 48)) (rds kC (schN (S.2.1 2) 48) (S.2.1 1) t 0) 2 (by decide)) wk_294 wk_12 wk_295 wk_293 ⟨by decide, by decide, by decide⟩ ⟨by rw [hRf]; decide, by rw [hRl]; decide⟩ rfl hl.1 rfl (Nat.le_of_ble_eq_true rfl) dX2_work_139 ⟨Nat.zero_le _, Nat.zero_le _⟩ (fun r S9 H locs hp w => ?_)
        subst hp
        refine lv_iload_n hx hbc dX2_work_142 rfl (lv_at hl 2 rfl) ?_
        refine lv_bipush (v := nI (13)) hx hbc dX2_work_143 (by decide) ?_
        refine wb_Si (na := 2) (As := [.int (rds kC (schN (S.2.1 2) 48) (S.2.1 1) t 0), .int (nI (13))]) (rest := [.int (rotr (rds kC (schN (S.2.1 2) 48) (S.2.1 1) t 0) 2)]) hx hbc hml hg hown w E0_ok trivial w.1 Sub.none (k_rotR l D cy ad al (sB S 2 (schN (S.2.1 2) 48)) (rds kC (schN (S.2.1 2) 48) (S.2.1 1) t 0) 13 (by decide)) wk_294 wk_12 wk_295 wk_293 ⟨by decide, by decide, by decide⟩ ⟨by rw [hRf]; decide, by rw [hRl]; decide⟩ rfl hl.1 rfl (Nat.le_of_ble_eq_true rfl) dX2_work_145 ⟨Nat.zero_le _, Nat.zero_le _⟩ (fun r S9 H locs hp w => ?_)
        subst hp
        refine lv_ixor hx hbc dX2_work_148 ?_
        refine lv_iload_n hx hbc dX2_work_149 rfl (lv_at hl 2 rfl) ?_
        refine lv_bipush (v := nI (22)) hx hbc dX2_work_150 (by decide) ?_
        refine wb_Si (na := 2) (As := [.int (rds kC (schN (S.2.1 2) 48) (S.2.1 1) t 0), .int (nI (22))]) (rest := [.int ((rotr (rds kC (schN (S.2.1 2) 48) (S.2.1 1) t 0) 2) ^^^ (rotr (rds kC (schN (S.2.1 2) 48) (S.2.1 1) t 0) 13))]) hx hbc hml hg hown w E0_ok trivial w.1 Sub.none (k_rotR l D cy ad al (sB S 2 (schN (S.2.1 2) 48)) (rds kC (schN (S.2.1 2) 48) (S.2.1 1) t 0) 22 (by decide)) wk_294 wk_12 wk_295 wk_293 ⟨by decide, by decide, by decide⟩ ⟨by rw [hRf]; decide, by rw [hRl]; decide⟩ rfl hl.1 rfl (Nat.le_of_ble_eq_true rfl) dX2_work_152 ⟨Nat.zero_le _, Nat.zero_le _⟩ (fun r S9 H locs hp w => ?_)
        subst hp
        refine lv_ixor hx hbc dX2_work_155 ?_
        refine lv_iload_n hx hbc dX2_work_156 rfl (lv_at hl 2 rfl) ?_
        refine lv_iload_n hx hbc dX2_work_157 rfl (lv_at hl 3 rfl) ?_
        refine lv_iand hx hbc dX2_work_158 ?_
        refine lv_iload_n hx hbc dX2_work_159 rfl (lv_at hl 2 rfl) ?_
        refine lv_iload_n hx hbc dX2_work_160 rfl (lv_at hl 4 rfl) ?_
        refine lv_iand hx hbc dX2_work_161 ?_
        refine lv_ixor hx hbc dX2_work_162 ?_
        refine lv_iload_n hx hbc dX2_work_163 rfl (lv_at hl 3 rfl) ?_
        refine lv_iload_n hx hbc dX2_work_164 rfl (lv_at hl 4 rfl) ?_
        refine lv_iand hx hbc dX2_work_165 ?_
        refine lv_ixor hx hbc dX2_work_166 ?_
        refine lv_iadd hx hbc dX2_work_167 ?_
        refine lv_istore (lv' := [(11, .int ((((rotr (rds kC (schN (S.2.1 2) 48) (S.2.1 1) t 0) 2) ^^^ (rotr (rds kC (schN (S.2.1 2) 48) (S.2.1 1) t 0) 13)) ^^^ (rotr (rds kC (schN (S.2.1 2) 48) (S.2.1 1) t 0) 22)) + ((((rds kC (schN (S.2.1 2) 48) (S.2.1 1) t 0) &&& (rds kC (schN (S.2.1 2) 48) (S.2.1 1) t 1)) ^^^ ((rds kC (schN (S.2.1 2) 48) (S.2.1 1) t 0) &&& (rds kC (schN (S.2.1 2) 48) (S.2.1 1) t 2))) ^^^ ((rds kC (schN (S.2.1 2) 48) (S.2.1 1) t 1) &&& (rds kC (schN (S.2.1 2) 48) (S.2.1 1) t 2))))), (10, .int (((((rds kC (schN (S.2.1 2) 48) (S.2.1 1) t 7) + (((rotr (rds kC (schN (S.2.1 2) 48) (S.2.1 1) t 4) 6) ^^^ (rotr (rds kC (schN (S.2.1 2) 48) (S.2.1 1) t 4) 11)) ^^^ (rotr (rds kC (schN (S.2.1 2) 48) (S.2.1 1) t 4) 25))) + (((rds kC (schN (S.2.1 2) 48) (S.2.1 1) t 4) &&& (rds kC (schN (S.2.1 2) 48) (S.2.1 1) t 5)) ^^^ (((rds kC (schN (S.2.1 2) 48) (S.2.1 1) t 4) ^^^ ((-1))) &&& (rds kC (schN (S.2.1 2) 48) (S.2.1 1) t 6)))) + (kC t)) + ((schN (S.2.1 2) 48) t))), (0, .ref (ad (0))), (1, .int (rds kC (schN (S.2.1 2) 48) (S.2.1 1) t 0)), (2, .int (rds kC (schN (S.2.1 2) 48) (S.2.1 1) t 1)), (3, .int (rds kC (schN (S.2.1 2) 48) (S.2.1 1) t 2)), (4, .int (rds kC (schN (S.2.1 2) 48) (S.2.1 1) t 3)), (5, .int (rds kC (schN (S.2.1 2) 48) (S.2.1 1) t 4)), (6, .int (rds kC (schN (S.2.1 2) 48) (S.2.1 1) t 5)), (7, .int (rds kC (schN (S.2.1 2) 48) (S.2.1 1) t 6)), (8, .int (rds kC (schN (S.2.1 2) 48) (S.2.1 1) t 7)), (9, .int (nI (t)))]) hx hbc dX2_work_168 hl (by decide) rfl (fun ls hl => ?_)
        refine lv_iload hx hbc dX2_work_170 (lv_at hl 9 rfl) ?_
        refine lv_istore (lv' := [(8, .int (rds kC (schN (S.2.1 2) 48) (S.2.1 1) t 6)), (11, .int ((((rotr (rds kC (schN (S.2.1 2) 48) (S.2.1 1) t 0) 2) ^^^ (rotr (rds kC (schN (S.2.1 2) 48) (S.2.1 1) t 0) 13)) ^^^ (rotr (rds kC (schN (S.2.1 2) 48) (S.2.1 1) t 0) 22)) + ((((rds kC (schN (S.2.1 2) 48) (S.2.1 1) t 0) &&& (rds kC (schN (S.2.1 2) 48) (S.2.1 1) t 1)) ^^^ ((rds kC (schN (S.2.1 2) 48) (S.2.1 1) t 0) &&& (rds kC (schN (S.2.1 2) 48) (S.2.1 1) t 2))) ^^^ ((rds kC (schN (S.2.1 2) 48) (S.2.1 1) t 1) &&& (rds kC (schN (S.2.1 2) 48) (S.2.1 1) t 2))))), (10, .int (((((rds kC (schN (S.2.1 2) 48) (S.2.1 1) t 7) + (((rotr (rds kC (schN (S.2.1 2) 48) (S.2.1 1) t 4) 6) ^^^ (rotr (rds kC (schN (S.2.1 2) 48) (S.2.1 1) t 4) 11)) ^^^ (rotr (rds kC (schN (S.2.1 2) 48) (S.2.1 1) t 4) 25))) + (((rds kC (schN (S.2.1 2) 48) (S.2.1 1) t 4) &&& (rds kC (schN (S.2.1 2) 48) (S.2.1 1) t 5)) ^^^ (((rds kC (schN (S.2.1 2) 48) (S.2.1 1) t 4) ^^^ ((-1))) &&& (rds kC (schN (S.2.1 2) 48) (S.2.1 1) t 6)))) + (kC t)) + ((schN (S.2.1 2) 48) t))), (0, .ref (ad (0))), (1, .int (rds kC (schN (S.2.1 2) 48) (S.2.1 1) t 0)), (2, .int (rds kC (schN (S.2.1 2) 48) (S.2.1 1) t 1)), (3, .int (rds kC (schN (S.2.1 2) 48) (S.2.1 1) t 2)), (4, .int (rds kC (schN (S.2.1 2) 48) (S.2.1 1) t 3)), (5, .int (rds kC (schN (S.2.1 2) 48) (S.2.1 1) t 4)), (6, .int (rds kC (schN (S.2.1 2) 48) (S.2.1 1) t 5)), (7, .int (rds kC (schN (S.2.1 2) 48) (S.2.1 1) t 6)), (9, .int (nI (t)))]) hx hbc dX2_work_172 hl (by decide) rfl (fun ls hl => ?_)
        refine lv_iload hx hbc dX2_work_174 (lv_at hl 9 rfl) ?_
        refine lv_istore (lv' := [(7, .int (rds kC (schN (S.2.1 2) 48) (S.2.1 1) t 5)), (8, .int (rds kC (schN (S.2.1 2) 48) (S.2.1 1) t 6)), (11, .int ((((rotr (rds kC (schN (S.2.1 2) 48) (S.2.1 1) t 0) 2) ^^^ (rotr (rds kC (schN (S.2.1 2) 48) (S.2.1 1) t 0) 13)) ^^^ (rotr (rds kC (schN (S.2.1 2) 48) (S.2.1 1) t 0) 22)) + ((((rds kC (schN (S.2.1 2) 48) (S.2.1 1) t 0) &&& (rds kC (schN (S.2.1 2) 48) (S.2.1 1) t 1)) ^^^ ((rds kC (schN (S.2.1 2) 48) (S.2.1 1) t 0) &&& (rds kC (schN (S.2.1 2) 48) (S.2.1 1) t 2))) ^^^ ((rds kC (schN (S.2.1 2) 48) (S.2.1 1) t 1) &&& (rds kC (schN (S.2.1 2) 48) (S.2.1 1) t 2))))), (10, .int (((((rds kC (schN (S.2.1 2) 48) (S.2.1 1) t 7) + (((rotr (rds kC (schN (S.2.1 2) 48) (S.2.1 1) t 4) 6) ^^^ (rotr (rds kC (schN (S.2.1 2) 48) (S.2.1 1) t 4) 11)) ^^^ (rotr (rds kC (schN (S.2.1 2) 48) (S.2.1 1) t 4) 25))) + (((rds kC (schN (S.2.1 2) 48) (S.2.1 1) t 4) &&& (rds kC (schN (S.2.1 2) 48) (S.2.1 1) t 5)) ^^^ (((rds kC (schN (S.2.1 2) 48) (S.2.1 1) t 4) ^^^ ((-1))) &&& (rds kC (schN (S.2.1 2) 48) (S.2.1 1) t 6)))) + (kC t)) + ((schN (S.2.1 2) 48) t))), (0, .ref (ad (0))), (1, .int (rds kC (schN (S.2.1 2) 48) (S.2.1 1) t 0)), (2, .int (rds kC (schN (S.2.1 2) 48) (S.2.1 1) t 1)), (3, .int (rds kC (schN (S.2.1 2) 48) (S.2.1 1) t 2)), (4, .int (rds kC (schN (S.2.1 2) 48) (S.2.1 1) t 3)), (5, .int (rds kC (schN (S.2.1 2) 48) (S.2.1 1) t 4)), (6, .int (rds kC (schN (S.2.1 2) 48) (S.2.1 1) t 5)), (9, .int (nI (t)))]) hx hbc dX2_work_176 hl (by decide) rfl (fun ls hl => ?_)
        refine lv_iload hx hbc dX2_work_178 (lv_at hl 9 rfl) ?_
        refine lv_istore (lv' := [(6, .int (rds kC (schN (S.2.1 2) 48) (S.2.1 1) t 4)), (7, .int (rds kC (schN (S.2.1 2) 48) (S.2.1 1) t 5)), (8, .int (rds kC (schN (S.2.1 2) 48) (S.2.1 1) t 6)), (11, .int ((((rotr (rds kC (schN (S.2.1 2) 48) (S.2.1 1) t 0) 2) ^^^ (rotr (rds kC (schN (S.2.1 2) 48) (S.2.1 1) t 0) 13)) ^^^ (rotr (rds kC (schN (S.2.1 2) 48) (S.2.1 1) t 0) 22)) + ((((rds kC (schN (S.2.1 2) 48) (S.2.1 1) t 0) &&& (rds kC (schN (S.2.1 2) 48) (S.2.1 1) t 1)) ^^^ ((rds kC (schN (S.2.1 2) 48) (S.2.1 1) t 0) &&& (rds kC (schN (S.2.1 2) 48) (S.2.1 1) t 2))) ^^^ ((rds kC (schN (S.2.1 2) 48) (S.2.1 1) t 1) &&& (rds kC (schN (S.2.1 2) 48) (S.2.1 1) t 2))))), (10, .int (((((rds kC (schN (S.2.1 2) 48) (S.2.1 1) t 7) + (((rotr (rds kC (schN (S.2.1 2) 48) (S.2.1 1) t 4) 6) ^^^ (rotr (rds kC (schN (S.2.1 2) 48) (S.2.1 1) t 4) 11)) ^^^ (rotr (rds kC (schN (S.2.1 2) 48) (S.2.1 1) t 4) 25))) + (((rds kC (schN (S.2.1 2) 48) (S.2.1 1) t 4) &&& (rds kC (schN (S.2.1 2) 48) (S.2.1 1) t 5)) ^^^ (((rds kC (schN (S.2.1 2) 48) (S.2.1 1) t 4) ^^^ ((-1))) &&& (rds kC (schN (S.2.1 2) 48) (S.2.1 1) t 6)))) + (kC t)) + ((schN (S.2.1 2) 48) t))), (0, .ref (ad (0))), (1, .int (rds kC (schN (S.2.1 2) 48) (S.2.1 1) t 0)), (2, .int (rds kC (schN (S.2.1 2) 48) (S.2.1 1) t 1)), (3, .int (rds kC (schN (S.2.1 2) 48) (S.2.1 1) t 2)), (4, .int (rds kC (schN (S.2.1 2) 48) (S.2.1 1) t 3)), (5, .int (rds kC (schN (S.2.1 2) 48) (S.2.1 1) t 4)), (9, .int (nI (t)))]) hx hbc dX2_work_180 hl (by decide) rfl (fun ls hl => ?_)
        refine lv_iload hx hbc dX2_work_182 (lv_at hl 9 rfl) ?_
        refine lv_iload hx hbc dX2_work_184 (lv_at hl 4 rfl) ?_
        refine lv_iadd hx hbc dX2_work_186 ?_
        refine lv_istore (lv' := [(5, .int ((rds kC (schN (S.2.1 2) 48) (S.2.1 1) t 3) + (((((rds kC (schN (S.2.1 2) 48) (S.2.1 1) t 7) + (((rotr (rds kC (schN (S.2.1 2) 48) (S.2.1 1) t 4) 6) ^^^ (rotr (rds kC (schN (S.2.1 2) 48) (S.2.1 1) t 4) 11)) ^^^ (rotr (rds kC (schN (S.2.1 2) 48) (S.2.1 1) t 4) 25))) + (((rds kC (schN (S.2.1 2) 48) (S.2.1 1) t 4) &&& (rds kC (schN (S.2.1 2) 48) (S.2.1 1) t 5)) ^^^ (((rds kC (schN (S.2.1 2) 48) (S.2.1 1) t 4) ^^^ ((-1))) &&& (rds kC (schN (S.2.1 2) 48) (S.2.1 1) t 6)))) + (kC t)) + ((schN (S.2.1 2) 48) t)))), (6, .int (rds kC (schN (S.2.1 2) 48) (S.2.1 1) t 4)), (7, .int (rds kC (schN (S.2.1 2) 48) (S.2.1 1) t 5)), (8, .int (rds kC (schN (S.2.1 2) 48) (S.2.1 1) t 6)), (11, .int ((((rotr (rds kC (schN (S.2.1 2) 48) (S.2.1 1) t 0) 2) ^^^ (rotr (rds kC (schN (S.2.1 2) 48) (S.2.1 1) t 0) 13)) ^^^ (rotr (rds kC (schN (S.2.1 2) 48) (S.2.1 1) t 0) 22)) + ((((rds kC (schN (S.2.1 2) 48) (S.2.1 1) t 0) &&& (rds kC (schN (S.2.1 2) 48) (S.2.1 1) t 1)) ^^^ ((rds kC (schN (S.2.1 2) 48) (S.2.1 1) t 0) &&& (rds kC (schN (S.2.1 2) 48) (S.2.1 1) t 2))) ^^^ ((rds kC (schN (S.2.1 2) 48) (S.2.1 1) t 1) &&& (rds kC (schN (S.2.1 2) 48) (S.2.1 1) t 2))))), (10, .int (((((rds kC (schN (S.2.1 2) 48) (S.2.1 1) t 7) + (((rotr (rds kC (schN (S.2.1 2) 48) (S.2.1 1) t 4) 6) ^^^ (rotr (rds kC (schN (S.2.1 2) 48) (S.2.1 1) t 4) 11)) ^^^ (rotr (rds kC (schN (S.2.1 2) 48) (S.2.1 1) t 4) 25))) + (((rds kC (schN (S.2.1 2) 48) (S.2.1 1) t 4) &&& (rds kC (schN (S.2.1 2) 48) (S.2.1 1) t 5)) ^^^ (((rds kC (schN (S.2.1 2) 48) (S.2.1 1) t 4) ^^^ ((-1))) &&& (rds kC (schN (S.2.1 2) 48) (S.2.1 1) t 6)))) + (kC t)) + ((schN (S.2.1 2) 48) t))), (0, .ref (ad (0))), (1, .int (rds kC (schN (S.2.1 2) 48) (S.2.1 1) t 0)), (2, .int (rds kC (schN (S.2.1 2) 48) (S.2.1 1) t 1)), (3, .int (rds kC (schN (S.2.1 2) 48) (S.2.1 1) t 2)), (4, .int (rds kC (schN (S.2.1 2) 48) (S.2.1 1) t 3)), (9, .int (nI (t)))]) hx hbc dX2_work_187 hl (by decide) rfl (fun ls hl => ?_)
        refine lv_iload_n hx hbc dX2_work_189 rfl (lv_at hl 9 rfl) ?_
        refine lv_istore (lv' := [(4, .int (rds kC (schN (S.2.1 2) 48) (S.2.1 1) t 2)), (5, .int ((rds kC (schN (S.2.1 2) 48) (S.2.1 1) t 3) + (((((rds kC (schN (S.2.1 2) 48) (S.2.1 1) t 7) + (((rotr (rds kC (schN (S.2.1 2) 48) (S.2.1 1) t 4) 6) ^^^ (rotr (rds kC (schN (S.2.1 2) 48) (S.2.1 1) t 4) 11)) ^^^ (rotr (rds kC (schN (S.2.1 2) 48) (S.2.1 1) t 4) 25))) + (((rds kC (schN (S.2.1 2) 48) (S.2.1 1) t 4) &&& (rds kC (schN (S.2.1 2) 48) (S.2.1 1) t 5)) ^^^ (((rds kC (schN (S.2.1 2) 48) (S.2.1 1) t 4) ^^^ ((-1))) &&& (rds kC (schN (S.2.1 2) 48) (S.2.1 1) t 6)))) + (kC t)) + ((schN (S.2.1 2) 48) t)))), (6, .int (rds kC (schN (S.2.1 2) 48) (S.2.1 1) t 4)), (7, .int (rds kC (schN (S.2.1 2) 48) (S.2.1 1) t 5)), (8, .int (rds kC (schN (S.2.1 2) 48) (S.2.1 1) t 6)), (11, .int ((((rotr (rds kC (schN (S.2.1 2) 48) (S.2.1 1) t 0) 2) ^^^ (rotr (rds kC (schN (S.2.1 2) 48) (S.2.1 1) t 0) 13)) ^^^ (rotr (rds kC (schN (S.2.1 2) 48) (S.2.1 1) t 0) 22)) + ((((rds kC (schN (S.2.1 2) 48) (S.2.1 1) t 0) &&& (rds kC (schN (S.2.1 2) 48) (S.2.1 1) t 1)) ^^^ ((rds kC (schN (S.2.1 2) 48) (S.2.1 1) t 0) &&& (rds kC (schN (S.2.1 2) 48) (S.2.1 1) t 2))) ^^^ ((rds kC (schN (S.2.1 2) 48) (S.2.1 1) t 1) &&& (rds kC (schN (S.2.1 2) 48) (S.2.1 1) t 2))))), (10, .int (((((rds kC (schN (S.2.1 2) 48) (S.2.1 1) t 7) + (((rotr (rds kC (schN (S.2.1 2) 48) (S.2.1 1) t 4) 6) ^^^ (rotr (rds kC (schN (S.2.1 2) 48) (S.2.1 1) t 4) 11)) ^^^ (rotr (rds kC (schN (S.2.1 2) 48) (S.2.1 1) t 4) 25))) + (((rds kC (schN (S.2.1 2) 48) (S.2.1 1) t 4) &&& (rds kC (schN (S.2.1 2) 48) (S.2.1 1) t 5)) ^^^ (((rds kC (schN (S.2.1 2) 48) (S.2.1 1) t 4) ^^^ ((-1))) &&& (rds kC (schN (S.2.1 2) 48) (S.2.1 1) t 6)))) + (kC t)) + ((schN (S.2.1 2) 48) t))), (0, .ref (ad (0))), (1, .int (rds kC (schN (S.2.1 2) 48) (S.2.1 1) t 0)), (2, .int (rds kC (schN (S.2.1 2) 48) (S.2.1 1) t 1)), (3, .int (rds kC (schN (S.2.1 2) 48) (S.2.1 1) t 2)), (9, .int (nI (t)))]) hx hbc dX2_work_190 hl (by decide) rfl (fun ls hl => ?_)
        refine lv_iload_n hx hbc dX2_work_192 rfl (lv_at hl 9 rfl) ?_
        refine lv_istore_n (lv' := [(3, .int (rds kC (schN (S.2.1 2) 48) (S.2.1 1) t 1)), (4, .int (rds kC (schN (S.2.1 2) 48) (S.2.1 1) t 2)), (5, .int ((rds kC (schN (S.2.1 2) 48) (S.2.1 1) t 3) + (((((rds kC (schN (S.2.1 2) 48) (S.2.1 1) t 7) + (((rotr (rds kC (schN (S.2.1 2) 48) (S.2.1 1) t 4) 6) ^^^ (rotr (rds kC (schN (S.2.1 2) 48) (S.2.1 1) t 4) 11)) ^^^ (rotr (rds kC (schN (S.2.1 2) 48) (S.2.1 1) t 4) 25))) + (((rds kC (schN (S.2.1 2) 48) (S.2.1 1) t 4) &&& (rds kC (schN (S.2.1 2) 48) (S.2.1 1) t 5)) ^^^ (((rds kC (schN (S.2.1 2) 48) (S.2.1 1) t 4) ^^^ ((-1))) &&& (rds kC (schN (S.2.1 2) 48) (S.2.1 1) t 6)))) + (kC t)) + ((schN (S.2.1 2) 48) t)))), (6, .int (rds kC (schN (S.2.1 2) 48) (S.2.1 1) t 4)), (7, .int (rds kC (schN (S.2.1 2) 48) (S.2.1 1) t 5)), (8, .int (rds kC (schN (S.2.1 2) 48) (S.2.1 1) t 6)), (11, .int ((((rotr (rds kC (schN (S.2.1 2) 48) (S.2.1 1) t 0) 2) ^^^ (rotr (rds kC (schN (S.2.1 2) 48) (S.2.1 1) t 0) 13)) ^^^ (rotr (rds kC (schN (S.2.1 2) 48) (S.2.1 1) t 0) 22)) + ((((rds kC (schN (S.2.1 2) 48) (S.2.1 1) t 0) &&& (rds kC (schN (S.2.1 2) 48) (S.2.1 1) t 1)) ^^^ ((rds kC (schN (S.2.1 2) 48) (S.2.1 1) t 0) &&& (rds kC (schN (S.2.1 2) 48) (S.2.1 1) t 2))) ^^^ ((rds kC (schN (S.2.1 2) 48) (S.2.1 1) t 1) &&& (rds kC (schN (S.2.1 2) 48) (S.2.1 1) t 2))))), (10, .int (((((rds kC (schN (S.2.1 2) 48) (S.2.1 1) t 7) + (((rotr (rds kC (schN (S.2.1 2) 48) (S.2.1 1) t 4) 6) ^^^ (rotr (rds kC (schN (S.2.1 2) 48) (S.2.1 1) t 4) 11)) ^^^ (rotr (rds kC (schN (S.2.1 2) 48) (S.2.1 1) t 4) 25))) + (((rds kC (schN (S.2.1 2) 48) (S.2.1 1) t 4) &&& (rds kC (schN (S.2.1 2) 48) (S.2.1 1) t 5)) ^^^ (((rds kC (schN (S.2.1 2) 48) (S.2.1 1) t 4) ^^^ ((-1))) &&& (rds kC (schN (S.2.1 2) 48) (S.2.1 1) t 6)))) + (kC t)) + ((schN (S.2.1 2) 48) t))), (0, .ref (ad (0))), (1, .int (rds kC (schN (S.2.1 2) 48) (S.2.1 1) t 0)), (2, .int (rds kC (schN (S.2.1 2) 48) (S.2.1 1) t 1)), (9, .int (nI (t)))]) hx hbc dX2_work_193 rfl hl (by decide) rfl (fun ls hl => ?_)
        refine lv_iload_n hx hbc dX2_work_194 rfl (lv_at hl 9 rfl) ?_
        refine lv_istore_n (lv' := [(2, .int (rds kC (schN (S.2.1 2) 48) (S.2.1 1) t 0)), (3, .int (rds kC (schN (S.2.1 2) 48) (S.2.1 1) t 1)), (4, .int (rds kC (schN (S.2.1 2) 48) (S.2.1 1) t 2)), (5, .int ((rds kC (schN (S.2.1 2) 48) (S.2.1 1) t 3) + (((((rds kC (schN (S.2.1 2) 48) (S.2.1 1) t 7) + (((rotr (rds kC (schN (S.2.1 2) 48) (S.2.1 1) t 4) 6) ^^^ (rotr (rds kC (schN (S.2.1 2) 48) (S.2.1 1) t 4) 11)) ^^^ (rotr (rds kC (schN (S.2.1 2) 48) (S.2.1 1) t 4) 25))) + (((rds kC (schN (S.2.1 2) 48) (S.2.1 1) t 4) &&& (rds kC (schN (S.2.1 2) 48) (S.2.1 1) t 5)) ^^^ (((rds kC (schN (S.2.1 2) 48) (S.2.1 1) t 4) ^^^ ((-1))) &&& (rds kC (schN (S.2.1 2) 48) (S.2.1 1) t 6)))) + (kC t)) + ((schN (S.2.1 2) 48) t)))), (6, .int (rds kC (schN (S.2.1 2) 48) (S.2.1 1) t 4)), (7, .int (rds kC (schN (S.2.1 2) 48) (S.2.1 1) t 5)), (8, .int (rds kC (schN (S.2.1 2) 48) (S.2.1 1) t 6)), (11, .int ((((rotr (rds kC (schN (S.2.1 2) 48) (S.2.1 1) t 0) 2) ^^^ (rotr (rds kC (schN (S.2.1 2) 48) (S.2.1 1) t 0) 13)) ^^^ (rotr (rds kC (schN (S.2.1 2) 48) (S.2.1 1) t 0) 22)) + ((((rds kC (schN (S.2.1 2) 48) (S.2.1 1) t 0) &&& (rds kC (schN (S.2.1 2) 48) (S.2.1 1) t 1)) ^^^ ((rds kC (schN (S.2.1 2) 48) (S.2.1 1) t 0) &&& (rds kC (schN (S.2.1 2) 48) (S.2.1 1) t 2))) ^^^ ((rds kC (schN (S.2.1 2) 48) (S.2.1 1) t 1) &&& (rds kC (schN (S.2.1 2) 48) (S.2.1 1) t 2))))), (10, .int (((((rds kC (schN (S.2.1 2) 48) (S.2.1 1) t 7) + (((rotr (rds kC (schN (S.2.1 2) 48) (S.2.1 1) t 4) 6) ^^^ (rotr (rds kC (schN (S.2.1 2) 48) (S.2.1 1) t 4) 11)) ^^^ (rotr (rds kC (schN (S.2.1 2) 48) (S.2.1 1) t 4) 25))) + (((rds kC (schN (S.2.1 2) 48) (S.2.1 1) t 4) &&& (rds kC (schN (S.2.1 2) 48) (S.2.1 1) t 5)) ^^^ (((rds kC (schN (S.2.1 2) 48) (S.2.1 1) t 4) ^^^ ((-1))) &&& (rds kC (schN (S.2.1 2) 48) (S.2.1 1) t 6)))) + (kC t)) + ((schN (S.2.1 2) 48) t))), (0, .ref (ad (0))), (1, .int (rds kC (schN (S.2.1 2) 48) (S.2.1 1) t 0)), (9, .int (nI (t)))]) hx hbc dX2_work_195 rfl hl (by decide) rfl (fun ls hl => ?_)
        refine lv_iload hx hbc dX2_work_196 (lv_at hl 8 rfl) ?_
        refine lv_iload hx hbc dX2_work_198 (lv_at hl 7 rfl) ?_
        refine lv_iadd hx hbc dX2_work_200 ?_
        refine lv_istore_n (lv' := [(1, .int ((((((rds kC (schN (S.2.1 2) 48) (S.2.1 1) t 7) + (((rotr (rds kC (schN (S.2.1 2) 48) (S.2.1 1) t 4) 6) ^^^ (rotr (rds kC (schN (S.2.1 2) 48) (S.2.1 1) t 4) 11)) ^^^ (rotr (rds kC (schN (S.2.1 2) 48) (S.2.1 1) t 4) 25))) + (((rds kC (schN (S.2.1 2) 48) (S.2.1 1) t 4) &&& (rds kC (schN (S.2.1 2) 48) (S.2.1 1) t 5)) ^^^ (((rds kC (schN (S.2.1 2) 48) (S.2.1 1) t 4) ^^^ ((-1))) &&& (rds kC (schN (S.2.1 2) 48) (S.2.1 1) t 6)))) + (kC t)) + ((schN (S.2.1 2) 48) t)) + ((((rotr (rds kC (schN (S.2.1 2) 48) (S.2.1 1) t 0) 2) ^^^ (rotr (rds kC (schN (S.2.1 2) 48) (S.2.1 1) t 0) 13)) ^^^ (rotr (rds kC (schN (S.2.1 2) 48) (S.2.1 1) t 0) 22)) + ((((rds kC (schN (S.2.1 2) 48) (S.2.1 1) t 0) &&& (rds kC (schN (S.2.1 2) 48) (S.2.1 1) t 1)) ^^^ ((rds kC (schN (S.2.1 2) 48) (S.2.1 1) t 0) &&& (rds kC (schN (S.2.1 2) 48) (S.2.1 1) t 2))) ^^^ ((rds kC (schN (S.2.1 2) 48) (S.2.1 1) t 1) &&& (rds kC (schN (S.2.1 2) 48) (S.2.1 1) t 2)))))), (2, .int (rds kC (schN (S.2.1 2) 48) (S.2.1 1) t 0)), (3, .int (rds kC (schN (S.2.1 2) 48) (S.2.1 1) t 1)), (4, .int (rds kC (schN (S.2.1 2) 48) (S.2.1 1) t 2)), (5, .int ((rds kC (schN (S.2.1 2) 48) (S.2.1 1) t 3) + (((((rds kC (schN (S.2.1 2) 48) (S.2.1 1) t 7) + (((rotr (rds kC (schN (S.2.1 2) 48) (S.2.1 1) t 4) 6) ^^^ (rotr (rds kC (schN (S.2.1 2) 48) (S.2.1 1) t 4) 11)) ^^^ (rotr (rds kC (schN (S.2.1 2) 48) (S.2.1 1) t 4) 25))) + (((rds kC (schN (S.2.1 2) 48) (S.2.1 1) t 4) &&& (rds kC (schN (S.2.1 2) 48) (S.2.1 1) t 5)) ^^^ (((rds kC (schN (S.2.1 2) 48) (S.2.1 1) t 4) ^^^ ((-1))) &&& (rds kC (schN (S.2.1 2) 48) (S.2.1 1) t 6)))) + (kC t)) + ((schN (S.2.1 2) 48) t)))), (6, .int (rds kC (schN (S.2.1 2) 48) (S.2.1 1) t 4)), (7, .int (rds kC (schN (S.2.1 2) 48) (S.2.1 1) t 5)), (8, .int (rds kC (schN (S.2.1 2) 48) (S.2.1 1) t 6)), (11, .int ((((rotr (rds kC (schN (S.2.1 2) 48) (S.2.1 1) t 0) 2) ^^^ (rotr (rds kC (schN (S.2.1 2) 48) (S.2.1 1) t 0) 13)) ^^^ (rotr (rds kC (schN (S.2.1 2) 48) (S.2.1 1) t 0) 22)) + ((((rds kC (schN (S.2.1 2) 48) (S.2.1 1) t 0) &&& (rds kC (schN (S.2.1 2) 48) (S.2.1 1) t 1)) ^^^ ((rds kC (schN (S.2.1 2) 48) (S.2.1 1) t 0) &&& (rds kC (schN (S.2.1 2) 48) (S.2.1 1) t 2))) ^^^ ((rds kC (schN (S.2.1 2) 48) (S.2.1 1) t 1) &&& (rds kC (schN (S.2.1 2) 48) (S.2.1 1) t 2))))), (10, .int (((((rds kC (schN (S.2.1 2) 48) (S.2.1 1) t 7) + (((rotr (rds kC (schN (S.2.1 2) 48) (S.2.1 1) t 4) 6) ^^^ (rotr (rds kC (schN (S.2.1 2) 48) (S.2.1 1) t 4) 11)) ^^^ (rotr (rds kC (schN (S.2.1 2) 48) (S.2.1 1) t 4) 25))) + (((rds kC (schN (S.2.1 2) 48) (S.2.1 1) t 4) &&& (rds kC (schN (S.2.1 2) 48) (S.2.1 1) t 5)) ^^^ (((rds kC (schN (S.2.1 2) 48) (S.2.1 1) t 4) ^^^ ((-1))) &&& (rds kC (schN (S.2.1 2) 48) (S.2.1 1) t 6)))) + (kC t)) + ((schN (S.2.1 2) 48) t))), (0, .ref (ad (0))), (9, .int (nI (t)))]) hx hbc dX2_work_201 rfl hl (by decide) rfl (fun ls hl => ?_)
        refine lv_iinc (v := nI (t + 1)) (lv' := [(9, .int (nI (t + 1))), (1, .int ((((((rds kC (schN (S.2.1 2) 48) (S.2.1 1) t 7) + (((rotr (rds kC (schN (S.2.1 2) 48) (S.2.1 1) t 4) 6) ^^^ (rotr (rds kC (schN (S.2.1 2) 48) (S.2.1 1) t 4) 11)) ^^^ (rotr (rds kC (schN (S.2.1 2) 48) (S.2.1 1) t 4) 25))) + (((rds kC (schN (S.2.1 2) 48) (S.2.1 1) t 4) &&& (rds kC (schN (S.2.1 2) 48) (S.2.1 1) t 5)) ^^^ (((rds kC (schN (S.2.1 2) 48) (S.2.1 1) t 4) ^^^ ((-1))) &&& (rds kC (schN (S.2.1 2) 48) (S.2.1 1) t 6)))) + (kC t)) + ((schN (S.2.1 2) 48) t)) + ((((rotr (rds kC (schN (S.2.1 2) 48) (S.2.1 1) t 0) 2) ^^^ (rotr (rds kC (schN (S.2.1 2) 48) (S.2.1 1) t 0) 13)) ^^^ (rotr (rds kC (schN (S.2.1 2) 48) (S.2.1 1) t 0) 22)) + ((((rds kC (schN (S.2.1 2) 48) (S.2.1 1) t 0) &&& (rds kC (schN (S.2.1 2) 48) (S.2.1 1) t 1)) ^^^ ((rds kC (schN (S.2.1 2) 48) (S.2.1 1) t 0) &&& (rds kC (schN (S.2.1 2) 48) (S.2.1 1) t 2))) ^^^ ((rds kC (schN (S.2.1 2) 48) (S.2.1 1) t 1) &&& (rds kC (schN (S.2.1 2) 48) (S.2.1 1) t 2)))))), (2, .int (rds kC (schN (S.2.1 2) 48) (S.2.1 1) t 0)), (3, .int (rds kC (schN (S.2.1 2) 48) (S.2.1 1) t 1)), (4, .int (rds kC (schN (S.2.1 2) 48) (S.2.1 1) t 2)), (5, .int ((rds kC (schN (S.2.1 2) 48) (S.2.1 1) t 3) + (((((rds kC (schN (S.2.1 2) 48) (S.2.1 1) t 7) + (((rotr (rds kC (schN (S.2.1 2) 48) (S.2.1 1) t 4) 6) ^^^ (rotr (rds kC (schN (S.2.1 2) 48) (S.2.1 1) t 4) 11)) ^^^ (rotr (rds kC (schN (S.2.1 2) 48) (S.2.1 1) t 4) 25))) + (((rds kC (schN (S.2.1 2) 48) (S.2.1 1) t 4) &&& (rds kC (schN (S.2.1 2) 48) (S.2.1 1) t 5)) ^^^ (((rds kC (schN (S.2.1 2) 48) (S.2.1 1) t 4) ^^^ ((-1))) &&& (rds kC (schN (S.2.1 2) 48) (S.2.1 1) t 6)))) + (kC t)) + ((schN (S.2.1 2) 48) t)))), (6, .int (rds kC (schN (S.2.1 2) 48) (S.2.1 1) t 4)), (7, .int (rds kC (schN (S.2.1 2) 48) (S.2.1 1) t 5)), (8, .int (rds kC (schN (S.2.1 2) 48) (S.2.1 1) t 6)), (11, .int ((((rotr (rds kC (schN (S.2.1 2) 48) (S.2.1 1) t 0) 2) ^^^ (rotr (rds kC (schN (S.2.1 2) 48) (S.2.1 1) t 0) 13)) ^^^ (rotr (rds kC (schN (S.2.1 2) 48) (S.2.1 1) t 0) 22)) + ((((rds kC (schN (S.2.1 2) 48) (S.2.1 1) t 0) &&& (rds kC (schN (S.2.1 2) 48) (S.2.1 1) t 1)) ^^^ ((rds kC (schN (S.2.1 2) 48) (S.2.1 1) t 0) &&& (rds kC (schN (S.2.1 2) 48) (S.2.1 1) t 2))) ^^^ ((rds kC (schN (S.2.1 2) 48) (S.2.1 1) t 1) &&& (rds kC (schN (S.2.1 2) 48) (S.2.1 1) t 2))))), (10, .int (((((rds kC (schN (S.2.1 2) 48) (S.2.1 1) t 7) + (((rotr (rds kC (schN (S.2.1 2) 48) (S.2.1 1) t 4) 6) ^^^ (rotr (rds kC (schN (S.2.1 2) 48) (S.2.1 1) t 4) 11)) ^^^ (rotr (rds kC (schN (S.2.1 2) 48) (S.2.1 1) t 4) 25))) + (((rds kC (schN (S.2.1 2) 48) (S.2.1 1) t 4) &&& (rds kC (schN (S.2.1 2) 48) (S.2.1 1) t 5)) ^^^ (((rds kC (schN (S.2.1 2) 48) (S.2.1 1) t 4) ^^^ ((-1))) &&& (rds kC (schN (S.2.1 2) 48) (S.2.1 1) t 6)))) + (kC t)) + ((schN (S.2.1 2) 48) t))), (0, .ref (ad (0)))]) hx hbc dX2_work_202 hl (k := 11) rfl (ni_inc _ _) (by decide) rfl (fun ls hl => ?_)
        refine lv_goto (tgt := 73) hx hbc dX2_work_205 (by decide) ?_
        exact ih_73 (t + 1) _ _ _ (by omega) (by omega) w (lv_sub hl [11, 1, 2, 3, 4, 5, 6, 7, 8, 0] rfl)
  exact lp_73 65 0 _ _ _ (by omega) (by omega) w (lv_sub hl [9, 8, 7, 6, 5, 4, 3, 2, 1, 0] rfl)
