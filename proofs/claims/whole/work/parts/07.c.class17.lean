set_option maxHeartbeats 1000000 in
set_option maxRecDepth 100000 in
theorem k_D_table (l : Launch) (D : va_G) (cy : Nat → ClassId) (ad al : Nat → Nat) (S : wS) (sx : Nat → Nat) (hlt : l.stackTraces = false) (x : Int32) : CtXi l yX7_table (Cond.code yX7_table cX7_table 2 (some .int) :: wsG) 7 95 6 [.ref (ad (57)), .int (x)] D (tyC cy) 322 cy ad skD (EX al sx) (S) (fun r S' => ∃ t, t < 64 ∧ x = nI t ∧ r = kC t ∧ S' = S) (fun E9 S' => E9 = rnA ∧ oor x 64 ∧ S' = S) := by
  refine CtXi_of hlt rfl (by decide) (Nat.le_of_ble_eq_true rfl) (by decide) (by decide) (by decide) wk_572 wk_17 ?_
  intro p e s m args below meth c A ls R Q hB hRf hRl hend hthr
  obtain ⟨hx, hbc, hr, hg, hown, hml, hlk, w, hX, hl⟩ := hB
  have hE : EC al A s := hX.1
  have hl : lv_has ls 2 [(0, .ref (ad (57))), (1, .int (x))] := hl
  refine lv_iload_n hx hbc dX7_table_0 rfl (lv_at hl 1 rfl) ?_
  refine lv_if_lt (tgt := 10) hx hbc dX7_table_1 (by decide) (fun c_1 => ?_) (fun c_1 => ?_)
  · exact hthr (S) _ _ _ _ 160 "there are K(0) to K(63)" (List.mem_of_getElem? (i := 2) rfl) ⟨rfl, oor_n c_1 (by decide), rfl⟩ w hl.1 dX7_table_10 dX7_table_13 dX7_table_14 dX7_table_16 dX7_table_19
  · refine lv_iload_n hx hbc dX7_table_4 rfl (lv_at hl 1 rfl) ?_
    refine lv_bipush (v := nI (64)) hx hbc dX7_table_5 (by decide) ?_
    refine lv_icmp_lt (tgt := 20) hx hbc dX7_table_7 (by decide) (fun c_7 => ?_) (fun c_7 => ?_)
    · obtain ⟨t, ht, rfl⟩ := rg_in c_1 c_7 (by decide)
      refine va_gets hx hbc hE.1.1 w.2.2.2.1 hown (hg _ wk_599) (fun _ h9 => h9) dX7_table_20 ?_
      refine lv_iload_n hx hbc dX7_table_23 rfl (lv_at hl 1 rfl) ?_
      refine wb_sld (k := t) (v := kC t) hx hbc w hE.1 rfl (by omega) (by decide) rfl dX7_table_24 ?_
      exact hend _ _ _ _ _ _ ⟨t, ht, rfl, rfl, rfl⟩ rfl w dX7_table_25
    · exact hthr (S) _ _ _ _ 160 "there are K(0) to K(63)" (List.mem_of_getElem? (i := 2) rfl) ⟨rfl, oor_g c_7 (by decide), rfl⟩ w hl.1 dX7_table_10 dX7_table_13 dX7_table_14 dX7_table_16 dX7_table_19
set_option maxHeartbeats 1000000 in
set_option maxRecDepth 100000 in
theorem k_D_plan (l : Launch) (D : va_G) (cy : Nat → ClassId) (ad al : Nat → Nat) (S : wS) (sx : Nat → Nat) (hlt : l.stackTraces = false) (g x : Int32) (d : Nat) (hd : S.1 31 5 = nI d) (hd2 : d ≤ 60) : CtXl l yX7_plan (Cond.code yX7_plan cX7_plan 3 (some .long) :: wsG) 7 95 6 [.ref (ad (57)), .int (g), .int (x)] D (tyC cy) 322 cy ad skD (EX al sx) (S) (fun r S' => (oor g d ∧ r = (-101) ∧ S' = S) ∨ (∃ e t, e < d ∧ g = nI e ∧ t < 64 ∧ x = nI t ∧ r = (schN (va_cpy (S.2.1 (122 + e)) (S.2.1 36) 0 0 16) 48 t).toInt64 ∧ S' = sB S 36 (schN (va_cpy (S.2.1 (122 + e)) (S.2.1 36) 0 0 16) 48))) (fun E9 S' => E9 = rnA ∧ (∃ e, e < d ∧ g = nI e) ∧ oor x 64 ∧ S' = S) := by
  refine CtXl_of hlt rfl (by decide) (Nat.le_of_ble_eq_true rfl) (by decide) (by decide) (by decide) wk_572 wk_17 ?_
  intro p e s m args below meth c A ls R Q hB hRf hRl hend hthr
  obtain ⟨hx, hbc, hr, hg, hown, hml, hlk, w, hX, hl⟩ := hB
  have hE : EC al A s := hX.1
  have hl : lv_has ls 3 [(0, .ref (ad (57))), (1, .int (g)), (2, .int (x))] := hl
  refine lv_aload_n hx hbc dX7_plan_0 rfl (lv_at hl 0 rfl) ?_
  refine wb_gr (t := 31) hx hbc hg hown w inG_X7 57 (by decide) rfl rfl 5 (by decide) rfl wk_210 dX7_plan_1 ?_
  refine lv_iload_n hx hbc dX7_plan_4 rfl (lv_at hl 1 rfl) ?_
  refine wc_Vi (na := 1) (f := (fun z9 => z9 + 31)) (As := [.int (g)]) (rest := []) hx hbc hml hg hown w (EC_ok al) hE (w.1.sub (tys' := tyM cy) [0, 1, 2] rfl) lie_sh.A 31 (by decide) rfl rfl (k_shas l D cy (fun z9 => ad (z9 + 31)) al (pul S (fun z9 => z9 + 31)) g d hd) wk_356 wk_5 wk_353 wk_354 wk_355 ⟨by decide, by decide, by decide⟩ ⟨by rw [hRf]; decide, by rw [hRl]; decide⟩ rfl hl.1 rfl (Nat.le_of_ble_eq_true rfl) dX7_plan_5 ⟨Nat.zero_le _, Nat.zero_le _⟩ (fun r S9 hp H locs w => ?_)
  obtain ⟨hr9, hp⟩ := hp
  subst hr9
  subst hp
  have w : WB D (tyC cy) 322 cy ad skD A s (S) H locs := w _ lie_sh.id
  refine lv_if_ne (tgt := 15) hx hbc dX7_plan_8 (by decide) (fun c_8 => ?_) (fun c_8 => ?_)
  · obtain ⟨e9, hed, rfl⟩ := hsF_nz c_8 (by omega)
    have he9 : e9 < 60 := by omega
    refine lv_iload_n hx hbc dX7_plan_15 rfl (lv_at hl 2 rfl) ?_
    refine lv_if_lt (tgt := 25) hx hbc dX7_plan_16 (by decide) (fun c_16 => ?_) (fun c_16 => ?_)
    · exact hthr (S) _ _ _ _ 150 "a block has W(0) to W(63)" (List.mem_of_getElem? (i := 1) rfl) ⟨rfl, ⟨e9, hed, rfl⟩, oor_n c_16 (by decide), rfl⟩ w hl.1 dX7_plan_25 dX7_plan_28 dX7_plan_29 dX7_plan_31 dX7_plan_34
    · refine lv_iload_n hx hbc dX7_plan_19 rfl (lv_at hl 2 rfl) ?_
      refine lv_bipush (v := nI (64)) hx hbc dX7_plan_20 (by decide) ?_
      refine lv_icmp_lt (tgt := 35) hx hbc dX7_plan_22 (by decide) (fun c_22 => ?_) (fun c_22 => ?_)
      · obtain ⟨t, ht, rfl⟩ := rg_in c_16 c_22 (by decide)
        refine lv_aload_n hx hbc dX7_plan_35 rfl (lv_at hl 0 rfl) ?_
        refine wb_gr (t := 31) hx hbc hg hown w inG_X7 57 (by decide) rfl rfl 5 (by decide) rfl wk_210 dX7_plan_36 ?_
        refine lv_iload_n hx hbc dX7_plan_39 rfl (lv_at hl 1 rfl) ?_
        refine lv_iload_n hx hbc dX7_plan_40 rfl (lv_at hl 2 rfl) ?_
        refine wc_Vi (na := 2) (f := fSh) (As := [.int (nI (e9)), .int (nI (t))]) (rest := []) hx hbc hml hg hown w (EC_ok al) hE w.1 lieSh.A 31 (by decide) rfl rfl (k_wordOfLast l D cy (fun z9 => ad (fSh z9)) al (pul S fSh) e9 t he9 ht) wk_589 wk_5 wk_586 wk_587 wk_588 ⟨by decide, by decide, by decide⟩ ⟨by rw [hRf]; decide, by rw [hRl]; decide⟩ rfl hl.1 rfl (Nat.le_of_ble_eq_true rfl) dX7_plan_41 ⟨Nat.zero_le _, Nat.zero_le _⟩ (fun r S9 hp H locs w => ?_)
        obtain ⟨hr9, hp⟩ := hp
        rw [sB_sB, show (pul S fSh).2.1 (66 + e9) = S.2.1 (122 + e9) by show S.2.1 (fSh (66 + e9)) = _; rw [show 66 + e9 = (60 + e9) + 6 by omega]; exact congrArg S.2.1 (show 62 + (60 + e9) = 122 + e9 by omega)] at hp
        rw [show (pul S fSh).2.1 (66 + e9) = S.2.1 (122 + e9) by show S.2.1 (fSh (66 + e9)) = _; rw [show 66 + e9 = (60 + e9) + 6 by omega]; exact congrArg S.2.1 (show 62 + (60 + e9) = 122 + e9 by omega)] at hr9
        subst hr9
        subst hp
        have w : WB D (tyC cy) 322 cy ad skD A s (sB S 36 (schN (va_cpy (S.2.1 (122 + e9)) (S.2.1 36) 0 0 16) 48)) H locs := w _ (lieSh.B (k := 5) (by decide) _)
        refine lv_i2l hx hbc dX7_plan_44 rfl ?_
        exact hend _ _ _ _ _ _ (Or.inr ⟨e9, t, hed, rfl, ht, rfl, rfl, rfl⟩) w dX7_plan_45
      · exact hthr (S) _ _ _ _ 150 "a block has W(0) to W(63)" (List.mem_of_getElem? (i := 1) rfl) ⟨rfl, ⟨e9, hed, rfl⟩, oor_g c_22 (by decide), rfl⟩ w hl.1 dX7_plan_25 dX7_plan_28 dX7_plan_29 dX7_plan_31 dX7_plan_34
  · refine lv_ldc2 (v := (-101)) hx hbc hown (hg _ wk_568) dX7_plan_11 ?_
    exact hend _ _ _ _ _ _ (Or.inl ⟨hsF_oor c_8 (by omega), rfl, rfl⟩) w dX7_plan_14
set_option maxHeartbeats 1000000 in
set_option maxRecDepth 100000 in
theorem k_D_read (l : Launch) (D : va_G) (cy : Nat → ClassId) (ad al : Nat → Nat) (S : wS) (sx : Nat → Nat) (hlt : l.stackTraces = false) (g x i : Int32) (d : Nat) (hd : S.1 31 5 = nI d) (hd2 : d ≤ 60) : CtXl l yX7_read (Cond.code yX7_read cX7_read 8 (some .long) :: wsG) 7 95 6 [.ref (ad (57)), .int (g), .int (x), .int (i)] D (tyC cy) 322 cy ad skD (EX al sx) (S) (fun r S' => (oor g d ∧ r = (-101) ∧ S' = S) ∨ (∃ e, e < d ∧ g = nI e ∧ oor x 5 ∧ r = (-102) ∧ S' = S) ∨ (∃ e w k, e < d ∧ g = nI e ∧ w ≤ 4 ∧ x = nI w ∧ i = nI k ∧ k + wn w ≤ l32 (S.2.1 34 e) ∧ r = cvC w (rdS (fun q => S.2.1 (62 + e) (k + q)) (wn w)) ∧ S' = S)) (fun E9 S' => E9 = rnA ∧ (∃ e w, e < d ∧ g = nI e ∧ w ≤ 4 ∧ x = nI w ∧ oor i (l32 (S.2.1 34 e) - wn w + 1)) ∧ S' = S) := by
  refine CtXl_of hlt rfl (by decide) (Nat.le_of_ble_eq_true rfl) (by decide) (by decide) (by decide) wk_572 wk_17 ?_
  intro p e s m args below meth c A ls R Q hB hRf hRl hend hthr
  obtain ⟨hx, hbc, hr, hg, hown, hml, hlk, w, hX, hl⟩ := hB
  have hE : EC al A s := hX.1
  have hl : lv_has ls 8 [(0, .ref (ad (57))), (1, .int (g)), (2, .int (x)), (3, .int (i))] := hl
  refine lv_aload_n hx hbc dX7_read_0 rfl (lv_at hl 0 rfl) ?_
  refine wb_gr (t := 31) hx hbc hg hown w inG_X7 57 (by decide) rfl rfl 5 (by decide) rfl wk_210 dX7_read_1 ?_
  refine lv_iload_n hx hbc dX7_read_4 rfl (lv_at hl 1 rfl) ?_
  refine wc_Vi (na := 1) (f := (fun z9 => z9 + 31)) (As := [.int (g)]) (rest := []) hx hbc hml hg hown w (EC_ok al) hE (w.1.sub (tys' := tyM cy) [0, 1, 2] rfl) lie_sh.A 31 (by decide) rfl rfl (k_shas l D cy (fun z9 => ad (z9 + 31)) al (pul S (fun z9 => z9 + 31)) g d hd) wk_356 wk_5 wk_353 wk_354 wk_355 ⟨by decide, by decide, by decide⟩ ⟨by rw [hRf]; decide, by rw [hRl]; decide⟩ rfl hl.1 rfl (Nat.le_of_ble_eq_true rfl) dX7_read_5 ⟨Nat.zero_le _, Nat.zero_le _⟩ (fun r S9 hp H locs w => ?_)
  obtain ⟨hr9, hp⟩ := hp
  subst hr9
  subst hp
  have w : WB D (tyC cy) 322 cy ad skD A s (S) H locs := w _ lie_sh.id
  refine lv_if_ne (tgt := 15) hx hbc dX7_read_8 (by decide) (fun c_8 => ?_) (fun c_8 => ?_)
  · obtain ⟨e9, he9, rfl⟩ := hsF_nz c_8 (by omega)
    refine lv_iload_n hx hbc dX7_read_15 rfl (lv_at hl 2 rfl) ?_
    refine lv_if_lt (tgt := 27) hx hbc dX7_read_16 (by decide) (fun c_16 => ?_) (fun c_16 => ?_)
    · refine lv_ldc2 (v := (-102)) hx hbc hown (hg _ wk_571) dX7_read_27 ?_
      exact hend _ _ _ _ _ _ (Or.inr (Or.inl ⟨e9, he9, rfl, oor_n c_16 (by decide), rfl, rfl⟩)) w dX7_read_30
    · refine lv_iload_n hx hbc dX7_read_19 rfl (lv_at hl 2 rfl) ?_
      refine va_gets hx hbc hE.2.2.2.1.1 w.2.2.2.1 hown (hg _ wk_569) (fun _ h9 => h9) dX7_read_20 ?_
      refine va_slen (L := 5) hx hbc hE.2.2.2.1.2.1 hE.2.2.2.1.2.2.1 hE.2.2.2.1.2.2.2 w.2.2.2.1 dX7_read_23 ?_
      refine lv_icmp_lt (tgt := 31) hx hbc dX7_read_24 (by decide) (fun c_24 => ?_) (fun c_24 => ?_)
      · obtain ⟨w9, hw9, rfl⟩ := rg_in c_16 c_24 (by decide)
        rcases (show w9 = 0 ∨ w9 = 1 ∨ w9 = 2 ∨ w9 = 3 ∨ w9 = 4 by omega) with rfl | rfl | rfl | rfl | rfl
        · skip
          refine va_gets hx hbc hE.2.2.2.1.1 w.2.2.2.1 hown (hg _ wk_569) (fun _ h9 => h9) dX7_read_31 ?_
          refine lv_iload_n hx hbc dX7_read_34 rfl (lv_at hl 2 rfl) ?_
          refine wb_sld (k := 0) (v := nI (1)) hx hbc w hE.2.2.2.1 rfl (by omega) (by decide) rfl dX7_read_35 ?_
          refine lv_istore (lv' := [(4, .int (nI (1))), (0, .ref (ad (57))), (1, .int (nI (e9))), (2, .int (nI (0))), (3, .int (i))]) hx hbc dX7_read_36 hl (by decide) rfl (fun ls hl => ?_)
          refine lv_iload_n hx hbc dX7_read_38 rfl (lv_at hl 4 rfl) ?_
          refine lv_if_lt (tgt := 61) hx hbc dX7_read_39 (by decide) (fun c_39 => ?_) (fun c_39 => ?_)
          · exact hthr (S) _ _ _ _ 137 "not all of it is in the digest" (List.mem_of_getElem? (i := 0) rfl) ⟨rfl, ⟨e9, 0, he9, rfl, (by decide), rfl, oor_n c_39 (by have := l32_in (S.2.1 34 e9); omega)⟩, rfl⟩ w hl.1 dX7_read_61 dX7_read_64 dX7_read_65 dX7_read_67 dX7_read_70
          · refine lv_iload_n hx hbc dX7_read_42 rfl (lv_at hl 4 rfl) ?_
            refine lv_aload_n hx hbc dX7_read_43 rfl (lv_at hl 1 rfl) ?_
            refine wb_gr (t := 31) hx hbc hg hown w inG_X7 57 (by decide) rfl rfl 5 (by decide) rfl wk_210 dX7_read_44 ?_
            refine wb_gr (t := 34) hx hbc hg hown w inG_X4 31 (by decide) rfl rfl 2 (by decide) rfl wk_117 dX7_read_47 ?_
            refine lv_iload_n hx hbc dX7_read_50 rfl (lv_at hl 2 rfl) ?_
            refine wb_iald (k := e9) (v := (S.2.1 34) e9) hx hbc w 34 (by decide) rfl 0 rfl rfl (by omega) (by decide) rfl dX7_read_51 ?_
            refine wb_Si (na := 1) (As := [.int ((S.2.1 34) e9)]) (rest := [.int (i)]) hx hbc hml hg hown w E0_ok trivial (w.1.sub (tys' := tyM cy) [0, 1, 2] rfl) Sub.none (k_bytesOf l D cy ad al (S) ((S.2.1 34) e9)) wk_331 wk_1 wk_357 wk_330 ⟨by decide, by decide, by decide⟩ ⟨by rw [hRf]; decide, by rw [hRl]; decide⟩ rfl hl.1 rfl (Nat.le_of_ble_eq_true rfl) dX7_read_52 ⟨Nat.zero_le _, Nat.zero_le _⟩ (fun r S9 H locs hp w => ?_)
            subst hp
            have hl32_0 := l32_in ((S.2.1 34) e9)
            refine lv_iload hx hbc dX7_read_55 (lv_at hl 0 rfl) ?_
            refine n_isub (by omega) hx hbc dX7_read_57 ?_
            refine lv_icmp_le (tgt := 71) hx hbc dX7_read_58 (by decide) (fun c_58 => ?_) (fun c_58 => ?_)
            · obtain ⟨k9, hk9, rfl⟩ := rg_le c_39 c_58 (by omega)
              refine lv_lconst (v := 0) hx hbc dX7_read_71 (by decide) ?_
              refine lv_lstore (lv' := [(5, .long (0)), (4, .int (nI (1))), (0, .ref (ad (57))), (1, .int (nI (e9))), (2, .int (nI (0))), (3, .int (nI (k9)))]) hx hbc dX7_read_72 hl (by decide) rfl (fun ls hl => ?_)
              refine lv_iconst (v := nI (0)) hx hbc dX7_read_74 (by decide) ?_
              refine lv_istore (lv' := [(7, .int (nI (0))), (5, .long (0)), (4, .int (nI (1))), (0, .ref (ad (57))), (1, .int (nI (e9))), (2, .int (nI (0))), (3, .int (nI (k9)))]) hx hbc dX7_read_75 hl (by decide) rfl (fun ls hl => ?_)
              refine lv_iload hx hbc dX7_read_77 (lv_at hl 0 rfl) ?_
              refine lv_iload hx hbc dX7_read_79 (lv_at hl 2 rfl) ?_
              refine n_cmp_ge (tgt := 117) (by omega) (by omega) hx hbc dX7_read_81 (by decide) (fun c_81 => ?_) (fun c_81 => ?_)
              · exact absurd c_81 (by decide)
              · refine lv_lload hx hbc dX7_read_84 (lv_at hl 1 rfl) ?_
                refine lv_bipush (v := nI (8)) hx hbc dX7_read_86 (by decide) ?_
                refine lv_lshl hx hbc dX7_read_88 rfl ?_
                refine lv_aload_n hx hbc dX7_read_89 rfl (lv_at hl 3 rfl) ?_
                refine wb_gr (t := 31) hx hbc hg hown w inG_X7 57 (by decide) rfl rfl 5 (by decide) rfl wk_210 dX7_read_90 ?_
                refine wb_gr (t := 32) hx hbc hg hown w inG_X4 31 (by decide) rfl rfl 0 (by decide) rfl wk_114 dX7_read_93 ?_
                refine lv_iload_n hx hbc dX7_read_96 rfl (lv_at hl 4 rfl) ?_
                refine wb_aaldA (k := e9) (t := 62 + e9) hx hbc w 32 (by decide) rfl (by decide) 5 rfl rfl (by omega) (by decide) rfl dX7_read_97 ?_
                refine lv_iload_n hx hbc dX7_read_98 rfl (lv_at hl 6 rfl) ?_
                refine lv_iload hx hbc dX7_read_99 (lv_at hl 0 rfl) ?_
                refine n_iadd hx hbc dX7_read_101 ?_
                refine wb_bald (k := k9 + 0) (v := (S.2.1 (62 + e9)) (k9 + 0)) hx hbc w (62 + e9) (by omega) (skD_b _ (by omega)) 1 rfl rfl (by omega) (by decide) rfl dX7_read_102 ?_
                refine lv_sipush (v := nI (255)) hx hbc dX7_read_103 (by decide) ?_
                refine lv_iand hx hbc dX7_read_106 ?_
                refine lv_i2l hx hbc dX7_read_107 rfl ?_
                refine lv_lor hx hbc dX7_read_108 ?_
                refine lv_lstore (lv' := [(5, .long ((0 <<< ((nI (8)).toInt64 &&& 63)) ||| ((((S.2.1 (62 + e9)) (k9 + 0)) &&& (nI (255))).toInt64))), (7, .int (nI (0))), (4, .int (nI (1))), (0, .ref (ad (57))), (1, .int (nI (e9))), (2, .int (nI (0))), (3, .int (nI (k9)))]) hx hbc dX7_read_109 hl (by decide) rfl (fun ls hl => ?_)
                refine lv_iinc (v := nI (1)) (lv' := [(7, .int (nI (1))), (5, .long ((0 <<< ((nI (8)).toInt64 &&& 63)) ||| ((((S.2.1 (62 + e9)) (k9 + 0)) &&& (nI (255))).toInt64))), (4, .int (nI (1))), (0, .ref (ad (57))), (1, .int (nI (e9))), (2, .int (nI (0))), (3, .int (nI (k9)))]) hx hbc dX7_read_111 hl (k := 1) rfl (by decide) (by decide) rfl (fun ls hl => ?_)
                refine lv_goto (tgt := 77) hx hbc dX7_read_114 (by decide) ?_
                refine lv_iload hx hbc dX7_read_77 (lv_at hl 0 rfl) ?_
                refine lv_iload hx hbc dX7_read_79 (lv_at hl 2 rfl) ?_
                refine n_cmp_ge (tgt := 117) (by omega) (by omega) hx hbc dX7_read_81 (by decide) (fun c_81 => ?_) (fun c_81 => ?_)
                · refine lv_iload_n hx hbc dX7_read_117 rfl (lv_at hl 5 rfl) ?_
                  refine lv_lload hx hbc dX7_read_118 (lv_at hl 1 rfl) ?_
                  refine wb_Sl (na := 2) (As := [.int (nI (0)), .long ((0 <<< ((nI (8)).toInt64 &&& 63)) ||| ((((S.2.1 (62 + e9)) (k9 + 0)) &&& (nI (255))).toInt64))]) (rest := []) hx hbc hml hg hown w E0_ok trivial (w.1.sub (tys' := tyM cy) [0, 1, 2] rfl) Sub.none (k_ofWidth0 l D cy ad al (S) ((0 <<< ((nI (8)).toInt64 &&& 63)) ||| ((((S.2.1 (62 + e9)) (k9 + 0)) &&& (nI (255))).toInt64))) wk_577 wk_1 wk_575 wk_576 ⟨by decide, by decide, by decide⟩ ⟨by rw [hRf]; decide, by rw [hRl]; decide⟩ rfl hl.1 rfl (Nat.le_of_ble_eq_true rfl) dX7_read_120 ⟨Nat.zero_le _, Nat.zero_le _⟩ (fun r S9 H locs hp w => ?_)
                  subst hp
                  exact hend _ _ _ _ _ _ (Or.inr (Or.inr ⟨e9, 0, k9, he9, rfl, (by decide), rfl, rfl, (by show k9 + 1 ≤ _; omega), rfl, rfl⟩)) w dX7_read_123
                · exact absurd c_81 (by decide)
            · exact hthr (S) _ _ _ _ 137 "not all of it is in the digest" (List.mem_of_getElem? (i := 0) rfl) ⟨rfl, ⟨e9, 0, he9, rfl, (by decide), rfl, oor_le c_58 (by omega)⟩, rfl⟩ w hl.1 dX7_read_61 dX7_read_64 dX7_read_65 dX7_read_67 dX7_read_70
        · skip
          refine va_gets hx hbc hE.2.2.2.1.1 w.2.2.2.1 hown (hg _ wk_569) (fun _ h9 => h9) dX7_read_31 ?_
          refine lv_iload_n hx hbc dX7_read_34 rfl (lv_at hl 2 rfl) ?_
          refine wb_sld (k := 1) (v := nI (2)) hx hbc w hE.2.2.2.1 rfl (by omega) (by decide) rfl dX7_read_35 ?_
          refine lv_istore (lv' := [(4, .int (nI (2))), (0, .ref (ad (57))), (1, .int (nI (e9))), (2, .int (nI (1))), (3, .int (i))]) hx hbc dX7_read_36 hl (by decide) rfl (fun ls hl => ?_)
          refine lv_iload_n hx hbc dX7_read_38 rfl (lv_at hl 4 rfl) ?_
          refine lv_if_lt (tgt := 61) hx hbc dX7_read_39 (by decide) (fun c_39 => ?_) (fun c_39 => ?_)
          · exact hthr (S) _ _ _ _ 137 "not all of it is in the digest" (List.mem_of_getElem? (i := 0) rfl) ⟨rfl, ⟨e9, 1, he9, rfl, (by decide), rfl, oor_n c_39 (by have := l32_in (S.2.1 34 e9); omega)⟩, rfl⟩ w hl.1 dX7_read_61 dX7_read_64 dX7_read_65 dX7_read_67 dX7_read_70
          · refine lv_iload_n hx hbc dX7_read_42 rfl (lv_at hl 4 rfl) ?_
            refine lv_aload_n hx hbc dX7_read_43 rfl (lv_at hl 1 rfl) ?_
            refine wb_gr (t := 31) hx hbc hg hown w inG_X7 57 (by decide) rfl rfl 5 (by decide) rfl wk_210 dX7_read_44 ?_
            refine wb_gr (t := 34) hx hbc hg hown w inG_X4 31 (by decide) rfl rfl 2 (by decide) rfl wk_117 dX7_read_47 ?_
            refine lv_iload_n hx hbc dX7_read_50 rfl (lv_at hl 2 rfl) ?_
            refine wb_iald (k := e9) (v := (S.2.1 34) e9) hx hbc w 34 (by decide) rfl 0 rfl rfl (by omega) (by decide) rfl dX7_read_51 ?_
            refine wb_Si (na := 1) (As := [.int ((S.2.1 34) e9)]) (rest := [.int (i)]) hx hbc hml hg hown w E0_ok trivial (w.1.sub (tys' := tyM cy) [0, 1, 2] rfl) Sub.none (k_bytesOf l D cy ad al (S) ((S.2.1 34) e9)) wk_331 wk_1 wk_357 wk_330 ⟨by decide, by decide, by decide⟩ ⟨by rw [hRf]; decide, by rw [hRl]; decide⟩ rfl hl.1 rfl (Nat.le_of_ble_eq_true rfl) dX7_read_52 ⟨Nat.zero_le _, Nat.zero_le _⟩ (fun r S9 H locs hp w => ?_)
            subst hp
            have hl32_0 := l32_in ((S.2.1 34) e9)
            refine lv_iload hx hbc dX7_read_55 (lv_at hl 0 rfl) ?_
            refine n_isub (by omega) hx hbc dX7_read_57 ?_
            refine lv_icmp_le (tgt := 71) hx hbc dX7_read_58 (by decide) (fun c_58 => ?_) (fun c_58 => ?_)
            · obtain ⟨k9, hk9, rfl⟩ := rg_le c_39 c_58 (by omega)
              refine lv_lconst (v := 0) hx hbc dX7_read_71 (by decide) ?_
              refine lv_lstore (lv' := [(5, .long (0)), (4, .int (nI (2))), (0, .ref (ad (57))), (1, .int (nI (e9))), (2, .int (nI (1))), (3, .int (nI (k9)))]) hx hbc dX7_read_72 hl (by decide) rfl (fun ls hl => ?_)
              refine lv_iconst (v := nI (0)) hx hbc dX7_read_74 (by decide) ?_
              refine lv_istore (lv' := [(7, .int (nI (0))), (5, .long (0)), (4, .int (nI (2))), (0, .ref (ad (57))), (1, .int (nI (e9))), (2, .int (nI (1))), (3, .int (nI (k9)))]) hx hbc dX7_read_75 hl (by decide) rfl (fun ls hl => ?_)
              refine lv_iload hx hbc dX7_read_77 (lv_at hl 0 rfl) ?_
              refine lv_iload hx hbc dX7_read_79 (lv_at hl 2 rfl) ?_
              refine n_cmp_ge (tgt := 117) (by omega) (by omega) hx hbc dX7_read_81 (by decide) (fun c_81 => ?_) (fun c_81 => ?_)
              · exact absurd c_81 (by decide)
              · refine lv_lload hx hbc dX7_read_84 (lv_at hl 1 rfl) ?_
                refine lv_bipush (v := nI (8)) hx hbc dX7_read_86 (by decide) ?_
                refine lv_lshl hx hbc dX7_read_88 rfl ?_
                refine lv_aload_n hx hbc dX7_read_89 rfl (lv_at hl 3 rfl) ?_
                refine wb_gr (t := 31) hx hbc hg hown w inG_X7 57 (by decide) rfl rfl 5 (by decide) rfl wk_210 dX7_read_90 ?_
                refine wb_gr (t := 32) hx hbc hg hown w inG_X4 31 (by decide) rfl rfl 0 (by decide) rfl wk_114 dX7_read_93 ?_
                refine lv_iload_n hx hbc dX7_read_96 rfl (lv_at hl 4 rfl) ?_
                refine wb_aaldA (k := e9) (t := 62 + e9) hx hbc w 32 (by decide) rfl (by decide) 5 rfl rfl (by omega) (by decide) rfl dX7_read_97 ?_
                refine lv_iload_n hx hbc dX7_read_98 rfl (lv_at hl 6 rfl) ?_
                refine lv_iload hx hbc dX7_read_99 (lv_at hl 0 rfl) ?_
                refine n_iadd hx hbc dX7_read_101 ?_
                refine wb_bald (k := k9 + 0) (v := (S.2.1 (62 + e9)) (k9 + 0)) hx hbc w (62 + e9) (by omega) (skD_b _ (by omega)) 1 rfl rfl (by omega) (by decide) rfl dX7_read_102 ?_
                refine lv_sipush (v := nI (255)) hx hbc dX7_read_103 (by decide) ?_
                refine lv_iand hx hbc dX7_read_106 ?_
                refine lv_i2l hx hbc dX7_read_107 rfl ?_
                refine lv_lor hx hbc dX7_read_108 ?_
                refine lv_lstore (lv' := [(5, .long ((0 <<< ((nI (8)).toInt64 &&& 63)) ||| ((((S.2.1 (62 + e9)) (k9 + 0)) &&& (nI (255))).toInt64))), (7, .int (nI (0))), (4, .int (nI (2))), (0, .ref (ad (57))), (1, .int (nI (e9))), (2, .int (nI (1))), (3, .int (nI (k9)))]) hx hbc dX7_read_109 hl (by decide) rfl (fun ls hl => ?_)
                refine lv_iinc (v := nI (1)) (lv' := [(7, .int (nI (1))), (5, .long ((0 <<< ((nI (8)).toInt64 &&& 63)) ||| ((((S.2.1 (62 + e9)) (k9 + 0)) &&& (nI (255))).toInt64))), (4, .int (nI (2))), (0, .ref (ad (57))), (1, .int (nI (e9))), (2, .int (nI (1))), (3, .int (nI (k9)))]) hx hbc dX7_read_111 hl (k := 1) rfl (by decide) (by decide) rfl (fun ls hl => ?_)
                refine lv_goto (tgt := 77) hx hbc dX7_read_114 (by decide) ?_
                refine lv_iload hx hbc dX7_read_77 (lv_at hl 0 rfl) ?_
                refine lv_iload hx hbc dX7_read_79 (lv_at hl 2 rfl) ?_
                refine n_cmp_ge (tgt := 117) (by omega) (by omega) hx hbc dX7_read_81 (by decide) (fun c_81 => ?_) (fun c_81 => ?_)
                · exact absurd c_81 (by decide)
                · refine lv_lload hx hbc dX7_read_84 (lv_at hl 1 rfl) ?_
                  refine lv_bipush (v := nI (8)) hx hbc dX7_read_86 (by decide) ?_
                  refine lv_lshl hx hbc dX7_read_88 rfl ?_
                  refine lv_aload_n hx hbc dX7_read_89 rfl (lv_at hl 3 rfl) ?_
                  refine wb_gr (t := 31) hx hbc hg hown w inG_X7 57 (by decide) rfl rfl 5 (by decide) rfl wk_210 dX7_read_90 ?_
                  refine wb_gr (t := 32) hx hbc hg hown w inG_X4 31 (by decide) rfl rfl 0 (by decide) rfl wk_114 dX7_read_93 ?_
                  refine lv_iload_n hx hbc dX7_read_96 rfl (lv_at hl 4 rfl) ?_
                  refine wb_aaldA (k := e9) (t := 62 + e9) hx hbc w 32 (by decide) rfl (by decide) 5 rfl rfl (by omega) (by decide) rfl dX7_read_97 ?_
                  refine lv_iload_n hx hbc dX7_read_98 rfl (lv_at hl 6 rfl) ?_
                  refine lv_iload hx hbc dX7_read_99 (lv_at hl 0 rfl) ?_
                  refine n_iadd hx hbc dX7_read_101 ?_
                  refine wb_bald (k := k9 + 1) (v := (S.2.1 (62 + e9)) (k9 + 1)) hx hbc w (62 + e9) (by omega) (skD_b _ (by omega)) 1 rfl rfl (by omega) (by decide) rfl dX7_read_102 ?_
                  refine lv_sipush (v := nI (255)) hx hbc dX7_read_103 (by decide) ?_
                  refine lv_iand hx hbc dX7_read_106 ?_
                  refine lv_i2l hx hbc dX7_read_107 rfl ?_
                  refine lv_lor hx hbc dX7_read_108 ?_
                  refine lv_lstore (lv' := [(5, .long ((((0 <<< ((nI (8)).toInt64 &&& 63)) ||| ((((S.2.1 (62 + e9)) (k9 + 0)) &&& (nI (255))).toInt64)) <<< ((nI (8)).toInt64 &&& 63)) ||| ((((S.2.1 (62 + e9)) (k9 + 1)) &&& (nI (255))).toInt64))), (7, .int (nI (1))), (4, .int (nI (2))), (0, .ref (ad (57))), (1, .int (nI (e9))), (2, .int (nI (1))), (3, .int (nI (k9)))]) hx hbc dX7_read_109 hl (by decide) rfl (fun ls hl => ?_)
                  refine lv_iinc (v := nI (2)) (lv' := [(7, .int (nI (2))), (5, .long ((((0 <<< ((nI (8)).toInt64 &&& 63)) ||| ((((S.2.1 (62 + e9)) (k9 + 0)) &&& (nI (255))).toInt64)) <<< ((nI (8)).toInt64 &&& 63)) ||| ((((S.2.1 (62 + e9)) (k9 + 1)) &&& (nI (255))).toInt64))), (4, .int (nI (2))), (0, .ref (ad (57))), (1, .int (nI (e9))), (2, .int (nI (1))), (3, .int (nI (k9)))]) hx hbc dX7_read_111 hl (k := 1) rfl (by decide) (by decide) rfl (fun ls hl => ?_)
                  refine lv_goto (tgt := 77) hx hbc dX7_read_114 (by decide) ?_
                  refine lv_iload hx hbc dX7_read_77 (lv_at hl 0 rfl) ?_
                  refine lv_iload hx hbc dX7_read_79 (lv_at hl 2 rfl) ?_
                  refine n_cmp_ge (tgt := 117) (by omega) (by omega) hx hbc dX7_read_81 (by decide) (fun c_81 => ?_) (fun c_81 => ?_)
                  · refine lv_iload_n hx hbc dX7_read_117 rfl (lv_at hl 5 rfl) ?_
                    refine lv_lload hx hbc dX7_read_118 (lv_at hl 1 rfl) ?_
                    refine wb_Sl (na := 2) (As := [.int (nI (1)), .long ((((0 <<< ((nI (8)).toInt64 &&& 63)) ||| ((((S.2.1 (62 + e9)) (k9 + 0)) &&& (nI (255))).toInt64)) <<< ((nI (8)).toInt64 &&& 63)) ||| ((((S.2.1 (62 + e9)) (k9 + 1)) &&& (nI (255))).toInt64))]) (rest := []) hx hbc hml hg hown w E0_ok trivial (w.1.sub (tys' := tyM cy) [0, 1, 2] rfl) Sub.none (k_ofWidth1 l D cy ad al (S) ((((0 <<< ((nI (8)).toInt64 &&& 63)) ||| ((((S.2.1 (62 + e9)) (k9 + 0)) &&& (nI (255))).toInt64)) <<< ((nI (8)).toInt64 &&& 63)) ||| ((((S.2.1 (62 + e9)) (k9 + 1)) &&& (nI (255))).toInt64))) wk_577 wk_1 wk_575 wk_576 ⟨by decide, by decide, by decide⟩ ⟨by rw [hRf]; decide, by rw [hRl]; decide⟩ rfl hl.1 rfl (Nat.le_of_ble_eq_true rfl) dX7_read_120 ⟨Nat.zero_le _, Nat.zero_le _⟩ (fun r S9 H locs hp w => ?_)
                    subst hp
                    exact hend _ _ _ _ _ _ (Or.inr (Or.inr ⟨e9, 1, k9, he9, rfl, (by decide), rfl, rfl, (by show k9 + 2 ≤ _; omega), rfl, rfl⟩)) w dX7_read_123
                  · exact absurd c_81 (by decide)
            · exact hthr (S) _ _ _ _ 137 "not all of it is in the digest" (List.mem_of_getElem? (i := 0) rfl) ⟨rfl, ⟨e9, 1, he9, rfl, (by decide), rfl, oor_le c_58 (by omega)⟩, rfl⟩ w hl.1 dX7_read_61 dX7_read_64 dX7_read_65 dX7_read_67 dX7_read_70
        · skip
          refine va_gets hx hbc hE.2.2.2.1.1 w.2.2.2.1 hown (hg _ wk_569) (fun _ h9 => h9) dX7_read_31 ?_
          refine lv_iload_n hx hbc dX7_read_34 rfl (lv_at hl 2 rfl) ?_
          refine wb_sld (k := 2) (v := nI (2)) hx hbc w hE.2.2.2.1 rfl (by omega) (by decide) rfl dX7_read_35 ?_
          refine lv_istore (lv' := [(4, .int (nI (2))), (0, .ref (ad (57))), (1, .int (nI (e9))), (2, .int (nI (2))), (3, .int (i))]) hx hbc dX7_read_36 hl (by decide) rfl (fun ls hl => ?_)
          refine lv_iload_n hx hbc dX7_read_38 rfl (lv_at hl 4 rfl) ?_
          refine lv_if_lt (tgt := 61) hx hbc dX7_read_39 (by decide) (fun c_39 => ?_) (fun c_39 => ?_)
          · exact hthr (S) _ _ _ _ 137 "not all of it is in the digest" (List.mem_of_getElem? (i := 0) rfl) ⟨rfl, ⟨e9, 2, he9, rfl, (by decide), rfl, oor_n c_39 (by have := l32_in (S.2.1 34 e9); omega)⟩, rfl⟩ w hl.1 dX7_read_61 dX7_read_64 dX7_read_65 dX7_read_67 dX7_read_70
          · refine lv_iload_n hx hbc dX7_read_42 rfl (lv_at hl 4 rfl) ?_
            refine lv_aload_n hx hbc dX7_read_43 rfl (lv_at hl 1 rfl) ?_
            refine wb_gr (t := 31) hx hbc hg hown w inG_X7 57 (by decide) rfl rfl 5 (by decide) rfl wk_210 dX7_read_44 ?_
            refine wb_gr (t := 34) hx hbc hg hown w inG_X4 31 (by decide) rfl rfl 2 (by decide) rfl wk_117 dX7_read_47 ?_
            refine lv_iload_n hx hbc dX7_read_50 rfl (lv_at hl 2 rfl) ?_
            refine wb_iald (k := e9) (v := (S.2.1 34) e9) hx hbc w 34 (by decide) rfl 0 rfl rfl (by omega) (by decide) rfl dX7_read_51 ?_
            refine wb_Si (na := 1) (As := [.int ((S.2.1 34) e9)]) (rest := [.int (i)]) hx hbc hml hg hown w E0_ok trivial (w.1.sub (tys' := tyM cy) [0, 1, 2] rfl) Sub.none (k_bytesOf l D cy ad al (S) ((S.2.1 34) e9)) wk_331 wk_1 wk_357 wk_330 ⟨by decide, by decide, by decide⟩ ⟨by rw [hRf]; decide, by rw [hRl]; decide⟩ rfl hl.1 rfl (Nat.le_of_ble_eq_true rfl) dX7_read_52 ⟨Nat.zero_le _, Nat.zero_le _⟩ (fun r S9 H locs hp w => ?_)
            subst hp
            have hl32_0 := l32_in ((S.2.1 34) e9)
            refine lv_iload hx hbc dX7_read_55 (lv_at hl 0 rfl) ?_
            refine n_isub (by omega) hx hbc dX7_read_57 ?_
            refine lv_icmp_le (tgt := 71) hx hbc dX7_read_58 (by decide) (fun c_58 => ?_) (fun c_58 => ?_)
            · obtain ⟨k9, hk9, rfl⟩ := rg_le c_39 c_58 (by omega)
              refine lv_lconst (v := 0) hx hbc dX7_read_71 (by decide) ?_
              refine lv_lstore (lv' := [(5, .long (0)), (4, .int (nI (2))), (0, .ref (ad (57))), (1, .int (nI (e9))), (2, .int (nI (2))), (3, .int (nI (k9)))]) hx hbc dX7_read_72 hl (by decide) rfl (fun ls hl => ?_)
              refine lv_iconst (v := nI (0)) hx hbc dX7_read_74 (by decide) ?_
              refine lv_istore (lv' := [(7, .int (nI (0))), (5, .long (0)), (4, .int (nI (2))), (0, .ref (ad (57))), (1, .int (nI (e9))), (2, .int (nI (2))), (3, .int (nI (k9)))]) hx hbc dX7_read_75 hl (by decide) rfl (fun ls hl => ?_)
              refine lv_iload hx hbc dX7_read_77 (lv_at hl 0 rfl) ?_
              refine lv_iload hx hbc dX7_read_79 (lv_at hl 2 rfl) ?_
              refine n_cmp_ge (tgt := 117) (by omega) (by omega) hx hbc dX7_read_81 (by decide) (fun c_81 => ?_) (fun c_81 => ?_)
              · exact absurd c_81 (by decide)
              · refine lv_lload hx hbc dX7_read_84 (lv_at hl 1 rfl) ?_
                refine lv_bipush (v := nI (8)) hx hbc dX7_read_86 (by decide) ?_
                refine lv_lshl hx hbc dX7_read_88 rfl ?_
                refine lv_aload_n hx hbc dX7_read_89 rfl (lv_at hl 3 rfl) ?_
                refine wb_gr (t := 31) hx hbc hg hown w inG_X7 57 (by decide) rfl rfl 5 (by decide) rfl wk_210 dX7_read_90 ?_
                refine wb_gr (t := 32) hx hbc hg hown w inG_X4 31 (by decide) rfl rfl 0 (by decide) rfl wk_114 dX7_read_93 ?_
                refine lv_iload_n hx hbc dX7_read_96 rfl (lv_at hl 4 rfl) ?_
                refine wb_aaldA (k := e9) (t := 62 + e9) hx hbc w 32 (by decide) rfl (by decide) 5 rfl rfl (by omega) (by decide) rfl dX7_read_97 ?_
                refine lv_iload_n hx hbc dX7_read_98 rfl (lv_at hl 6 rfl) ?_
                refine lv_iload hx hbc dX7_read_99 (lv_at hl 0 rfl) ?_
                refine n_iadd hx hbc dX7_read_101 ?_
                refine wb_bald (k := k9 + 0) (v := (S.2.1 (62 + e9)) (k9 + 0)) hx hbc w (62 + e9) (by omega) (skD_b _ (by omega)) 1 rfl rfl (by omega) (by decide) rfl dX7_read_102 ?_
                refine lv_sipush (v := nI (255)) hx hbc dX7_read_103 (by decide) ?_
                refine lv_iand hx hbc dX7_read_106 ?_
                refine lv_i2l hx hbc dX7_read_107 rfl ?_
                refine lv_lor hx hbc dX7_read_108 ?_
                refine lv_lstore (lv' := [(5, .long ((0 <<< ((nI (8)).toInt64 &&& 63)) ||| ((((S.2.1 (62 + e9)) (k9 + 0)) &&& (nI (255))).toInt64))), (7, .int (nI (0))), (4, .int (nI (2))), (0, .ref (ad (57))), (1, .int (nI (e9))), (2, .int (nI (2))), (3, .int (nI (k9)))]) hx hbc dX7_read_109 hl (by decide) rfl (fun ls hl => ?_)
                refine lv_iinc (v := nI (1)) (lv' := [(7, .int (nI (1))), (5, .long ((0 <<< ((nI (8)).toInt64 &&& 63)) ||| ((((S.2.1 (62 + e9)) (k9 + 0)) &&& (nI (255))).toInt64))), (4, .int (nI (2))), (0, .ref (ad (57))), (1, .int (nI (e9))), (2, .int (nI (2))), (3, .int (nI (k9)))]) hx hbc dX7_read_111 hl (k := 1) rfl (by decide) (by decide) rfl (fun ls hl => ?_)
                refine lv_goto (tgt := 77) hx hbc dX7_read_114 (by decide) ?_
                refine lv_iload hx hbc dX7_read_77 (lv_at hl 0 rfl) ?_
                refine lv_iload hx hbc dX7_read_79 (lv_at hl 2 rfl) ?_
                refine n_cmp_ge (tgt := 117) (by omega) (by omega) hx hbc dX7_read_81 (by decide) (fun c_81 => ?_) (fun c_81 => ?_)
                · exact absurd c_81 (by decide)
                · refine lv_lload hx hbc dX7_read_84 (lv_at hl 1 rfl) ?_
                  refine lv_bipush (v := nI (8)) hx hbc dX7_read_86 (by decide) ?_
                  refine lv_lshl hx hbc dX7_read_88 rfl ?_
                  refine lv_aload_n hx hbc dX7_read_89 rfl (lv_at hl 3 rfl) ?_
                  refine wb_gr (t := 31) hx hbc hg hown w inG_X7 57 (by decide) rfl rfl 5 (by decide) rfl wk_210 dX7_read_90 ?_
                  refine wb_gr (t := 32) hx hbc hg hown w inG_X4 31 (by decide) rfl rfl 0 (by decide) rfl wk_114 dX7_read_93 ?_
                  refine lv_iload_n hx hbc dX7_read_96 rfl (lv_at hl 4 rfl) ?_
                  refine wb_aaldA (k := e9) (t := 62 + e9) hx hbc w 32 (by decide) rfl (by decide) 5 rfl rfl (by omega) (by decide) rfl dX7_read_97 ?_
                  refine lv_iload_n hx hbc dX7_read_98 rfl (lv_at hl 6 rfl) ?_
                  refine lv_iload hx hbc dX7_read_99 (lv_at hl 0 rfl) ?_
                  refine n_iadd hx hbc dX7_read_101 ?_
                  refine wb_bald (k := k9 + 1) (v := (S.2.1 (62 + e9)) (k9 + 1)) hx hbc w (62 + e9) (by omega) (skD_b _ (by omega)) 1 rfl rfl (by omega) (by decide) rfl dX7_read_102 ?_
                  refine lv_sipush (v := nI (255)) hx hbc dX7_read_103 (by decide) ?_
                  refine lv_iand hx hbc dX7_read_106 ?_
                  refine lv_i2l hx hbc dX7_read_107 rfl ?_
                  refine lv_lor hx hbc dX7_read_108 ?_
                  refine lv_lstore (lv' := [(5, .long ((((0 <<< ((nI (8)).toInt64 &&& 63)) ||| ((((S.2.1 (62 + e9)) (k9 + 0)) &&& (nI (255))).toInt64)) <<< ((nI (8)).toInt64 &&& 63)) ||| ((((S.2.1 (62 + e9)) (k9 + 1)) &&& (nI (255))).toInt64))), (7, .int (nI (1))), (4, .int (nI (2))), (0, .ref (ad (57))), (1, .int (nI (e9))), (2, .int (nI (2))), (3, .int (nI (k9)))]) hx hbc dX7_read_109 hl (by decide) rfl (fun ls hl => ?_)
                  refine lv_iinc (v := nI (2)) (lv' := [(7, .int (nI (2))), (5, .long ((((0 <<< ((nI (8)).toInt64 &&& 63)) ||| ((((S.2.1 (62 + e9)) (k9 + 0)) &&& (nI (255))).toInt64)) <<< ((nI (8)).toInt64 &&& 63)) ||| ((((S.2.1 (62 + e9)) (k9 + 1)) &&& (nI (255))).toInt64))), (4, .int (nI (2))), (0, .ref (ad (57))), (1, .int (nI (e9))), (2, .int (nI (2))), (3, .int (nI (k9)))]) hx hbc dX7_read_111 hl (k := 1) rfl (by decide) (by decide) rfl (fun ls hl => ?_)
                  refine lv_goto (tgt := 77) hx hbc dX7_read_114 (by decide) ?_
                  refine lv_iload hx hbc dX7_read_77 (lv_at hl 0 rfl) ?_
                  refine lv_iload hx hbc dX7_read_79 (lv_at hl 2 rfl) ?_
                  refine n_cmp_ge (tgt := 117) (by omega) (by omega) hx hbc dX7_read_81 (by decide) (fun c_81 => ?_) (fun c_81 => ?_)
                  · refine lv_iload_n hx hbc dX7_read_117 rfl (lv_at hl 5 rfl) ?_
                    refine lv_lload hx hbc dX7_read_118 (lv_at hl 1 rfl) ?_
                    refine wb_Sl (na := 2) (As := [.int (nI (2)), .long ((((0 <<< ((nI (8)).toInt64 &&& 63)) ||| ((((S.2.1 (62 + e9)) (k9 + 0)) &&& (nI (255))).toInt64)) <<< ((nI (8)).toInt64 &&& 63)) ||| ((((S.2.1 (62 + e9)) (k9 + 1)) &&& (nI (255))).toInt64))]) (rest := []) hx hbc hml hg hown w E0_ok trivial (w.1.sub (tys' := tyM cy) [0, 1, 2] rfl) Sub.none (k_ofWidth2 l D cy ad al (S) ((((0 <<< ((nI (8)).toInt64 &&& 63)) ||| ((((S.2.1 (62 + e9)) (k9 + 0)) &&& (nI (255))).toInt64)) <<< ((nI (8)).toInt64 &&& 63)) ||| ((((S.2.1 (62 + e9)) (k9 + 1)) &&& (nI (255))).toInt64))) wk_577 wk_1 wk_575 wk_576 ⟨by decide, by decide, by decide⟩ ⟨by rw [hRf]; decide, by rw [hRl]; decide⟩ rfl hl.1 rfl (Nat.le_of_ble_eq_true rfl) dX7_read_120 ⟨Nat.zero_le _, Nat.zero_le _⟩ (fun r S9 H locs hp w => ?_)
                    subst hp
                    exact hend _ _ _ _ _ _ (Or.inr (Or.inr ⟨e9, 2, k9, he9, rfl, (by decide), rfl, rfl, (by show k9 + 2 ≤ _; omega), rfl, rfl⟩)) w dX7_read_123
                  · exact absurd c_81 (by decide)
            · exact hthr (S) _ _ _ _ 137 "not all of it is in the digest" (List.mem_of_getElem? (i := 0) rfl) ⟨rfl, ⟨e9, 2, he9, rfl, (by decide), rfl, oor_le c_58 (by omega)⟩, rfl⟩ w hl.1 dX7_read_61 dX7_read_64 dX7_read_65 dX7_read_67 dX7_read_70
        · skip
          refine va_gets hx hbc hE.2.2.2.1.1 w.2.2.2.1 hown (hg _ wk_569) (fun _ h9 => h9) dX7_read_31 ?_
          refine lv_iload_n hx hbc dX7_read_34 rfl (lv_at hl 2 rfl) ?_
          refine wb_sld (k := 3) (v := nI (4)) hx hbc w hE.2.2.2.1 rfl (by omega) (by decide) rfl dX7_read_35 ?_
          refine lv_istore (lv' := [(4, .int (nI (4))), (0, .ref (ad (57))), (1, .int (nI (e9))), (2, .int (nI (3))), (3, .int (i))]) hx hbc dX7_read_36 hl (by decide) rfl (fun ls hl => ?_)
          refine lv_iload_n hx hbc dX7_read_38 rfl (lv_at hl 4 rfl) ?_
          refine lv_if_lt (tgt := 61) hx hbc dX7_read_39 (by decide) (fun c_39 => ?_) (fun c_39 => ?_)
          · exact hthr (S) _ _ _ _ 137 "not all of it is in the digest" (List.mem_of_getElem? (i := 0) rfl) ⟨rfl, ⟨e9, 3, he9, rfl, (by decide), rfl, oor_n c_39 (by have := l32_in (S.2.1 34 e9); omega)⟩, rfl⟩ w hl.1 dX7_read_61 dX7_read_64 dX7_read_65 dX7_read_67 dX7_read_70
          · refine lv_iload_n hx hbc dX7_read_42 rfl (lv_at hl 4 rfl) ?_
            refine lv_aload_n hx hbc dX7_read_43 rfl (lv_at hl 1 rfl) ?_
            refine wb_gr (t := 31) hx hbc hg hown w inG_X7 57 (by decide) rfl rfl 5 (by decide) rfl wk_210 dX7_read_44 ?_
            refine wb_gr (t := 34) hx hbc hg hown w inG_X4 31 (by decide) rfl rfl 2 (by decide) rfl wk_117 dX7_read_47 ?_
            refine lv_iload_n hx hbc dX7_read_50 rfl (lv_at hl 2 rfl) ?_
            refine wb_iald (k := e9) (v := (S.2.1 34) e9) hx hbc w 34 (by decide) rfl 0 rfl rfl (by omega) (by decide) rfl dX7_read_51 ?_
            refine wb_Si (na := 1) (As := [.int ((S.2.1 34) e9)]) (rest := [.int (i)]) hx hbc hml hg hown w E0_ok trivial (w.1.sub (tys' := tyM cy) [0, 1, 2] rfl) Sub.none (k_bytesOf l D cy ad al (S) ((S.2.1 34) e9)) wk_331 wk_1 wk_357 wk_330 ⟨by decide, by decide, by decide⟩ ⟨by rw [hRf]; decide, by rw [hRl]; decide⟩ rfl hl.1 rfl (Nat.le_of_ble_eq_true rfl) dX7_read_52 ⟨Nat.zero_le _, Nat.zero_le _⟩ (fun r S9 H locs hp w => ?_)
            subst hp
            have hl32_0 := l32_in ((S.2.1 34) e9)
            refine lv_iload hx hbc dX7_read_55 (lv_at hl 0 rfl) ?_
            refine n_isub (by omega) hx hbc dX7_read_57 ?_
            refine lv_icmp_le (tgt := 71) hx hbc dX7_read_58 (by decide) (fun c_58 => ?_) (fun c_58 => ?_)
            · obtain ⟨k9, hk9, rfl⟩ := rg_le c_39 c_58 (by omega)
              refine lv_lconst (v := 0) hx hbc dX7_read_71 (by decide) ?_
              refine lv_lstore (lv' := [(5, .long (0)), (4, .int (nI (4))), (0, .ref (ad (57))), (1, .int (nI (e9))), (2, .int (nI (3))), (3, .int (nI (k9)))]) hx hbc dX7_read_72 hl (by decide) rfl (fun ls hl => ?_)
              refine lv_iconst (v := nI (0)) hx hbc dX7_read_74 (by decide) ?_
              refine lv_istore (lv' := [(7, .int (nI (0))), (5, .long (0)), (4, .int (nI (4))), (0, .ref (ad (57))), (1, .int (nI (e9))), (2, .int (nI (3))), (3, .int (nI (k9)))]) hx hbc dX7_read_75 hl (by decide) rfl (fun ls hl => ?_)
              refine lv_iload hx hbc dX7_read_77 (lv_at hl 0 rfl) ?_
              refine lv_iload hx hbc dX7_read_79 (lv_at hl 2 rfl) ?_
              refine n_cmp_ge (tgt := 117) (by omega) (by omega) hx hbc dX7_read_81 (by decide) (fun c_81 => ?_) (fun c_81 => ?_)
              · exact absurd c_81 (by decide)
              · refine lv_lload hx hbc dX7_read_84 (lv_at hl 1 rfl) ?_
                refine lv_bipush (v := nI (8)) hx hbc dX7_read_86 (by decide) ?_
                refine lv_lshl hx hbc dX7_read_88 rfl ?_
                refine lv_aload_n hx hbc dX7_read_89 rfl (lv_at hl 3 rfl) ?_
                refine wb_gr (t := 31) hx hbc hg hown w inG_X7 57 (by decide) rfl rfl 5 (by decide) rfl wk_210 dX7_read_90 ?_
                refine wb_gr (t := 32) hx hbc hg hown w inG_X4 31 (by decide) rfl rfl 0 (by decide) rfl wk_114 dX7_read_93 ?_
                refine lv_iload_n hx hbc dX7_read_96 rfl (lv_at hl 4 rfl) ?_
                refine wb_aaldA (k := e9) (t := 62 + e9) hx hbc w 32 (by decide) rfl (by decide) 5 rfl rfl (by omega) (by decide) rfl dX7_read_97 ?_
                refine lv_iload_n hx hbc dX7_read_98 rfl (lv_at hl 6 rfl) ?_
                refine lv_iload hx hbc dX7_read_99 (lv_at hl 0 rfl) ?_
                refine n_iadd hx hbc dX7_read_101 ?_
                refine wb_bald (k := k9 + 0) (v := (S.2.1 (62 + e9)) (k9 + 0)) hx hbc w (62 + e9) (by omega) (skD_b _ (by omega)) 1 rfl rfl (by omega) (by decide) rfl dX7_read_102 ?_
                refine lv_sipush (v := nI (255)) hx hbc dX7_read_103 (by decide) ?_
                refine lv_iand hx hbc dX7_read_106 ?_
                refine lv_i2l hx hbc dX7_read_107 rfl ?_
                refine lv_lor hx hbc dX7_read_108 ?_
                refine lv_lstore (lv' := [(5, .long ((0 <<< ((nI (8)).toInt64 &&& 63)) ||| ((((S.2.1 (62 + e9)) (k9 + 0)) &&& (nI (255))).toInt64))), (7, .int (nI (0))), (4, .int (nI (4))), (0, .ref (ad (57))), (1, .int (nI (e9))), (2, .int (nI (3))), (3, .int (nI (k9)))]) hx hbc dX7_read_109 hl (by decide) rfl (fun ls hl => ?_)
                refine lv_iinc (v := nI (1)) (lv' := [(7, .int (nI (1))), (5, .long ((0 <<< ((nI (8)).toInt64 &&& 63)) ||| ((((S.2.1 (62 + e9)) (k9 + 0)) &&& (nI (255))).toInt64))), (4, .int (nI (4))), (0, .ref (ad (57))), (1, .int (nI (e9))), (2, .int (nI (3))), (3, .int (nI (k9)))]) hx hbc dX7_read_111 hl (k := 1) rfl (by decide) (by decide) rfl (fun ls hl => ?_)
                refine lv_goto (tgt := 77) hx hbc dX7_read_114 (by decide) ?_
                refine lv_iload hx hbc dX7_read_77 (lv_at hl 0 rfl) ?_
                refine lv_iload hx hbc dX7_read_79 (lv_at hl 2 rfl) ?_
                refine n_cmp_ge (tgt := 117) (by omega) (by omega) hx hbc dX7_read_81 (by decide) (fun c_81 => ?_) (fun c_81 => ?_)
                · exact absurd c_81 (by decide)
                · refine lv_lload hx hbc dX7_read_84 (lv_at hl 1 rfl) ?_
                  refine lv_bipush (v := nI (8)) hx hbc dX7_read_86 (by decide) ?_
                  refine lv_lshl hx hbc dX7_read_88 rfl ?_
                  refine lv_aload_n hx hbc dX7_read_89 rfl (lv_at hl 3 rfl) ?_
                  refine wb_gr (t := 31) hx hbc hg hown w inG_X7 57 (by decide) rfl rfl 5 (by decide) rfl wk_210 dX7_read_90 ?_
                  refine wb_gr (t := 32) hx hbc hg hown w inG_X4 31 (by decide) rfl rfl 0 (by decide) rfl wk_114 dX7_read_93 ?_
                  refine lv_iload_n hx hbc dX7_read_96 rfl (lv_at hl 4 rfl) ?_
                  refine wb_aaldA (k := e9) (t := 62 + e9) hx hbc w 32 (by decide) rfl (by decide) 5 rfl rfl (by omega) (by decide) rfl dX7_read_97 ?_
                  refine lv_iload_n hx hbc dX7_read_98 rfl (lv_at hl 6 rfl) ?_
                  refine lv_iload hx hbc dX7_read_99 (lv_at hl 0 rfl) ?_
                  refine n_iadd hx hbc dX7_read_101 ?_
                  refine wb_bald (k := k9 + 1) (v := (S.2.1 (62 + e9)) (k9 + 1)) hx hbc w (62 + e9) (by omega) (skD_b _ (by omega)) 1 rfl rfl (by omega) (by decide) rfl dX7_read_102 ?_
                  refine lv_sipush (v := nI (255)) hx hbc dX7_read_103 (by decide) ?_
                  refine lv_iand hx hbc dX7_read_106 ?_
                  refine lv_i2l hx hbc dX7_read_107 rfl ?_
                  refine lv_lor hx hbc dX7_read_108 ?_
                  refine lv_lstore (lv' := [(5, .long ((((0 <<< ((nI (8)).toInt64 &&& 63)) ||| ((((S.2.1 (62 + e9)) (k9 + 0)) &&& (nI (255))).toInt64)) <<< ((nI (8)).toInt64 &&& 63)) ||| ((((S.2.1 (62 + e9)) (k9 + 1)) &&& (nI (255))).toInt64))), (7, .int (nI (1))), (4, .int (nI (4))), (0, .ref (ad (57))), (1, .int (nI (e9))), (2, .int (nI (3))), (3, .int (nI (k9)))]) hx hbc dX7_read_109 hl (by decide) rfl (fun ls hl => ?_)
                  refine lv_iinc (v := nI (2)) (lv' := [(7, .int (nI (2))), (5, .long ((((0 <<< ((nI (8)).toInt64 &&& 63)) ||| ((((S.2.1 (62 + e9)) (k9 + 0)) &&& (nI (255))).toInt64)) <<< ((nI (8)).toInt64 &&& 63)) ||| ((((S.2.1 (62 + e9)) (k9 + 1)) &&& (nI (255))).toInt64))), (4, .int (nI (4))), (0, .ref (ad (57))), (1, .int (nI (e9))), (2, .int (nI (3))), (3, .int (nI (k9)))]) hx hbc dX7_read_111 hl (k := 1) rfl (by decide) (by decide) rfl (fun ls hl => ?_)
                  refine lv_goto (tgt := 77) hx hbc dX7_read_114 (by decide) ?_
                  refine lv_iload hx hbc dX7_read_77 (lv_at hl 0 rfl) ?_
                  refine lv_iload hx hbc dX7_read_79 (lv_at hl 2 rfl) ?_
                  refine n_cmp_ge (tgt := 117) (by omega) (by omega) hx hbc dX7_read_81 (by decide) (fun c_81 => ?_) (fun c_81 => ?_)
                  · exact absurd c_81 (by decide)
                  · refine lv_lload hx hbc dX7_read_84 (lv_at hl 1 rfl) ?_
                    refine lv_bipush (v := nI (8)) hx hbc dX7_read_86 (by decide) ?_
                    refine lv_lshl hx hbc dX7_read_88 rfl ?_
                    refine lv_aload_n hx hbc dX7_read_89 rfl (lv_at hl 3 rfl) ?_
                    refine wb_gr (t := 31) hx hbc hg hown w inG_X7 57 (by decide) rfl rfl 5 (by decide) rfl wk_210 dX7_read_90 ?_
                    refine wb_gr (t := 32) hx hbc hg hown w inG_X4 31 (by decide) rfl rfl 0 (by decide) rfl wk_114 dX7_read_93 ?_
                    refine lv_iload_n hx hbc dX7_read_96 rfl (lv_at hl 4 rfl) ?_
                    refine wb_aaldA (k := e9) (t := 62 + e9) hx hbc w 32 (by decide) rfl (by decide) 5 rfl rfl (by omega) (by decide) rfl dX7_read_97 ?_
                    refine lv_iload_n hx hbc dX7_read_98 rfl (lv_at hl 6 rfl) ?_
                    refine lv_iload hx hbc dX7_read_99 (lv_at hl 0 rfl) ?_
                    refine n_iadd hx hbc dX7_read_101 ?_
                    refine wb_bald (k := k9 + 2) (v := (S.2.1 (62 + e9)) (k9 + 2)) hx hbc w (62 + e9) (by omega) (skD_b _ (by omega)) 1 rfl rfl (by omega) (by decide) rfl dX7_read_102 ?_
                    refine lv_sipush (v := nI (255)) hx hbc dX7_read_103 (by decide) ?_
                    refine lv_iand hx hbc dX7_read_106 ?_
                    refine lv_i2l hx hbc dX7_read_107 rfl ?_
                    refine lv_lor hx hbc dX7_read_108 ?_
                    refine lv_lstore (lv' := [(5, .long ((((((0 <<< ((nI (8)).toInt64 &&& 63)) ||| ((((S.2.1 (62 + e9)) (k9 + 0)) &&& (nI (255))).toInt64)) <<< ((nI (8)).toInt64 &&& 63)) ||| ((((S.2.1 (62 + e9)) (k9 + 1)) &&& (nI (255))).toInt64)) <<< ((nI (8)).toInt64 &&& 63)) ||| ((((S.2.1 (62 + e9)) (k9 + 2)) &&& (nI (255))).toInt64))), (7, .int (nI (2))), (4, .int (nI (4))), (0, .ref (ad (57))), (1, .int (nI (e9))), (2, .int (nI (3))), (3, .int (nI (k9)))]) hx hbc dX7_read_109 hl (by decide) rfl (fun ls hl => ?_)
                    refine lv_iinc (v := nI (3)) (lv' := [(7, .int (nI (3))), (5, .long ((((((0 <<< ((nI (8)).toInt64 &&& 63)) ||| ((((S.2.1 (62 + e9)) (k9 + 0)) &&& (nI (255))).toInt64)) <<< ((nI (8)).toInt64 &&& 63)) ||| ((((S.2.1 (62 + e9)) (k9 + 1)) &&& (nI (255))).toInt64)) <<< ((nI (8)).toInt64 &&& 63)) ||| ((((S.2.1 (62 + e9)) (k9 + 2)) &&& (nI (255))).toInt64))), (4, .int (nI (4))), (0, .ref (ad (57))), (1, .int (nI (e9))), (2, .int (nI (3))), (3, .int (nI (k9)))]) hx hbc dX7_read_111 hl (k := 1) rfl (by decide) (by decide) rfl (fun ls hl => ?_)
                    refine lv_goto (tgt := 77) hx hbc dX7_read_114 (by decide) ?_
                    refine lv_iload hx hbc dX7_read_77 (lv_at hl 0 rfl) ?_
                    refine lv_iload hx hbc dX7_read_79 (lv_at hl 2 rfl) ?_
                    refine n_cmp_ge (tgt := 117) (by omega) (by omega) hx hbc dX7_read_81 (by decide) (fun c_81 => ?_) (fun c_81 => ?_)
                    · exact absurd c_81 (by decide)
                    · refine lv_lload hx hbc dX7_read_84 (lv_at hl 1 rfl) ?_
                      refine lv_bipush (v := nI (8)) hx hbc dX7_read_86 (by decide) ?_
                      refine lv_lshl hx hbc dX7_read_88 rfl ?_
                      refine lv_aload_n hx hbc dX7_read_89 rfl (lv_at hl 3 rfl) ?_
                      refine wb_gr (t := 31) hx hbc hg hown w inG_X7 57 (by decide) rfl rfl 5 (by decide) rfl wk_210 dX7_read_90 ?_
                      refine wb_gr (t := 32) hx hbc hg hown w inG_X4 31 (by decide) rfl rfl 0 (by decide) rfl wk_114 dX7_read_93 ?_
                      refine lv_iload_n hx hbc dX7_read_96 rfl (lv_at hl 4 rfl) ?_
                      refine wb_aaldA (k := e9) (t := 62 + e9) hx hbc w 32 (by decide) rfl (by decide) 5 rfl rfl (by omega) (by decide) rfl dX7_read_97 ?_
                      refine lv_iload_n hx hbc dX7_read_98 rfl (lv_at hl 6 rfl) ?_
                      refine lv_iload hx hbc dX7_read_99 (lv_at hl 0 rfl) ?_
                      refine n_iadd hx hbc dX7_read_101 ?_
                      refine wb_bald (k := k9 + 3) (v := (S.2.1 (62 + e9)) (k9 + 3)) hx hbc w (62 + e9) (by omega) (skD_b _ (by omega)) 1 rfl rfl (by omega) (by decide) rfl dX7_read_102 ?_
                      refine lv_sipush (v := nI (255)) hx hbc dX7_read_103 (by decide) ?_
                      refine lv_iand hx hbc dX7_read_106 ?_
                      refine lv_i2l hx hbc dX7_read_107 rfl ?_
                      refine lv_lor hx hbc dX7_read_108 ?_
                      refine lv_lstore (lv' := [(5, .long ((((((((0 <<< ((nI (8)).toInt64 &&& 63)) ||| ((((S.2.1 (62 + e9)) (k9 + 0)) &&& (nI (255))).toInt64)) <<< ((nI (8)).toInt64 &&& 63)) ||| ((((S.2.1 (62 + e9)) (k9 + 1)) &&& (nI (255))).toInt64)) <<< ((nI (8)).toInt64 &&& 63)) ||| ((((S.2.1 (62 + e9)) (k9 + 2)) &&& (nI (255))).toInt64)) <<< ((nI (8)).toInt64 &&& 63)) ||| ((((S.2.1 (62 + e9)) (k9 + 3)) &&& (nI (255))).toInt64))), (7, .int (nI (3))), (4, .int (nI (4))), (0, .ref (ad (57))), (1, .int (nI (e9))), (2, .int (nI (3))), (3, .int (nI (k9)))]) hx hbc dX7_read_109 hl (by decide) rfl (fun ls hl => ?_)
                      refine lv_iinc (v := nI (4)) (lv' := [(7, .int (nI (4))), (5, .long ((((((((0 <<< ((nI (8)).toInt64 &&& 63)) ||| ((((S.2.1 (62 + e9)) (k9 + 0)) &&& (nI (255))).toInt64)) <<< ((nI (8)).toInt64 &&& 63)) ||| ((((S.2.1 (62 + e9)) (k9 + 1)) &&& (nI (255))).toInt64)) <<< ((nI (8)).toInt64 &&& 63)) ||| ((((S.2.1 (62 + e9)) (k9 + 2)) &&& (nI (255))).toInt64)) <<< ((nI (8)).toInt64 &&& 63)) ||| ((((S.2.1 (62 + e9)) (k9 + 3)) &&& (nI (255))).toInt64))), (4, .int (nI (4))), (0, .ref (ad (57))), (1, .int (nI (e9))), (2, .int (nI (3))), (3, .int (nI (k9)))]) hx hbc dX7_read_111 hl (k := 1) rfl (by decide) (by decide) rfl (fun ls hl => ?_)
                      refine lv_goto (tgt := 77) hx hbc dX7_read_114 (by decide) ?_
                      refine lv_iload hx hbc dX7_read_77 (lv_at hl 0 rfl) ?_
                      refine lv_iload hx hbc dX7_read_79 (lv_at hl 2 rfl) ?_
                      refine n_cmp_ge (tgt := 117) (by omega) (by omega) hx hbc dX7_read_81 (by decide) (fun c_81 => ?_) (fun c_81 => ?_)
                      · refine lv_iload_n hx hbc dX7_read_117 rfl (lv_at hl 5 rfl) ?_
                        refine lv_lload hx hbc dX7_read_118 (lv_at hl 1 rfl) ?_
                        refine wb_Sl (na := 2) (As := [.int (nI (3)), .long ((((((((0 <<< ((nI (8)).toInt64 &&& 63)) ||| ((((S.2.1 (62 + e9)) (k9 + 0)) &&& (nI (255))).toInt64)) <<< ((nI (8)).toInt64 &&& 63)) ||| ((((S.2.1 (62 + e9)) (k9 + 1)) &&& (nI (255))).toInt64)) <<< ((nI (8)).toInt64 &&& 63)) ||| ((((S.2.1 (62 + e9)) (k9 + 2)) &&& (nI (255))).toInt64)) <<< ((nI (8)).toInt64 &&& 63)) ||| ((((S.2.1 (62 + e9)) (k9 + 3)) &&& (nI (255))).toInt64))]) (rest := []) hx hbc hml hg hown w E0_ok trivial (w.1.sub (tys' := tyM cy) [0, 1, 2] rfl) Sub.none (k_ofWidth3 l D cy ad al (S) ((((((((0 <<< ((nI (8)).toInt64 &&& 63)) ||| ((((S.2.1 (62 + e9)) (k9 + 0)) &&& (nI (255))).toInt64)) <<< ((nI (8)).toInt64 &&& 63)) ||| ((((S.2.1 (62 + e9)) (k9 + 1)) &&& (nI (255))).toInt64)) <<< ((nI (8)).toInt64 &&& 63)) ||| ((((S.2.1 (62 + e9)) (k9 + 2)) &&& (nI (255))).toInt64)) <<< ((nI (8)).toInt64 &&& 63)) ||| ((((S.2.1 (62 + e9)) (k9 + 3)) &&& (nI (255))).toInt64))) wk_577 wk_1 wk_575 wk_576 ⟨by decide, by decide, by decide⟩ ⟨by rw [hRf]; decide, by rw [hRl]; decide⟩ rfl hl.1 rfl (Nat.le_of_ble_eq_true rfl) dX7_read_120 ⟨Nat.zero_le _, Nat.zero_le _⟩ (fun r S9 H locs hp w => ?_)
                        subst hp
                        exact hend _ _ _ _ _ _ (Or.inr (Or.inr ⟨e9, 3, k9, he9, rfl, (by decide), rfl, rfl, (by show k9 + 4 ≤ _; omega), rfl, rfl⟩)) w dX7_read_123
                      · exact absurd c_81 (by decide)
            · exact hthr (S) _ _ _ _ 137 "not all of it is in the digest" (List.mem_of_getElem? (i := 0) rfl) ⟨rfl, ⟨e9, 3, he9, rfl, (by decide), rfl, oor_le c_58 (by omega)⟩, rfl⟩ w hl.1 dX7_read_61 dX7_read_64 dX7_read_65 dX7_read_67 dX7_read_70
        · skip
          refine va_gets hx hbc hE.2.2.2.1.1 w.2.2.2.1 hown (hg _ wk_569) (fun _ h9 => h9) dX7_read_31 ?_
          refine lv_iload_n hx hbc dX7_read_34 rfl (lv_at hl 2 rfl) ?_
          refine wb_sld (k := 4) (v := nI (8)) hx hbc w hE.2.2.2.1 rfl (by omega) (by decide) rfl dX7_read_35 ?_
          refine lv_istore (lv' := [(4, .int (nI (8))), (0, .ref (ad (57))), (1, .int (nI (e9))), (2, .int (nI (4))), (3, .int (i))]) hx hbc dX7_read_36 hl (by decide) rfl (fun ls hl => ?_)
          refine lv_iload_n hx hbc dX7_read_38 rfl (lv_at hl 4 rfl) ?_
          refine lv_if_lt (tgt := 61) hx hbc dX7_read_39 (by decide) (fun c_39 => ?_) (fun c_39 => ?_)
          · exact hthr (S) _ _ _ _ 137 "not all of it is in the digest" (List.mem_of_getElem? (i := 0) rfl) ⟨rfl, ⟨e9, 4, he9, rfl, (by decide), rfl, oor_n c_39 (by have := l32_in (S.2.1 34 e9); omega)⟩, rfl⟩ w hl.1 dX7_read_61 dX7_read_64 dX7_read_65 dX7_read_67 dX7_read_70
          · refine lv_iload_n hx hbc dX7_read_42 rfl (lv_at hl 4 rfl) ?_
            refine lv_aload_n hx hbc dX7_read_43 rfl (lv_at hl 1 rfl) ?_
            refine wb_gr (t := 31) hx hbc hg hown w inG_X7 57 (by decide) rfl rfl 5 (by decide) rfl wk_210 dX7_read_44 ?_
            refine wb_gr (t := 34) hx hbc hg hown w inG_X4 31 (by decide) rfl rfl 2 (by decide) rfl wk_117 dX7_read_47 ?_
            refine lv_iload_n hx hbc dX7_read_50 rfl (lv_at hl 2 rfl) ?_
            refine wb_iald (k := e9) (v := (S.2.1 34) e9) hx hbc w 34 (by decide) rfl 0 rfl rfl (by omega) (by decide) rfl dX7_read_51 ?_
            refine wb_Si (na := 1) (As := [.int ((S.2.1 34) e9)]) (rest := [.int (i)]) hx hbc hml hg hown w E0_ok trivial (w.1.sub (tys' := tyM cy) [0, 1, 2] rfl) Sub.none (k_bytesOf l D cy ad al (S) ((S.2.1 34) e9)) wk_331 wk_1 wk_357 wk_330 ⟨by decide, by decide, by decide⟩ ⟨by rw [hRf]; decide, by rw [hRl]; decide⟩ rfl hl.1 rfl (Nat.le_of_ble_eq_true rfl) dX7_read_52 ⟨Nat.zero_le _, Nat.zero_le _⟩ (fun r S9 H locs hp w => ?_)
            subst hp
            have hl32_0 := l32_in ((S.2.1 34) e9)
            refine lv_iload hx hbc dX7_read_55 (lv_at hl 0 rfl) ?_
            refine n_isub (by omega) hx hbc dX7_read_57 ?_
            refine lv_icmp_le (tgt := 71) hx hbc dX7_read_58 (by decide) (fun c_58 => ?_) (fun c_58 => ?_)
            · obtain ⟨k9, hk9, rfl⟩ := rg_le c_39 c_58 (by omega)
              refine lv_lconst (v := 0) hx hbc dX7_read_71 (by decide) ?_
              refine lv_lstore (lv' := [(5, .long (0)), (4, .int (nI (8))), (0, .ref (ad (57))), (1, .int (nI (e9))), (2, .int (nI (4))), (3, .int (nI (k9)))]) hx hbc dX7_read_72 hl (by decide) rfl (fun ls hl => ?_)
              refine lv_iconst (v := nI (0)) hx hbc dX7_read_74 (by decide) ?_
              refine lv_istore (lv' := [(7, .int (nI (0))), (5, .long (0)), (4, .int (nI (8))), (0, .ref (ad (57))), (1, .int (nI (e9))), (2, .int (nI (4))), (3, .int (nI (k9)))]) hx hbc dX7_read_75 hl (by decide) rfl (fun ls hl => ?_)
              refine lv_iload hx hbc dX7_read_77 (lv_at hl 0 rfl) ?_
              refine lv_iload hx hbc dX7_read_79 (lv_at hl 2 rfl) ?_
              refine n_cmp_ge (tgt := 117) (by omega) (by omega) hx hbc dX7_read_81 (by decide) (fun c_81 => ?_) (fun c_81 => ?_)
              · exact absurd c_81 (by decide)
              · refine lv_lload hx hbc dX7_read_84 (lv_at hl 1 rfl) ?_
                refine lv_bipush (v := nI (8)) hx hbc dX7_read_86 (by decide) ?_
                refine lv_lshl hx hbc dX7_read_88 rfl ?_
                refine lv_aload_n hx hbc dX7_read_89 rfl (lv_at hl 3 rfl) ?_
                refine wb_gr (t := 31) hx hbc hg hown w inG_X7 57 (by decide) rfl rfl 5 (by decide) rfl wk_210 dX7_read_90 ?_
                refine wb_gr (t := 32) hx hbc hg hown w inG_X4 31 (by decide) rfl rfl 0 (by decide) rfl wk_114 dX7_read_93 ?_
                refine lv_iload_n hx hbc dX7_read_96 rfl (lv_at hl 4 rfl) ?_
                refine wb_aaldA (k := e9) (t := 62 + e9) hx hbc w 32 (by decide) rfl (by decide) 5 rfl rfl (by omega) (by decide) rfl dX7_read_97 ?_
                refine lv_iload_n hx hbc dX7_read_98 rfl (lv_at hl 6 rfl) ?_
                refine lv_iload hx hbc dX7_read_99 (lv_at hl 0 rfl) ?_
                refine n_iadd hx hbc dX7_read_101 ?_
                refine wb_bald (k := k9 + 0) (v := (S.2.1 (62 + e9)) (k9 + 0)) hx hbc w (62 + e9) (by omega) (skD_b _ (by omega)) 1 rfl rfl (by omega) (by decide) rfl dX7_read_102 ?_
                refine lv_sipush (v := nI (255)) hx hbc dX7_read_103 (by decide) ?_
                refine lv_iand hx hbc dX7_read_106 ?_
                refine lv_i2l hx hbc dX7_read_107 rfl ?_
                refine lv_lor hx hbc dX7_read_108 ?_
                refine lv_lstore (lv' := [(5, .long ((0 <<< ((nI (8)).toInt64 &&& 63)) ||| ((((S.2.1 (62 + e9)) (k9 + 0)) &&& (nI (255))).toInt64))), (7, .int (nI (0))), (4, .int (nI (8))), (0, .ref (ad (57))), (1, .int (nI (e9))), (2, .int (nI (4))), (3, .int (nI (k9)))]) hx hbc dX7_read_109 hl (by decide) rfl (fun ls hl => ?_)
                refine lv_iinc (v := nI (1)) (lv' := [(7, .int (nI (1))), (5, .long ((0 <<< ((nI (8)).toInt64 &&& 63)) ||| ((((S.2.1 (62 + e9)) (k9 + 0)) &&& (nI (255))).toInt64))), (4, .int (nI (8))), (0, .ref (ad (57))), (1, .int (nI (e9))), (2, .int (nI (4))), (3, .int (nI (k9)))]) hx hbc dX7_read_111 hl (k := 1) rfl (by decide) (by decide) rfl (fun ls hl => ?_)
                refine lv_goto (tgt := 77) hx hbc dX7_read_114 (by decide) ?_
                refine lv_iload hx hbc dX7_read_77 (lv_at hl 0 rfl) ?_
                refine lv_iload hx hbc dX7_read_79 (lv_at hl 2 rfl) ?_
                refine n_cmp_ge (tgt := 117) (by omega) (by omega) hx hbc dX7_read_81 (by decide) (fun c_81 => ?_) (fun c_81 => ?_)
                · exact absurd c_81 (by decide)
                · refine lv_lload hx hbc dX7_read_84 (lv_at hl 1 rfl) ?_
                  refine lv_bipush (v := nI (8)) hx hbc dX7_read_86 (by decide) ?_
                  refine lv_lshl hx hbc dX7_read_88 rfl ?_
                  refine lv_aload_n hx hbc dX7_read_89 rfl (lv_at hl 3 rfl) ?_
                  refine wb_gr (t := 31) hx hbc hg hown w inG_X7 57 (by decide) rfl rfl 5 (by decide) rfl wk_210 dX7_read_90 ?_
                  refine wb_gr (t := 32) hx hbc hg hown w inG_X4 31 (by decide) rfl rfl 0 (by decide) rfl wk_114 dX7_read_93 ?_
                  refine lv_iload_n hx hbc dX7_read_96 rfl (lv_at hl 4 rfl) ?_
                  refine wb_aaldA (k := e9) (t := 62 + e9) hx hbc w 32 (by decide) rfl (by decide) 5 rfl rfl (by omega) (by decide) rfl dX7_read_97 ?_
                  refine lv_iload_n hx hbc dX7_read_98 rfl (lv_at hl 6 rfl) ?_
                  refine lv_iload hx hbc dX7_read_99 (lv_at hl 0 rfl) ?_
                  refine n_iadd hx hbc dX7_read_101 ?_
                  refine wb_bald (k := k9 + 1) (v := (S.2.1 (62 + e9)) (k9 + 1)) hx hbc w (62 + e9) (by omega) (skD_b _ (by omega)) 1 rfl rfl (by omega) (by decide) rfl dX7_read_102 ?_
                  refine lv_sipush (v := nI (255)) hx hbc dX7_read_103 (by decide) ?_
                  refine lv_iand hx hbc dX7_read_106 ?_
                  refine lv_i2l hx hbc dX7_read_107 rfl ?_
                  refine lv_lor hx hbc dX7_read_108 ?_
                  refine lv_lstore (lv' := [(5, .long ((((0 <<< ((nI (8)).toInt64 &&& 63)) ||| ((((S.2.1 (62 + e9)) (k9 + 0)) &&& (nI (255))).toInt64)) <<< ((nI (8)).toInt64 &&& 63)) ||| ((((S.2.1 (62 + e9)) (k9 + 1)) &&& (nI (255))).toInt64))), (7, .int (nI (1))), (4, .int (nI (8))), (0, .ref (ad (57))), (1, .int (nI (e9))), (2, .int (nI (4))), (3, .int (nI (k9)))]) hx hbc dX7_read_109 hl (by decide) rfl (fun ls hl => ?_)
                  refine lv_iinc (v := nI (2)) (lv' := [(7, .int (nI (2))), (5, .long ((((0 <<< ((nI (8)).toInt64 &&& 63)) ||| ((((S.2.1 (62 + e9)) (k9 + 0)) &&& (nI (255))).toInt64)) <<< ((nI (8)).toInt64 &&& 63)) ||| ((((S.2.1 (62 + e9)) (k9 + 1)) &&& (nI (255))).toInt64))), (4, .int (nI (8))), (0, .ref (ad (57))), (1, .int (nI (e9))), (2, .int (nI (4))), (3, .int (nI (k9)))]) hx hbc dX7_read_111 hl (k := 1) rfl (by decide) (by decide) rfl (fun ls hl => ?_)
                  refine lv_goto (tgt := 77) hx hbc dX7_read_114 (by decide) ?_
                  refine lv_iload hx hbc dX7_read_77 (lv_at hl 0 rfl) ?_
                  refine lv_iload hx hbc dX7_read_79 (lv_at hl 2 rfl) ?_
                  refine n_cmp_ge (tgt := 117) (by omega) (by omega) hx hbc dX7_read_81 (by decide) (fun c_81 => ?_) (fun c_81 => ?_)
                  · exact absurd c_81 (by decide)
                  · refine lv_lload hx hbc dX7_read_84 (lv_at hl 1 rfl) ?_
                    refine lv_bipush (v := nI (8)) hx hbc dX7_read_86 (by decide) ?_
                    refine lv_lshl hx hbc dX7_read_88 rfl ?_
                    refine lv_aload_n hx hbc dX7_read_89 rfl (lv_at hl 3 rfl) ?_
                    refine wb_gr (t := 31) hx hbc hg hown w inG_X7 57 (by decide) rfl rfl 5 (by decide) rfl wk_210 dX7_read_90 ?_
                    refine wb_gr (t := 32) hx hbc hg hown w inG_X4 31 (by decide) rfl rfl 0 (by decide) rfl wk_114 dX7_read_93 ?_
                    refine lv_iload_n hx hbc dX7_read_96 rfl (lv_at hl 4 rfl) ?_
                    refine wb_aaldA (k := e9) (t := 62 + e9) hx hbc w 32 (by decide) rfl (by decide) 5 rfl rfl (by omega) (by decide) rfl dX7_read_97 ?_
                    refine lv_iload_n hx hbc dX7_read_98 rfl (lv_at hl 6 rfl) ?_
                    refine lv_iload hx hbc dX7_read_99 (lv_at hl 0 rfl) ?_
                    refine n_iadd hx hbc dX7_read_101 ?_
                    refine wb_bald (k := k9 + 2) (v := (S.2.1 (62 + e9)) (k9 + 2)) hx hbc w (62 + e9) (by omega) (skD_b _ (by omega)) 1 rfl rfl (by omega) (by decide) rfl dX7_read_102 ?_
                    refine lv_sipush (v := nI (255)) hx hbc dX7_read_103 (by decide) ?_
                    refine lv_iand hx hbc dX7_read_106 ?_
                    refine lv_i2l hx hbc dX7_read_107 rfl ?_
                    refine lv_lor hx hbc dX7_read_108 ?_
                    refine lv_lstore (lv' := [(5, .long ((((((0 <<< ((nI (8)).toInt64 &&& 63)) ||| ((((S.2.1 (62 + e9)) (k9 + 0)) &&& (nI (255))).toInt64)) <<< ((nI (8)).toInt64 &&& 63)) ||| ((((S.2.1 (62 + e9)) (k9 + 1)) &&& (nI (255))).toInt64)) <<< ((nI (8)).toInt64 &&& 63)) ||| ((((S.2.1 (62 + e9)) (k9 + 2)) &&& (nI (255))).toInt64))), (7, .int (nI (2))), (4, .int (nI (8))), (0, .ref (ad (57))), (1, .int (nI (e9))), (2, .int (nI (4))), (3, .int (nI (k9)))]) hx hbc dX7_read_109 hl (by decide) rfl (fun ls hl => ?_)
                    refine lv_iinc (v := nI (3)) (lv' := [(7, .int (nI (3))), (5, .long ((((((0 <<< ((nI (8)).toInt64 &&& 63)) ||| ((((S.2.1 (62 + e9)) (k9 + 0)) &&& (nI (255))).toInt64)) <<< ((nI (8)).toInt64 &&& 63)) ||| ((((S.2.1 (62 + e9)) (k9 + 1)) &&& (nI (255))).toInt64)) <<< ((nI (8)).toInt64 &&& 63)) ||| ((((S.2.1 (62 + e9)) (k9 + 2)) &&& (nI (255))).toInt64))), (4, .int (nI (8))), (0, .ref (ad (57))), (1, .int (nI (e9))), (2, .int (nI (4))), (3, .int (nI (k9)))]) hx hbc dX7_read_111 hl (k := 1) rfl (by decide) (by decide) rfl (fun ls hl => ?_)
                    refine lv_goto (tgt := 77) hx hbc dX7_read_114 (by decide) ?_
                    refine lv_iload hx hbc dX7_read_77 (lv_at hl 0 rfl) ?_
                    refine lv_iload hx hbc dX7_read_79 (lv_at hl 2 rfl) ?_
                    refine n_cmp_ge (tgt := 117) (by omega) (by omega) hx hbc dX7_read_81 (by decide) (fun c_81 => ?_) (fun c_81 => ?_)
                    · exact absurd c_81 (by decide)
                    · refine lv_lload hx hbc dX7_read_84 (lv_at hl 1 rfl) ?_
                      refine lv_bipush (v := nI (8)) hx hbc dX7_read_86 (by decide) ?_
                      refine lv_lshl hx hbc dX7_read_88 rfl ?_
                      refine lv_aload_n hx hbc dX7_read_89 rfl (lv_at hl 3 rfl) ?_
                      refine wb_gr (t := 31) hx hbc hg hown w inG_X7 57 (by decide) rfl rfl 5 (by decide) rfl wk_210 dX7_read_90 ?_
                      refine wb_gr (t := 32) hx hbc hg hown w inG_X4 31 (by decide) rfl rfl 0 (by decide) rfl wk_114 dX7_read_93 ?_
                      refine lv_iload_n hx hbc dX7_read_96 rfl (lv_at hl 4 rfl) ?_
                      refine wb_aaldA (k := e9) (t := 62 + e9) hx hbc w 32 (by decide) rfl (by decide) 5 rfl rfl (by omega) (by decide) rfl dX7_read_97 ?_
                      refine lv_iload_n hx hbc dX7_read_98 rfl (lv_at hl 6 rfl) ?_
                      refine lv_iload hx hbc dX7_read_99 (lv_at hl 0 rfl) ?_
                      refine n_iadd hx hbc dX7_read_101 ?_
                      refine wb_bald (k := k9 + 3) (v := (S.2.1 (62 + e9)) (k9 + 3)) hx hbc w (62 + e9) (by omega) (skD_b _ (by omega)) 1 rfl rfl (by omega) (by decide) rfl dX7_read_102 ?_
                      refine lv_sipush (v := nI (255)) hx hbc dX7_read_103 (by decide) ?_
                      refine lv_iand hx hbc dX7_read_106 ?_
                      refine lv_i2l hx hbc dX7_read_107 rfl ?_
                      refine lv_lor hx hbc dX7_read_108 ?_
                      refine lv_lstore (lv' := [(5, .long ((((((((0 <<< ((nI (8)).toInt64 &&& 63)) ||| ((((S.2.1 (62 + e9)) (k9 + 0)) &&& (nI (255))).toInt64)) <<< ((nI (8)).toInt64 &&& 63)) ||| ((((S.2.1 (62 + e9)) (k9 + 1)) &&& (nI (255))).toInt64)) <<< ((nI (8)).toInt64 &&& 63)) ||| ((((S.2.1 (62 + e9)) (k9 + 2)) &&& (nI (255))).toInt64)) <<< ((nI (8)).toInt64 &&& 63)) ||| ((((S.2.1 (62 + e9)) (k9 + 3)) &&& (nI (255))).toInt64))), (7, .int (nI (3))), (4, .int (nI (8))), (0, .ref (ad (57))), (1, .int (nI (e9))), (2, .int (nI (4))), (3, .int (nI (k9)))]) hx hbc dX7_read_109 hl (by decide) rfl (fun ls hl => ?_)
                      refine lv_iinc (v := nI (4)) (lv' := [(7, .int (nI (4))), (5, .long ((((((((0 <<< ((nI (8)).toInt64 &&& 63)) ||| ((((S.2.1 (62 + e9)) (k9 + 0)) &&& (nI (255))).toInt64)) <<< ((nI (8)).toInt64 &&& 63)) ||| ((((S.2.1 (62 + e9)) (k9 + 1)) &&& (nI (255))).toInt64)) <<< ((nI (8)).toInt64 &&& 63)) ||| ((((S.2.1 (62 + e9)) (k9 + 2)) &&& (nI (255))).toInt64)) <<< ((nI (8)).toInt64 &&& 63)) ||| ((((S.2.1 (62 + e9)) (k9 + 3)) &&& (nI (255))).toInt64))), (4, .int (nI (8))), (0, .ref (ad (57))), (1, .int (nI (e9))), (2, .int (nI (4))), (3, .int (nI (k9)))]) hx hbc dX7_read_111 hl (k := 1) rfl (by decide) (by decide) rfl (fun ls hl => ?_)
                      refine lv_goto (tgt := 77) hx hbc dX7_read_114 (by decide) ?_
                      refine lv_iload hx hbc dX7_read_77 (lv_at hl 0 rfl) ?_
                      refine lv_iload hx hbc dX7_read_79 (lv_at hl 2 rfl) ?_
                      refine n_cmp_ge (tgt := 117) (by omega) (by omega) hx hbc dX7_read_81 (by decide) (fun c_81 => ?_) (fun c_81 => ?_)
                      · exact absurd c_81 (by decide)
                      · refine lv_lload hx hbc dX7_read_84 (lv_at hl 1 rfl) ?_
                        refine lv_bipush (v := nI (8)) hx hbc dX7_read_86 (by decide) ?_
                        refine lv_lshl hx hbc dX7_read_88 rfl ?_
                        refine lv_aload_n hx hbc dX7_read_89 rfl (lv_at hl 3 rfl) ?_
                        refine wb_gr (t := 31) hx hbc hg hown w inG_X7 57 (by decide) rfl rfl 5 (by decide) rfl wk_210 dX7_read_90 ?_
                        refine wb_gr (t := 32) hx hbc hg hown w inG_X4 31 (by decide) rfl rfl 0 (by decide) rfl wk_114 dX7_read_93 ?_
                        refine lv_iload_n hx hbc dX7_read_96 rfl (lv_at hl 4 rfl) ?_
                        refine wb_aaldA (k := e9) (t := 62 + e9) hx hbc w 32 (by decide) rfl (by decide) 5 rfl rfl (by omega) (by decide) rfl dX7_read_97 ?_
                        refine lv_iload_n hx hbc dX7_read_98 rfl (lv_at hl 6 rfl) ?_
                        refine lv_iload hx hbc dX7_read_99 (lv_at hl 0 rfl) ?_
                        refine n_iadd hx hbc dX7_read_101 ?_
                        refine wb_bald (k := k9 + 4) (v := (S.2.1 (62 + e9)) (k9 + 4)) hx hbc w (62 + e9) (by omega) (skD_b _ (by omega)) 1 rfl rfl (by omega) (by decide) rfl dX7_read_102 ?_
                        refine lv_sipush (v := nI (255)) hx hbc dX7_read_103 (by decide) ?_
                        refine lv_iand hx hbc dX7_read_106 ?_
                        refine lv_i2l hx hbc dX7_read_107 rfl ?_
                        refine lv_lor hx hbc dX7_read_108 ?_
                        refine lv_lstore (lv' := [(5, .long ((((((((((0 <<< ((nI (8)).toInt64 &&& 63)) ||| ((((S.2.1 (62 + e9)) (k9 + 0)) &&& (nI (255))).toInt64)) <<< ((nI (8)).toInt64 &&& 63)) ||| ((((S.2.1 (62 + e9)) (k9 + 1)) &&& (nI (255))).toInt64)) <<< ((nI (8)).toInt64 &&& 63)) ||| ((((S.2.1 (62 + e9)) (k9 + 2)) &&& (nI (255))).toInt64)) <<< ((nI (8)).toInt64 &&& 63)) ||| ((((S.2.1 (62 + e9)) (k9 + 3)) &&& (nI (255))).toInt64)) <<< ((nI (8)).toInt64 &&& 63)) ||| ((((S.2.1 (62 + e9)) (k9 + 4)) &&& (nI (255))).toInt64))), (7, .int (nI (4))), (4, .int (nI (8))), (0, .ref (ad (57))), (1, .int (nI (e9))), (2, .int (nI (4))), (3, .int (nI (k9)))]) hx hbc dX7_read_109 hl (by decide) rfl (fun ls hl => ?_)
                        refine lv_iinc (v := nI (5)) (lv' := [(7, .int (nI (5))), (5, .long ((((((((((0 <<< ((nI (8)).toInt64 &&& 63)) ||| ((((S.2.1 (62 + e9)) (k9 + 0)) &&& (nI (255))).toInt64)) <<< ((nI (8)).toInt64 &&& 63)) ||| ((((S.2.1 (62 + e9)) (k9 + 1)) &&& (nI (255))).toInt64)) <<< ((nI (8)).toInt64 &&& 63)) ||| ((((S.2.1 (62 + e9)) (k9 + 2)) &&& (nI (255))).toInt64)) <<< ((nI (8)).toInt64 &&& 63)) ||| ((((S.2.1 (62 + e9)) (k9 + 3)) &&& (nI (255))).toInt64)) <<< ((nI (8)).toInt64 &&& 63)) ||| ((((S.2.1 (62 + e9)) (k9 + 4)) &&& (nI (255))).toInt64))), (4, .int (nI (8))), (0, .ref (ad (57))), (1, .int (nI (e9))), (2, .int (nI (4))), (3, .int (nI (k9)))]) hx hbc dX7_read_111 hl (k := 1) rfl (by decide) (by decide) rfl (fun ls hl => ?_)
                        refine lv_goto (tgt := 77) hx hbc dX7_read_114 (by decide) ?_
                        refine lv_iload hx hbc dX7_read_77 (lv_at hl 0 rfl) ?_
                        refine lv_iload hx hbc dX7_read_79 (lv_at hl 2 rfl) ?_
                        refine n_cmp_ge (tgt := 117) (by omega) (by omega) hx hbc dX7_read_81 (by decide) (fun c_81 => ?_) (fun c_81 => ?_)
                        · exact absurd c_81 (by decide)
                        · refine lv_lload hx hbc dX7_read_84 (lv_at hl 1 rfl) ?_
                          refine lv_bipush (v := nI (8)) hx hbc dX7_read_86 (by decide) ?_
                          refine lv_lshl hx hbc dX7_read_88 rfl ?_
                          refine lv_aload_n hx hbc dX7_read_89 rfl (lv_at hl 3 rfl) ?_
                          refine wb_gr (t := 31) hx hbc hg hown w inG_X7 57 (by decide) rfl rfl 5 (by decide) rfl wk_210 dX7_read_90 ?_
                          refine wb_gr (t := 32) hx hbc hg hown w inG_X4 31 (by decide) rfl rfl 0 (by decide) rfl wk_114 dX7_read_93 ?_
                          refine lv_iload_n hx hbc dX7_read_96 rfl (lv_at hl 4 rfl) ?_
                          refine wb_aaldA (k := e9) (t := 62 + e9) hx hbc w 32 (by decide) rfl (by decide) 5 rfl rfl (by omega) (by decide) rfl dX7_read_97 ?_
                          refine lv_iload_n hx hbc dX7_read_98 rfl (lv_at hl 6 rfl) ?_
                          refine lv_iload hx hbc dX7_read_99 (lv_at hl 0 rfl) ?_
                          refine n_iadd hx hbc dX7_read_101 ?_
                          refine wb_bald (k := k9 + 5) (v := (S.2.1 (62 + e9)) (k9 + 5)) hx hbc w (62 + e9) (by omega) (skD_b _ (by omega)) 1 rfl rfl (by omega) (by decide) rfl dX7_read_102 ?_
                          refine lv_sipush (v := nI (255)) hx hbc dX7_read_103 (by decide) ?_
                          refine lv_iand hx hbc dX7_read_106 ?_
                          refine lv_i2l hx hbc dX7_read_107 rfl ?_
                          refine lv_lor hx hbc dX7_read_108 ?_
                          refine lv_lstore (lv' := [(5, .long ((((((((((((0 <<< ((nI (8)).toInt64 &&& 63)) ||| ((((S.2.1 (62 + e9)) (k9 + 0)) &&& (nI (255))).toInt64)) <<< ((nI (8)).toInt64 &&& 63)) ||| ((((S.2.1 (62 + e9)) (k9 + 1)) &&& (nI (255))).toInt64)) <<< ((nI (8)).toInt64 &&& 63)) ||| ((((S.2.1 (62 + e9)) (k9 + 2)) &&& (nI (255))).toInt64)) <<< ((nI (8)).toInt64 &&& 63)) ||| ((((S.2.1 (62 + e9)) (k9 + 3)) &&& (nI (255))).toInt64)) <<< ((nI (8)).toInt64 &&& 63)) ||| ((((S.2.1 (62 + e9)) (k9 + 4)) &&& (nI (255))).toInt64)) <<< ((nI (8)).toInt64 &&& 63)) ||| ((((S.2.1 (62 + e9)) (k9 + 5)) &&& (nI (255))).toInt64))), (7, .int (nI (5))), (4, .int (nI (8))), (0, .ref (ad (57))), (1, .int (nI (e9))), (2, .int (nI (4))), (3, .int (nI (k9)))]) hx hbc dX7_read_109 hl (by decide) rfl (fun ls hl => ?_)
                          refine lv_iinc (v := nI (6)) (lv' := [(7, .int (nI (6))), (5, .long ((((((((((((0 <<< ((nI (8)).toInt64 &&& 63)) ||| ((((S.2.1 (62 + e9)) (k9 + 0)) &&& (nI (255))).toInt64)) <<< ((nI (8)).toInt64 &&& 63)) ||| ((((S.2.1 (62 + e9)) (k9 + 1)) &&& (nI (255))).toInt64)) <<< ((nI (8)).toInt64 &&& 63)) ||| ((((S.2.1 (62 + e9)) (k9 + 2)) &&& (nI (255))).toInt64)) <<< ((nI (8)).toInt64 &&& 63)) ||| ((((S.2.1 (62 + e9)) (k9 + 3)) &&& (nI (255))).toInt64)) <<< ((nI (8)).toInt64 &&& 63)) ||| ((((S.2.1 (62 + e9)) (k9 + 4)) &&& (nI (255))).toInt64)) <<< ((nI (8)).toInt64 &&& 63)) ||| ((((S.2.1 (62 + e9)) (k9 + 5)) &&& (nI (255))).toInt64))), (4, .int (nI (8))), (0, .ref (ad (57))), (1, .int (nI (e9))), (2, .int (nI (4))), (3, .int (nI (k9)))]) hx hbc dX7_read_111 hl (k := 1) rfl (by decide) (by decide) rfl (fun ls hl => ?_)
                          refine lv_goto (tgt := 77) hx hbc dX7_read_114 (by decide) ?_
                          refine lv_iload hx hbc dX7_read_77 (lv_at hl 0 rfl) ?_
                          refine lv_iload hx hbc dX7_read_79 (lv_at hl 2 rfl) ?_
                          refine n_cmp_ge (tgt := 117) (by omega) (by omega) hx hbc dX7_read_81 (by decide) (fun c_81 => ?_) (fun c_81 => ?_)
                          · exact absurd c_81 (by decide)
                          · refine lv_lload hx hbc dX7_read_84 (lv_at hl 1 rfl) ?_
                            refine lv_bipush (v := nI (8)) hx hbc dX7_read_86 (by decide) ?_
                            refine lv_lshl hx hbc dX7_read_88 rfl ?_
                            refine lv_aload_n hx hbc dX7_read_89 rfl (lv_at hl 3 rfl) ?_
                            refine wb_gr (t := 31) hx hbc hg hown w inG_X7 57 (by decide) rfl rfl 5 (by decide) rfl wk_210 dX7_read_90 ?_
                            refine wb_gr (t := 32) hx hbc hg hown w inG_X4 31 (by decide) rfl rfl 0 (by decide) rfl wk_114 dX7_read_93 ?_
                            refine lv_iload_n hx hbc dX7_read_96 rfl (lv_at hl 4 rfl) ?_
                            refine wb_aaldA (k := e9) (t := 62 + e9) hx hbc w 32 (by decide) rfl (by decide) 5 rfl rfl (by omega) (by decide) rfl dX7_read_97 ?_
                            refine lv_iload_n hx hbc dX7_read_98 rfl (lv_at hl 6 rfl) ?_
                            refine lv_iload hx hbc dX7_read_99 (lv_at hl 0 rfl) ?_
                            refine n_iadd hx hbc dX7_read_101 ?_
                            refine wb_bald (k := k9 + 6) (v := (S.2.1 (62 + e9)) (k9 + 6)) hx hbc w (62 + e9) (by omega) (skD_b _ (by omega)) 1 rfl rfl (by omega) (by decide) rfl dX7_read_102 ?_
                            refine lv_sipush (v := nI (255)) hx hbc dX7_read_103 (by decide) ?_
                            refine lv_iand hx hbc dX7_read_106 ?_
                            refine lv_i2l hx hbc dX7_read_107 rfl ?_
                            refine lv_lor hx hbc dX7_read_108 ?_
                            refine lv_lstore (lv' := [(5, .long ((((((((((((((0 <<< ((nI (8)).toInt64 &&& 63)) ||| ((((S.2.1 (62 + e9)) (k9 + 0)) &&& (nI (255))).toInt64)) <<< ((nI (8)).toInt64 &&& 63)) ||| ((((S.2.1 (62 + e9)) (k9 + 1)) &&& (nI (255))).toInt64)) <<< ((nI (8)).toInt64 &&& 63)) ||| ((((S.2.1 (62 + e9)) (k9 + 2)) &&& (nI (255))).toInt64)) <<< ((nI (8)).toInt64 &&& 63)) ||| ((((S.2.1 (62 + e9)) (k9 + 3)) &&& (nI (255))).toInt64)) <<< ((nI (8)).toInt64 &&& 63)) ||| ((((S.2.1 (62 + e9)) (k9 + 4)) &&& (nI (255))).toInt64)) <<< ((nI (8)).toInt64 &&& 63)) ||| ((((S.2.1 (62 + e9)) (k9 + 5)) &&& (nI (255))).toInt64)) <<< ((nI (8)).toInt64 &&& 63)) ||| ((((S.2.1 (62 + e9)) (k9 + 6)) &&& (nI (255))).toInt64))), (7, .int (nI (6))), (4, .int (nI (8))), (0, .ref (ad (57))), (1, .int (nI (e9))), (2, .int (nI (4))), (3, .int (nI (k9)))]) hx hbc dX7_read_109 hl (by decide) rfl (fun ls hl => ?_)
                            refine lv_iinc (v := nI (7)) (lv' := [(7, .int (nI (7))), (5, .long ((((((((((((((0 <<< ((nI (8)).toInt64 &&& 63)) ||| ((((S.2.1 (62 + e9)) (k9 + 0)) &&& (nI (255))).toInt64)) <<< ((nI (8)).toInt64 &&& 63)) ||| ((((S.2.1 (62 + e9)) (k9 + 1)) &&& (nI (255))).toInt64)) <<< ((nI (8)).toInt64 &&& 63)) ||| ((((S.2.1 (62 + e9)) (k9 + 2)) &&& (nI (255))).toInt64)) <<< ((nI (8)).toInt64 &&& 63)) ||| ((((S.2.1 (62 + e9)) (k9 + 3)) &&& (nI (255))).toInt64)) <<< ((nI (8)).toInt64 &&& 63)) ||| ((((S.2.1 (62 + e9)) (k9 + 4)) &&& (nI (255))).toInt64)) <<< ((nI (8)).toInt64 &&& 63)) ||| ((((S.2.1 (62 + e9)) (k9 + 5)) &&& (nI (255))).toInt64)) <<< ((nI (8)).toInt64 &&& 63)) ||| ((((S.2.1 (62 + e9)) (k9 + 6)) &&& (nI (255))).toInt64))), (4, .int (nI (8))), (0, .ref (ad (57))), (1, .int (nI (e9))), (2, .int (nI (4))), (3, .int (nI (k9)))]) hx hbc dX7_read_111 hl (k := 1) rfl (by decide) (by decide) rfl (fun ls hl => ?_)
                            refine lv_goto (tgt := 77) hx hbc dX7_read_114 (by decide) ?_
                            refine lv_iload hx hbc dX7_read_77 (lv_at hl 0 rfl) ?_
                            refine lv_iload hx hbc dX7_read_79 (lv_at hl 2 rfl) ?_
                            refine n_cmp_ge (tgt := 117) (by omega) (by omega) hx hbc dX7_read_81 (by decide) (fun c_81 => ?_) (fun c_81 => ?_)
                            · exact absurd c_81 (by decide)
                            · refine lv_lload hx hbc dX7_read_84 (lv_at hl 1 rfl) ?_
                              refine lv_bipush (v := nI (8)) hx hbc dX7_read_86 (by decide) ?_
                              refine lv_lshl hx hbc dX7_read_88 rfl ?_
                              refine lv_aload_n hx hbc dX7_read_89 rfl (lv_at hl 3 rfl) ?_
                              refine wb_gr (t := 31) hx hbc hg hown w inG_X7 57 (by decide) rfl rfl 5 (by decide) rfl wk_210 dX7_read_90 ?_
                              refine wb_gr (t := 32) hx hbc hg hown w inG_X4 31 (by decide) rfl rfl 0 (by decide) rfl wk_114 dX7_read_93 ?_
                              refine lv_iload_n hx hbc dX7_read_96 rfl (lv_at hl 4 rfl) ?_
                              refine wb_aaldA (k := e9) (t := 62 + e9) hx hbc w 32 (by decide) rfl (by decide) 5 rfl rfl (by omega) (by decide) rfl dX7_read_97 ?_
                              refine lv_iload_n hx hbc dX7_read_98 rfl (lv_at hl 6 rfl) ?_
                              refine lv_iload hx hbc dX7_read_99 (lv_at hl 0 rfl) ?_
                              refine n_iadd hx hbc dX7_read_101 ?_
                              refine wb_bald (k := k9 + 7) (v := (S.2.1 (62 + e9)) (k9 + 7)) hx hbc w (62 + e9) (by omega) (skD_b _ (by omega)) 1 rfl rfl (by omega) (by decide) rfl dX7_read_102 ?_
                              refine lv_sipush (v := nI (255)) hx hbc dX7_read_103 (by decide) ?_
                              refine lv_iand hx hbc dX7_read_106 ?_
                              refine lv_i2l hx hbc dX7_read_107 rfl ?_
                              refine lv_lor hx hbc dX7_read_108 ?_
                              refine lv_lstore (lv' := [(5, .long ((((((((((((((((0 <<< ((nI (8)).toInt64 &&& 63)) ||| ((((S.2.1 (62 + e9)) (k9 + 0)) &&& (nI (255))).toInt64)) <<< ((nI (8)).toInt64 &&& 63)) ||| ((((S.2.1 (62 + e9)) (k9 + 1)) &&& (nI (255))).toInt64)) <<< ((nI (8)).toInt64 &&& 63)) ||| ((((S.2.1 (62 + e9)) (k9 + 2)) &&& (nI (255))).toInt64)) <<< ((nI (8)).toInt64 &&& 63)) ||| ((((S.2.1 (62 + e9)) (k9 + 3)) &&& (nI (255))).toInt64)) <<< ((nI (8)).toInt64 &&& 63)) ||| ((((S.2.1 (62 + e9)) (k9 + 4)) &&& (nI (255))).toInt64)) <<< ((nI (8)).toInt64 &&& 63)) ||| ((((S.2.1 (62 + e9)) (k9 + 5)) &&& (nI (255))).toInt64)) <<< ((nI (8)).toInt64 &&& 63)) ||| ((((S.2.1 (62 + e9)) (k9 + 6)) &&& (nI (255))).toInt64)) <<< ((nI (8)).toInt64 &&& 63)) ||| ((((S.2.1 (62 + e9)) (k9 + 7)) &&& (nI (255))).toInt64))), (7, .int (nI (7))), (4, .int (nI (8))), (0, .ref (ad (57))), (1, .int (nI (e9))), (2, .int (nI (4))), (3, .int (nI (k9)))]) hx hbc dX7_read_109 hl (by decide) rfl (fun ls hl => ?_)
                              refine lv_iinc (v := nI (8)) (lv' := [(7, .int (nI (8))), (5, .long ((((((((((((((((0 <<< ((nI (8)).toInt64 &&& 63)) ||| ((((S.2.1 (62 + e9)) (k9 + 0)) &&& (nI (255))).toInt64)) <<< ((nI (8)).toInt64 &&& 63)) ||| ((((S.2.1 (62 + e9)) (k9 + 1)) &&& (nI (255))).toInt64)) <<< ((nI (8)).toInt64 &&& 63)) ||| ((((S.2.1 (62 + e9)) (k9 + 2)) &&& (nI (255))).toInt64)) <<< ((nI (8)).toInt64 &&& 63)) ||| ((((S.2.1 (62 + e9)) (k9 + 3)) &&& (nI (255))).toInt64)) <<< ((nI (8)).toInt64 &&& 63)) ||| ((((S.2.1 (62 + e9)) (k9 + 4)) &&& (nI (255))).toInt64)) <<< ((nI (8)).toInt64 &&& 63)) ||| ((((S.2.1 (62 + e9)) (k9 + 5)) &&& (nI (255))).toInt64)) <<< ((nI (8)).toInt64 &&& 63)) ||| ((((S.2.1 (62 + e9)) (k9 + 6)) &&& (nI (255))).toInt64)) <<< ((nI (8)).toInt64 &&& 63)) ||| ((((S.2.1 (62 + e9)) (k9 + 7)) &&& (nI (255))).toInt64))), (4, .int (nI (8))), (0, .ref (ad (57))), (1, .int (nI (e9))), (2, .int (nI (4))), (3, .int (nI (k9)))]) hx hbc dX7_read_111 hl (k := 1) rfl (by decide) (by decide) rfl (fun ls hl => ?_)
                              refine lv_goto (tgt := 77) hx hbc dX7_read_114 (by decide) ?_
                              refine lv_iload hx hbc dX7_read_77 (lv_at hl 0 rfl) ?_
                              refine lv_iload hx hbc dX7_read_79 (lv_at hl 2 rfl) ?_
                              refine n_cmp_ge (tgt := 117) (by omega) (by omega) hx hbc dX7_read_81 (by decide) (fun c_81 => ?_) (fun c_81 => ?_)
                              · refine lv_iload_n hx hbc dX7_read_117 rfl (lv_at hl 5 rfl) ?_
                                refine lv_lload hx hbc dX7_read_118 (lv_at hl 1 rfl) ?_
                                refine wb_Sl (na := 2) (As := [.int (nI (4)), .long ((((((((((((((((0 <<< ((nI (8)).toInt64 &&& 63)) ||| ((((S.2.1 (62 + e9)) (k9 + 0)) &&& (nI (255))).toInt64)) <<< ((nI (8)).toInt64 &&& 63)) ||| ((((S.2.1 (62 + e9)) (k9 + 1)) &&& (nI (255))).toInt64)) <<< ((nI (8)).toInt64 &&& 63)) ||| ((((S.2.1 (62 + e9)) (k9 + 2)) &&& (nI (255))).toInt64)) <<< ((nI (8)).toInt64 &&& 63)) ||| ((((S.2.1 (62 + e9)) (k9 + 3)) &&& (nI (255))).toInt64)) <<< ((nI (8)).toInt64 &&& 63)) ||| ((((S.2.1 (62 + e9)) (k9 + 4)) &&& (nI (255))).toInt64)) <<< ((nI (8)).toInt64 &&& 63)) ||| ((((S.2.1 (62 + e9)) (k9 + 5)) &&& (nI (255))).toInt64)) <<< ((nI (8)).toInt64 &&& 63)) ||| ((((S.2.1 (62 + e9)) (k9 + 6)) &&& (nI (255))).toInt64)) <<< ((nI (8)).toInt64 &&& 63)) ||| ((((S.2.1 (62 + e9)) (k9 + 7)) &&& (nI (255))).toInt64))]) (rest := []) hx hbc hml hg hown w E0_ok trivial (w.1.sub (tys' := tyM cy) [0, 1, 2] rfl) Sub.none (k_ofWidth4 l D cy ad al (S) ((((((((((((((((0 <<< ((nI (8)).toInt64 &&& 63)) ||| ((((S.2.1 (62 + e9)) (k9 + 0)) &&& (nI (255))).toInt64)) <<< ((nI (8)).toInt64 &&& 63)) ||| ((((S.2.1 (62 + e9)) (k9 + 1)) &&& (nI (255))).toInt64)) <<< ((nI (8)).toInt64 &&& 63)) ||| ((((S.2.1 (62 + e9)) (k9 + 2)) &&& (nI (255))).toInt64)) <<< ((nI (8)).toInt64 &&& 63)) ||| ((((S.2.1 (62 + e9)) (k9 + 3)) &&& (nI (255))).toInt64)) <<< ((nI (8)).toInt64 &&& 63)) ||| ((((S.2.1 (62 + e9)) (k9 + 4)) &&& (nI (255))).toInt64)) <<< ((nI (8)).toInt64 &&& 63)) ||| ((((S.2.1 (62 + e9)) (k9 + 5)) &&& (nI (255))).toInt64)) <<< ((nI (8)).toInt64 &&& 63)) ||| ((((S.2.1 (62 + e9)) (k9 + 6)) &&& (nI (255))).toInt64)) <<< ((nI (8)).toInt64 &&& 63)) ||| ((((S.2.1 (62 + e9)) (k9 + 7)) &&& (nI (255))).toInt64))) wk_577 wk_1 wk_575 wk_576 ⟨by decide, by decide, by decide⟩ ⟨by rw [hRf]; decide, by rw [hRl]; decide⟩ rfl hl.1 rfl (Nat.le_of_ble_eq_true rfl) dX7_read_120 ⟨Nat.zero_le _, Nat.zero_le _⟩ (fun r S9 H locs hp w => ?_)
                                subst hp
                                exact hend _ _ _ _ _ _ (Or.inr (Or.inr ⟨e9, 4, k9, he9, rfl, (by decide), rfl, rfl, (by show k9 + 8 ≤ _; omega), rfl, rfl⟩)) w dX7_read_123
                              · exact absurd c_81 (by decide)
            · exact hthr (S) _ _ _ _ 137 "not all of it is in the digest" (List.mem_of_getElem? (i := 0) rfl) ⟨rfl, ⟨e9, 4, he9, rfl, (by decide), rfl, oor_le c_58 (by omega)⟩, rfl⟩ w hl.1 dX7_read_61 dX7_read_64 dX7_read_65 dX7_read_67 dX7_read_70
      · refine lv_ldc2 (v := (-102)) hx hbc hown (hg _ wk_571) dX7_read_27 ?_
        exact hend _ _ _ _ _ _ (Or.inr (Or.inl ⟨e9, he9, rfl, oor_g c_24 (by decide), rfl, rfl⟩)) w dX7_read_30
  · refine lv_ldc2 (v := (-101)) hx hbc hown (hg _ wk_568) dX7_read_11 ?_
    exact hend _ _ _ _ _ _ (Or.inl ⟨hsF_oor c_8 (by omega), rfl, rfl⟩) w dX7_read_14
