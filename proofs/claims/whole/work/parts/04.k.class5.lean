set_option maxHeartbeats 4000000 in
set_option maxRecDepth 100000 in
theorem k_gtake (l : Launch) (D : va_G) (cy : Nat → ClassId) (ad al : Nat → Nat) (S : wS) (h0 g : Nat → Int32) (c9 t mc : Nat) (hI : MI S h0 g c9) (hC : S.1 0 3 = nI c9) (ht : S.1 6 1 = nI t) (ht2 : t ≤ 200) (hmc : S.1 3 5 = nI mc) (hby : ∀ k, k < t → ub (S.2.1 7) k = g (c9 + k)) : CtV l yX1_take (Cond.code yX1_take cX1_take 2 none :: wsG) 5 121 [.ref (ad (3)), .ref (ad (6))] D (tyM cy) 8 cy ad (skMg) (EC al) (S) (fun S' => ∃ T, oth S T ∧ MI T h0 g (c9 + t) ∧ T.1 0 3 = nI (c9 + t) ∧ S' = sI T 3 5 (nI (mc + t))) := by
  refine CtV_of (by decide) (Nat.le_of_ble_eq_true rfl) ?_
  intro p e s m args below meth c A ls R Q hB hRf hRl hend
  obtain ⟨hx, hbc, hr, hg, hown, hml, hlk, w, hE, hl⟩ := hB
  have hl : lv_has ls 2 [(0, .ref (ad (3))), (1, .ref (ad (6)))] := hl
  have hO := oth.rf S
  refine lv_aload_n hx hbc dX1_take_0 rfl (lv_at hl 0 rfl) ?_
  refine wb_gr (t := 0) hx hbc hg hown w inG_X1 3 (by decide) rfl rfl 0 (by decide) rfl wk_79 dX1_take_1 ?_
  refine lv_aload_n hx hbc dX1_take_4 rfl (lv_at hl 1 rfl) ?_
  refine wb_gr (t := 7) hx hbc hg hown w inG_X0 6 (by decide) rfl rfl 0 (by decide) rfl wk_37 dX1_take_5 ?_
  refine lv_aload_n hx hbc dX1_take_8 rfl (lv_at hl 1 rfl) ?_
  refine wb_gi (v := nI (t)) hx hbc hg hown w inG_X0 6 (by decide) rfl rfl 1 (by decide) rfl wk_40 ht dX1_take_9 ?_
  refine wc_Vv (na := 2) (f := (fM 7)) (As := [.ref (ad (7)), .int (nI (t))]) (rest := []) hx hbc hml hg hown w (EC_ok al) hE w.1 (sub4A hM_mg (by decide) (by decide) (g := fun _ => none) rfl) 0 (by decide) rfl rfl (k_mtake l D cy (fun k => ad (fM 7 k)) al (sM (S) 7) 200 (by decide) t (by omega) h0 g c9 c9 hI hby hC) wk_280 wk_3 wk_277 wk_278 wk_279 ⟨by decide, by decide, by decide⟩ ⟨by rw [hRf]; decide, by rw [hRl]; decide⟩ rfl hl.1 rfl (Nat.le_of_ble_eq_true rfl) dX1_take_12 ⟨Nat.zero_le _, Nat.zero_le _⟩ (fun S9 hp H locs w => ?_)
  have w : WB D (tyM cy) 8 cy ad (skMg) A s (mgS S S9) H locs := w _ (sub4T hM_mg (by decide) (g := fun _ => none) rfl (fun k hk => (if_pos hk).symm) (fun k hk => (if_pos hk).symm) hp.2.2.symm (fun i hi _ => ⟨if_neg (by omega), if_neg (by omega), rfl⟩))
  have hI : MI (mgS S S9) h0 g (c9 + t) := mg_MI hp.1
  have hC : (mgS S S9).1 0 3 = nI (c9 + t) := hp.2.1
  have hO := hO.mg S9
  obtain ⟨S_1, eS_1⟩ : ∃ z, z = mgS S S9 := ⟨_, rfl⟩
  rw [← eS_1] at w hI hC hO
  refine lv_aload_n hx hbc dX1_take_15 rfl (lv_at hl 0 rfl) ?_
  refine lv_dup hx hbc dX1_take_16 rfl ?_
  refine wb_gi (v := nI (mc)) hx hbc hg hown w inG_X1 3 (by decide) rfl rfl 5 (by decide) rfl wk_84 ((congrFun (hO 3 (by decide)).1 5).trans hmc) dX1_take_17 ?_
  refine lv_aload_n hx hbc dX1_take_20 rfl (lv_at hl 1 rfl) ?_
  refine wb_gi (v := nI (t)) hx hbc hg hown w inG_X0 6 (by decide) rfl rfl 1 (by decide) rfl wk_40 ((congrFun (hO 6 (by decide)).1 1).trans ht) dX1_take_21 ?_
  refine n_iadd hx hbc dX1_take_24 ?_
  refine wb_pi (v := nI (mc + t)) hx hbc hg hown w inG_X1 tyX1 tyX1_ok nmX1 3 (by decide) rfl rfl 5 (by decide) rfl wk_84 rfl rfl rfl rfl dX1_take_25 (fun H locs w => ?_)
  exact hend (sI S_1 3 5 (nI (mc + t))) _ _ _ _ ⟨_, hO, hI, hC, rfl⟩ w dX1_take_28
set_option maxHeartbeats 4000000 in
set_option maxRecDepth 100000 in
theorem k_gbeginLocked (l : Launch) (D : va_G) (cy : Nat → ClassId) (ad al : Nat → Nat) (S : wS) (g : Nat → Int32) (mk : Nat) (hg9 : ∀ k, k < 64 → (S.2.1 4 k ^^^ nI mk) &&& nI 255 = g k) : CtV l yX1_beginLocked (Cond.code yX1_beginLocked cX1_beginLocked 3 none :: wsG) 5 119 [.ref (ad (3)), .int (nI (mk))] D (tyM cy) 8 cy ad (skMg) (EC al) (S) (fun S' => oth S S' ∧ MI S' wC0 g 64 ∧ S'.1 0 3 = nI 64) := by
  refine CtV_of (by decide) (Nat.le_of_ble_eq_true rfl) ?_
  intro p e s m args below meth c A ls R Q hB hRf hRl hend
  obtain ⟨hx, hbc, hr, hg, hown, hml, hlk, w, hE, hl⟩ := hB
  have hl : lv_has ls 3 [(0, .ref (ad (3))), (1, .int (nI (mk)))] := hl
  have hO := oth.rf S
  refine lv_aload_n hx hbc dX1_beginLocked_0 rfl (lv_at hl 0 rfl) ?_
  refine wb_gr (t := 0) hx hbc hg hown w inG_X1 3 (by decide) rfl rfl 0 (by decide) rfl wk_79 dX1_beginLocked_1 ?_
  refine va_getsN hx hbc hE.2.1.1 w.2.2.2.1 hown (va_Nw.use rfl (hE.2.2.2.2.1 _ (List.mem_of_getElem? (i := 0) rfl))) (fun _ h9 => h9) dX1_beginLocked_4 ?_
  refine wc_Vv (na := 1) (f := id) (As := [.ref (al 1)]) (rest := []) hx hbc hml hg hown w (EC_ok al) hE w.1 (sub3A hM_mg (by decide)) 0 (by decide) rfl rfl (k_mbegin1 l D cy ad al (S)) wk_275 wk_3 wk_272 wk_273 wk_274 ⟨by decide, by decide, by decide⟩ ⟨by rw [hRf]; decide, by rw [hRl]; decide⟩ rfl hl.1 rfl (Nat.le_of_ble_eq_true rfl) dX1_beginLocked_7 ⟨Nat.zero_le _, Nat.zero_le _⟩ (fun S9 hp H locs w => ?_)
  subst hp
  have w : WB D (tyM cy) 8 cy ad (skMg) A s (mgS S (mbg S wC0)) H locs := w _ (sub3T hM_mg _)
  have hI : MI (mgS S (mbg S wC0)) wC0 g 0 := mg_MI (mbg_MI _ _ _)
  have hC : (mgS S (mbg S wC0)).1 0 3 = nI 0 := rfl
  have hO := hO.mg (mbg S wC0)
  obtain ⟨S_1, eS_1⟩ : ∃ z, z = mgS S (mbg S wC0) := ⟨_, rfl⟩
  rw [← eS_1] at w hI hC hO
  refine lv_iconst (v := nI (0)) hx hbc dX1_beginLocked_10 (by decide) ?_
  refine lv_istore_n (lv' := [(2, .int (nI (0))), (0, .ref (ad (3))), (1, .int (nI (mk)))]) hx hbc dX1_beginLocked_11 rfl hl (by decide) rfl (fun ls hl => ?_)
  have lp_12 : ∀ (fu : Nat) (k : Nat) (S1 : wS) (H : Heap) (locs : List Loc) (ls : Array Slot), (64 < k + fu) → (k ≤ 64) → (MI S1 wC0 g k) → (S1.1 0 3 = nI k) → (oth S S1) → WB D (tyM cy) 8 cy ad (skMg) A s (S1) H locs → lv_has ls 3 [(0, .ref (ad (3))), (1, .int (nI (mk))), (2, .int (nI (k)))] → W p l e R s m args below meth c H locs 0 0 Q (F0 m 12 ls []) := by
    intro fu
    induction fu with
    | zero =>
      intro k S1 H locs ls h1 h2 hI hC hO w hl
      exact absurd h1 (by omega)
    | succ fu ih_12 =>
      intro k S1 H locs ls h1 h2 hI hC hO w hl
      refine lv_iload_n hx hbc dX1_beginLocked_12 rfl (lv_at hl 2 rfl) ?_
      refine lv_bipush (v := nI (64)) hx hbc dX1_beginLocked_13 (by decide) ?_
      refine n_cmp_ge (tgt := 39) (by omega) (by omega) hx hbc dX1_beginLocked_15 (by decide) (fun c_15 => ?_) (fun c_15 => ?_)
      · exact hend (S1) _ _ _ _ (by obtain rfl : k = 64 := (by omega); exact ⟨hO, hI, hC⟩) w dX1_beginLocked_39
      · refine lv_aload_n hx hbc dX1_beginLocked_18 rfl (lv_at hl 0 rfl) ?_
        refine wb_gr (t := 0) hx hbc hg hown w inG_X1 3 (by decide) rfl rfl 0 (by decide) rfl wk_79 dX1_beginLocked_19 ?_
        refine lv_aload_n hx hbc dX1_beginLocked_22 rfl (lv_at hl 0 rfl) ?_
        refine wb_gr (t := 4) hx hbc hg hown w inG_X1 3 (by decide) rfl rfl 1 (by decide) rfl wk_80 dX1_beginLocked_23 ?_
        refine lv_iload_n hx hbc dX1_beginLocked_26 rfl (lv_at hl 2 rfl) ?_
        refine wb_bald (k := k) (v := S.2.1 4 k) hx hbc w 4 (by decide) rfl 1 rfl rfl (by omega) (by decide) (congrFun (hO 4 (by decide)).2 k) dX1_beginLocked_27 ?_
        refine lv_iload_n hx hbc dX1_beginLocked_28 rfl (lv_at hl 1 rfl) ?_
        refine lv_ixor hx hbc dX1_beginLocked_29 ?_
        refine wc_Vv (na := 1) (f := id) (As := [.int ((S.2.1 4 k) ^^^ (nI (mk)))]) (rest := []) hx hbc hml hg hown w (EC_ok al) hE w.1 (sub3A hM_mg (by decide)) 0 (by decide) rfl rfl (k_mtakeByte l D cy ad al (S1) ((S.2.1 4 k) ^^^ (nI (mk))) wC0 g k k hI (hg9 k (by omega)) hC) wk_314 wk_3 wk_311 wk_312 wk_313 ⟨by decide, by decide, by decide⟩ ⟨by rw [hRf]; decide, by rw [hRl]; decide⟩ rfl hl.1 rfl (Nat.le_of_ble_eq_true rfl) dX1_beginLocked_30 ⟨Nat.zero_le _, Nat.zero_le _⟩ (fun S9 hp H locs w => ?_)
        have w : WB D (tyM cy) 8 cy ad (skMg) A s (mgS S1 S9) H locs := w _ (sub3T hM_mg _)
        have hI : MI (mgS S1 S9) wC0 g (k + 1) := mg_MI hp.1
        have hC : (mgS S1 S9).1 0 3 = nI (k + 1) := hp.2
        have hO := hO.mg S9
        obtain ⟨S_2, eS_2⟩ : ∃ z, z = mgS S1 S9 := ⟨_, rfl⟩
        rw [← eS_2] at w hI hC hO
        refine lv_iinc (v := nI (k + 1)) (lv' := [(2, .int (nI (k + 1))), (0, .ref (ad (3))), (1, .int (nI (mk)))]) hx hbc dX1_beginLocked_33 hl (k := 2) rfl (ni_inc _ _) (by decide) rfl (fun ls hl => ?_)
        refine lv_goto (tgt := 12) hx hbc dX1_beginLocked_36 (by decide) ?_
        exact ih_12 (k + 1) S_2 _ _ _ (by omega) (by omega) hI hC hO w (lv_sub hl [1, 2, 0] rfl)
  exact lp_12 65 0 S_1 _ _ _ (by omega) (by omega) hI hC hO w (lv_sub hl [1, 2, 0] rfl)
set_option maxHeartbeats 4000000 in
set_option maxRecDepth 100000 in
theorem k_gbegin0 (l : Launch) (D : va_G) (cy : Nat → ClassId) (ad al : Nat → Nat) (S : wS)  : CtV l yX1_begin (Cond.code yX1_begin cX1_begin 3 none :: wsG) 2 47 [.ref (ad (3)), .int (nI (0)), .ref (ad (6))] D (tyM cy) 8 cy ad (skMg) (EC al) (S) (fun S' => S' = mgS (sI (sI (sI S 3 4 (nI (0))) 3 5 (nI (0))) 3 6 (nI (0))) (mbg (sI (sI (sI S 3 4 (nI (0))) 3 5 (nI (0))) 3 6 (nI (0))) wC0)) := by
  refine CtV_of (by decide) (Nat.le_of_ble_eq_true rfl) ?_
  intro p e s m args below meth c A ls R Q hB hRf hRl hend
  obtain ⟨hx, hbc, hr, hg, hown, hml, hlk, w, hE, hl⟩ := hB
  have hl : lv_has ls 3 [(0, .ref (ad (3))), (1, .int (nI (0))), (2, .ref (ad (6)))] := hl
  refine lv_aload_n hx hbc dX1_begin_0 rfl (lv_at hl 0 rfl) ?_
  refine lv_iload_n hx hbc dX1_begin_1 rfl (lv_at hl 1 rfl) ?_
  refine wb_pi (v := nI (0)) hx hbc hg hown w inG_X1 tyX1 tyX1_ok nmX1 3 (by decide) rfl rfl 4 (by decide) rfl wk_83 rfl rfl rfl rfl dX1_begin_2 (fun H locs w => ?_)
  refine lv_aload_n hx hbc dX1_begin_5 rfl (lv_at hl 0 rfl) ?_
  refine lv_iconst (v := nI (0)) hx hbc dX1_begin_6 (by decide) ?_
  refine wb_pi (v := nI (0)) hx hbc hg hown w inG_X1 tyX1 tyX1_ok nmX1 3 (by decide) rfl rfl 5 (by decide) rfl wk_84 rfl rfl rfl rfl dX1_begin_7 (fun H locs w => ?_)
  refine lv_aload_n hx hbc dX1_begin_10 rfl (lv_at hl 0 rfl) ?_
  refine lv_iconst (v := nI (0)) hx hbc dX1_begin_11 (by decide) ?_
  refine wb_pi (v := nI (0)) hx hbc hg hown w inG_X1 tyX1 tyX1_ok nmX1 3 (by decide) rfl rfl 6 (by decide) rfl wk_86 rfl rfl rfl rfl dX1_begin_12 (fun H locs w => ?_)
  refine lv_aload_n hx hbc dX1_begin_15 rfl (lv_at hl 0 rfl) ?_
  refine wb_gi (v := nI (0)) hx hbc hg hown w inG_X1 3 (by decide) rfl rfl 4 (by decide) rfl wk_83 rfl dX1_begin_16 ?_
  refine lv_iconst (v := nI (2)) hx hbc dX1_begin_19 (by decide) ?_
  refine n_cmp_ne (tgt := 37) (by omega) (by omega) hx hbc dX1_begin_20 (by decide) (fun c_20 => ?_) (fun c_20 => ?_)
  · refine lv_aload_n hx hbc dX1_begin_37 rfl (lv_at hl 0 rfl) ?_
    refine wb_gr (t := 0) hx hbc hg hown w inG_X1 3 (by decide) rfl rfl 0 (by decide) rfl wk_79 dX1_begin_38 ?_
    refine lv_aload_n hx hbc dX1_begin_41 rfl (lv_at hl 0 rfl) ?_
    refine wb_gi (v := nI (0)) hx hbc hg hown w inG_X1 3 (by decide) rfl rfl 4 (by decide) rfl wk_83 rfl dX1_begin_42 ?_
    refine lv_iconst (v := nI (1)) hx hbc dX1_begin_45 (by decide) ?_
    refine n_cmp_ne (tgt := 55) (by omega) (by omega) hx hbc dX1_begin_46 (by decide) (fun c_46 => ?_) (fun c_46 => ?_)
    · refine va_getsN hx hbc hE.2.1.1 w.2.2.2.1 hown (va_Nw.use rfl (hE.2.2.2.2.1 _ (List.mem_of_getElem? (i := 0) rfl))) (fun _ h9 => h9) dX1_begin_55 ?_
      refine wc_Vv (na := 1) (f := id) (As := [.ref (al 1)]) (rest := []) hx hbc hml hg hown w (EC_ok al) hE w.1 (sub3A hM_mg (by decide)) 0 (by decide) rfl rfl (k_mbegin1 l D cy ad al (sI (sI (sI S 3 4 (nI (0))) 3 5 (nI (0))) 3 6 (nI (0)))) wk_275 wk_3 wk_272 wk_273 wk_274 ⟨by decide, by decide, by decide⟩ ⟨by rw [hRf]; decide, by rw [hRl]; decide⟩ rfl hl.1 rfl (Nat.le_of_ble_eq_true rfl) dX1_begin_58 ⟨Nat.zero_le _, Nat.zero_le _⟩ (fun S9 hp H locs w => ?_)
      subst hp
      have w : WB D (tyM cy) 8 cy ad (skMg) A s (mgS (sI (sI (sI S 3 4 (nI (0))) 3 5 (nI (0))) 3 6 (nI (0))) (mbg (sI (sI (sI S 3 4 (nI (0))) 3 5 (nI (0))) 3 6 (nI (0))) wC0)) H locs := w _ (sub3T hM_mg _)
      exact hend _ _ _ _ _ rfl w dX1_begin_61
    · exact absurd c_46 (by decide)
  · exact absurd c_20 (by decide)
set_option maxHeartbeats 4000000 in
set_option maxRecDepth 100000 in
theorem k_gbegin1 (l : Launch) (D : va_G) (cy : Nat → ClassId) (ad al : Nat → Nat) (S : wS)  : CtV l yX1_begin (Cond.code yX1_begin cX1_begin 3 none :: wsG) 2 47 [.ref (ad (3)), .int (nI (1)), .ref (ad (6))] D (tyM cy) 8 cy ad (skMg) (EC al) (S) (fun S' => S' = mgS (sI (sI (sI S 3 4 (nI (1))) 3 5 (nI (0))) 3 6 (nI (0))) (mbg (sI (sI (sI S 3 4 (nI (1))) 3 5 (nI (0))) 3 6 (nI (0))) nC0)) := by
  refine CtV_of (by decide) (Nat.le_of_ble_eq_true rfl) ?_
  intro p e s m args below meth c A ls R Q hB hRf hRl hend
  obtain ⟨hx, hbc, hr, hg, hown, hml, hlk, w, hE, hl⟩ := hB
  have hl : lv_has ls 3 [(0, .ref (ad (3))), (1, .int (nI (1))), (2, .ref (ad (6)))] := hl
  refine lv_aload_n hx hbc dX1_begin_0 rfl (lv_at hl 0 rfl) ?_
  refine lv_iload_n hx hbc dX1_begin_1 rfl (lv_at hl 1 rfl) ?_
  refine wb_pi (v := nI (1)) hx hbc hg hown w inG_X1 tyX1 tyX1_ok nmX1 3 (by decide) rfl rfl 4 (by decide) rfl wk_83 rfl rfl rfl rfl dX1_begin_2 (fun H locs w => ?_)
  refine lv_aload_n hx hbc dX1_begin_5 rfl (lv_at hl 0 rfl) ?_
  refine lv_iconst (v := nI (0)) hx hbc dX1_begin_6 (by decide) ?_
  refine wb_pi (v := nI (0)) hx hbc hg hown w inG_X1 tyX1 tyX1_ok nmX1 3 (by decide) rfl rfl 5 (by decide) rfl wk_84 rfl rfl rfl rfl dX1_begin_7 (fun H locs w => ?_)
  refine lv_aload_n hx hbc dX1_begin_10 rfl (lv_at hl 0 rfl) ?_
  refine lv_iconst (v := nI (0)) hx hbc dX1_begin_11 (by decide) ?_
  refine wb_pi (v := nI (0)) hx hbc hg hown w inG_X1 tyX1 tyX1_ok nmX1 3 (by decide) rfl rfl 6 (by decide) rfl wk_86 rfl rfl rfl rfl dX1_begin_12 (fun H locs w => ?_)
  refine lv_aload_n hx hbc dX1_begin_15 rfl (lv_at hl 0 rfl) ?_
  refine wb_gi (v := nI (1)) hx hbc hg hown w inG_X1 3 (by decide) rfl rfl 4 (by decide) rfl wk_83 rfl dX1_begin_16 ?_
  refine lv_iconst (v := nI (2)) hx hbc dX1_begin_19 (by decide) ?_
  refine n_cmp_ne (tgt := 37) (by omega) (by omega) hx hbc dX1_begin_20 (by decide) (fun c_20 => ?_) (fun c_20 => ?_)
  · refine lv_aload_n hx hbc dX1_begin_37 rfl (lv_at hl 0 rfl) ?_
    refine wb_gr (t := 0) hx hbc hg hown w inG_X1 3 (by decide) rfl rfl 0 (by decide) rfl wk_79 dX1_begin_38 ?_
    refine lv_aload_n hx hbc dX1_begin_41 rfl (lv_at hl 0 rfl) ?_
    refine wb_gi (v := nI (1)) hx hbc hg hown w inG_X1 3 (by decide) rfl rfl 4 (by decide) rfl wk_83 rfl dX1_begin_42 ?_
    refine lv_iconst (v := nI (1)) hx hbc dX1_begin_45 (by decide) ?_
    refine n_cmp_ne (tgt := 55) (by omega) (by omega) hx hbc dX1_begin_46 (by decide) (fun c_46 => ?_) (fun c_46 => ?_)
    · exact absurd c_46 (by decide)
    · refine va_getsN hx hbc hE.2.2.1.1 w.2.2.2.1 hown (va_Nw.use rfl (hE.2.2.2.2.1 _ (List.mem_of_getElem? (i := 2) rfl))) (fun _ h9 => h9) dX1_begin_49 ?_
      refine lv_goto (tgt := 58) hx hbc dX1_begin_52 (by decide) ?_
      refine wc_Vv (na := 1) (f := id) (As := [.ref (al 2)]) (rest := []) hx hbc hml hg hown w (EC_ok al) hE w.1 (sub3A hM_mg (by decide)) 0 (by decide) rfl rfl (k_mbegin2 l D cy ad al (sI (sI (sI S 3 4 (nI (1))) 3 5 (nI (0))) 3 6 (nI (0)))) wk_275 wk_3 wk_272 wk_273 wk_274 ⟨by decide, by decide, by decide⟩ ⟨by rw [hRf]; decide, by rw [hRl]; decide⟩ rfl hl.1 rfl (Nat.le_of_ble_eq_true rfl) dX1_begin_58 ⟨Nat.zero_le _, Nat.zero_le _⟩ (fun S9 hp H locs w => ?_)
      subst hp
      have w : WB D (tyM cy) 8 cy ad (skMg) A s (mgS (sI (sI (sI S 3 4 (nI (1))) 3 5 (nI (0))) 3 6 (nI (0))) (mbg (sI (sI (sI S 3 4 (nI (1))) 3 5 (nI (0))) 3 6 (nI (0))) nC0)) H locs := w _ (sub3T hM_mg _)
      exact hend _ _ _ _ _ rfl w dX1_begin_61
  · exact absurd c_20 (by decide)
set_option maxHeartbeats 4000000 in
set_option maxRecDepth 100000 in
theorem k_gmakeLock (l : Launch) (D : va_G) (cy : Nat → ClassId) (ad al : Nat → Nat) (S : wS) (ks bl : Nat) (hks : S.1 6 1 = nI ks) (hks2 : ks ≤ 200) (hbl : S.1 3 6 = nI bl) (hfit : ∀ i, fits .byte (.int (S.2.1 7 i)) = true) : CtV l yX1_makeLock (Cond.code yX1_makeLock cX1_makeLock 2 none :: wsG) 5 122 [.ref (ad (3)), .ref (ad (6))] D (tyM cy) 8 cy ad (skMg) (EC al) (S) (fun S' => mlP S ks bl S') := by
  refine CtV_of (by decide) (Nat.le_of_ble_eq_true rfl) ?_
  intro p e s m args below meth c A ls R Q hB hRf hRl hend
  obtain ⟨hx, hbc, hr, hg, hown, hml, hlk, w, hE, hl⟩ := hB
  have hl : lv_has ls 2 [(0, .ref (ad (3))), (1, .ref (ad (6)))] := hl
  have hO := oth.rf S
  refine lv_aload_n hx hbc dX1_makeLock_0 rfl (lv_at hl 0 rfl) ?_
  refine wb_gr (t := 4) hx hbc hg hown w inG_X1 3 (by decide) rfl rfl 1 (by decide) rfl wk_80 dX1_makeLock_1 ?_
  refine lv_iconst (v := nI (0)) hx hbc dX1_makeLock_4 (by decide) ?_
  refine wc_Sv (na := 2) (f := (fun k => k + 4)) (As := [.ref (ad (4)), .int (nI (0))]) (rest := []) hx hbc hml hg hown w (EC_ok al) hE w.1 ⟨fun k hk => (by obtain rfl : k = 0 := (by omega); exact ⟨by decide, rfl, rfl⟩), fun k k' h h' _ => (by omega)⟩ (k_fill l D cy (fun k => ad (k + 4)) al ((fun k => (S).1 (k + 4)), (fun k => (S).2.1 (k + 4)), (fun k => (S).2.2 (k + 4))) (nI (0)) 64 (by decide)) wk_268 wk_11 wk_266 wk_267 ⟨by decide, by decide, by decide⟩ ⟨by rw [hRf]; decide, by rw [hRl]; decide⟩ rfl hl.1 rfl (Nat.le_of_ble_eq_true rfl) dX1_makeLock_5 ⟨Nat.zero_le _, Nat.zero_le _⟩ (fun S9 hp H locs w => ?_)
  subst hp
  have w : WB D (tyM cy) 8 cy ad (skMg) A s (sB S 4 (cps (S.2.1 4) (fun _ => (nI (0)).toInt8.toInt32) 64)) H locs := w _ ⟨fun k hk => (by obtain rfl : k = 0 := (by omega); rfl), fun i hi hn => (by rcases (show i = 0 ∨ i = 1 ∨ i = 2 ∨ i = 3 ∨ i = 4 ∨ i = 5 ∨ i = 6 ∨ i = 7 by omega) with rfl | rfl | rfl | rfl | rfl | rfl | rfl | rfl <;> first | rfl | exact absurd rfl (hn 0 (by decide)))⟩
  refine lv_aload_n hx hbc dX1_makeLock_8 rfl (lv_at hl 1 rfl) ?_
  refine wb_gi (v := nI (ks)) hx hbc hg hown w inG_X0 6 (by decide) rfl rfl 1 (by decide) rfl wk_40 hks dX1_makeLock_9 ?_
  refine lv_bipush (v := nI (64)) hx hbc dX1_makeLock_12 (by decide) ?_
  refine n_cmp_gt (tgt := 35) (by omega) (by omega) hx hbc dX1_makeLock_14 (by decide) (fun c_14 => ?_) (fun c_14 => ?_)
  · have hO := oth.rf (sB S 4 (cps (S.2.1 4) (fun _ => (nI (0)).toInt8.toInt32) 64))
    refine lv_aload_n hx hbc dX1_makeLock_35 rfl (lv_at hl 0 rfl) ?_
    refine wb_gr (t := 0) hx hbc hg hown w inG_X1 3 (by decide) rfl rfl 0 (by decide) rfl wk_79 dX1_makeLock_36 ?_
    refine va_getsN hx hbc hE.2.1.1 w.2.2.2.1 hown (va_Nw.use rfl (hE.2.2.2.2.1 _ (List.mem_of_getElem? (i := 0) rfl))) (fun _ h9 => h9) dX1_makeLock_39 ?_
    refine wc_Vv (na := 1) (f := id) (As := [.ref (al 1)]) (rest := []) hx hbc hml hg hown w (EC_ok al) hE w.1 (sub3A hM_mg (by decide)) 0 (by decide) rfl rfl (k_mbegin1 l D cy ad al (sB S 4 (cps (S.2.1 4) (fun _ => (nI (0)).toInt8.toInt32) 64))) wk_275 wk_3 wk_272 wk_273 wk_274 ⟨by decide, by decide, by decide⟩ ⟨by rw [hRf]; decide, by rw [hRl]; decide⟩ rfl hl.1 rfl (Nat.le_of_ble_eq_true rfl) dX1_makeLock_42 ⟨Nat.zero_le _, Nat.zero_le _⟩ (fun S9 hp H locs w => ?_)
    subst hp
    have w : WB D (tyM cy) 8 cy ad (skMg) A s (mgS (sB S 4 (cps (S.2.1 4) (fun _ => (nI (0)).toInt8.toInt32) 64)) (mbg (sB S 4 (cps (S.2.1 4) (fun _ => (nI (0)).toInt8.toInt32) 64)) wC0)) H locs := w _ (sub3T hM_mg _)
    have hI : MI (mgS (sB S 4 (cps (S.2.1 4) (fun _ => (nI (0)).toInt8.toInt32) 64)) (mbg (sB S 4 (cps (S.2.1 4) (fun _ => (nI (0)).toInt8.toInt32) 64)) wC0)) wC0 (ub (S.2.1 7)) 0 := mg_MI (mbg_MI _ _ _)
    have hC : (mgS (sB S 4 (cps (S.2.1 4) (fun _ => (nI (0)).toInt8.toInt32) 64)) (mbg (sB S 4 (cps (S.2.1 4) (fun _ => (nI (0)).toInt8.toInt32) 64)) wC0)).1 0 3 = nI 0 := rfl
    have hO := hO.mg (mbg (sB S 4 (cps (S.2.1 4) (fun _ => (nI (0)).toInt8.toInt32) 64)) wC0)
    obtain ⟨S_1, eS_1⟩ : ∃ z, z = mgS (sB S 4 (cps (S.2.1 4) (fun _ => (nI (0)).toInt8.toInt32) 64)) (mbg (sB S 4 (cps (S.2.1 4) (fun _ => (nI (0)).toInt8.toInt32) 64)) wC0) := ⟨_, rfl⟩
    rw [← eS_1] at w hI hC hO
    refine lv_aload_n hx hbc dX1_makeLock_45 rfl (lv_at hl 0 rfl) ?_
    refine wb_gr (t := 0) hx hbc hg hown w inG_X1 3 (by decide) rfl rfl 0 (by decide) rfl wk_79 dX1_makeLock_46 ?_
    refine lv_aload_n hx hbc dX1_makeLock_49 rfl (lv_at hl 1 rfl) ?_
    refine wb_gr (t := 7) hx hbc hg hown w inG_X0 6 (by decide) rfl rfl 0 (by decide) rfl wk_37 dX1_makeLock_50 ?_
    refine lv_aload_n hx hbc dX1_makeLock_53 rfl (lv_at hl 1 rfl) ?_
    refine wb_gi (v := nI (ks)) hx hbc hg hown w inG_X0 6 (by decide) rfl rfl 1 (by decide) rfl wk_40 ((congrFun (hO 6 (by decide)).1 1).trans hks) dX1_makeLock_54 ?_
    refine wc_Vv (na := 2) (f := (fM 7)) (As := [.ref (ad (7)), .int (nI (ks))]) (rest := []) hx hbc hml hg hown w (EC_ok al) hE w.1 (sub4A hM_mg (by decide) (by decide) (g := fun _ => none) rfl) 0 (by decide) rfl rfl (k_mtake l D cy (fun k => ad (fM 7 k)) al (sM (S_1) 7) 200 (by decide) ks (by omega) wC0 (ub (S.2.1 7)) 0 0 hI (fun k hk => (by show S_1.2.1 7 k &&& nI 255 = _; rw [(hO 7 (by decide)).2, Nat.zero_add]; rfl)) hC) wk_280 wk_3 wk_277 wk_278 wk_279 ⟨by decide, by decide, by decide⟩ ⟨by rw [hRf]; decide, by rw [hRl]; decide⟩ rfl hl.1 rfl (Nat.le_of_ble_eq_true rfl) dX1_makeLock_57 ⟨Nat.zero_le _, Nat.zero_le _⟩ (fun S9 hp H locs w => ?_)
    have w : WB D (tyM cy) 8 cy ad (skMg) A s (mgS S_1 S9) H locs := w _ (sub4T hM_mg (by decide) (g := fun _ => none) rfl (fun k hk => (if_pos hk).symm) (fun k hk => (if_pos hk).symm) hp.2.2.symm (fun i hi _ => ⟨if_neg (by omega), if_neg (by omega), rfl⟩))
    have hI : MI (mgS S_1 S9) wC0 (ub (S.2.1 7)) (0 + ks) := mg_MI hp.1
    have hC : (mgS S_1 S9).1 0 3 = nI (0 + ks) := hp.2.1
    have hO := hO.mg S9
    obtain ⟨S_2, eS_2⟩ : ∃ z, z = mgS S_1 S9 := ⟨_, rfl⟩
    rw [← eS_2] at w hI hC hO
    refine lv_aload_n hx hbc dX1_makeLock_60 rfl (lv_at hl 0 rfl) ?_
    refine wb_gr (t := 0) hx hbc hg hown w inG_X1 3 (by decide) rfl rfl 0 (by decide) rfl wk_79 dX1_makeLock_61 ?_
    refine wc_Vv (na := 0) (f := id) (As := []) (rest := []) hx hbc hml hg hown w (EC_ok al) hE w.1 (sub3A hM_mg (by decide)) 0 (by decide) rfl rfl (k_mfinish l D cy ad al (S_2) wC0 (ub (S.2.1 7)) (0 + ks) hI hC) wk_301 wk_3 wk_298 wk_299 wk_300 ⟨by decide, by decide, by decide⟩ ⟨by rw [hRf]; decide, by rw [hRl]; decide⟩ rfl hl.1 rfl (Nat.le_of_ble_eq_true rfl) dX1_makeLock_64 ⟨Nat.zero_le _, Nat.zero_le _⟩ (fun S9 hp H locs w => ?_)
    have w : WB D (tyM cy) 8 cy ad (skMg) A s (mgS S_2 S9) H locs := w _ (sub3T hM_mg _)
    have hI : MI (mgS S_2 S9) wC0 (padM (ub (S.2.1 7)) (0 + ks)) (padL (0 + ks)) := mg_MI hp.1
    have hC : (mgS S_2 S9).1 0 3 = nI (0 + ks) := hp.2
    have hO := hO.mg S9
    obtain ⟨S_3, eS_3⟩ : ∃ z, z = mgS S_2 S9 := ⟨_, rfl⟩
    rw [← eS_3] at w hI hC hO
    refine lv_aload_n hx hbc dX1_makeLock_67 rfl (lv_at hl 0 rfl) ?_
    refine wb_gr (t := 0) hx hbc hg hown w inG_X1 3 (by decide) rfl rfl 0 (by decide) rfl wk_79 dX1_makeLock_68 ?_
    refine lv_aload_n hx hbc dX1_makeLock_71 rfl (lv_at hl 0 rfl) ?_
    refine wb_gr (t := 4) hx hbc hg hown w inG_X1 3 (by decide) rfl rfl 1 (by decide) rfl wk_80 dX1_makeLock_72 ?_
    refine lv_bipush (v := nI (32)) hx hbc dX1_makeLock_75 (by decide) ?_
    refine wc_Vv (na := 2) (f := (fM 4)) (As := [.ref (ad (4)), .int (nI (32))]) (rest := []) hx hbc hml hg hown w (EC_ok al) hE w.1 (sub4A hM_mg (by decide) (by decide) (g := fun _ => none) rfl) 0 (by decide) rfl rfl (k_mwrite l D cy (fun k => ad (fM 4 k)) al (sM (S_3) 4) 64 (by decide) 32 (by omega) (by omega)) wk_306 wk_3 wk_303 wk_304 wk_305 ⟨by decide, by decide, by decide⟩ ⟨by rw [hRf]; decide, by rw [hRl]; decide⟩ rfl hl.1 rfl (Nat.le_of_ble_eq_true rfl) dX1_makeLock_77 ⟨Nat.zero_le _, Nat.zero_le _⟩ (fun S9 hp H locs w => ?_)
    subst hp
    have w : WB D (tyM cy) 8 cy ad (skMg) A s (sB S_3 4 (cps (S_3.2.1 4) (sbH (S_3.2.1 1)) 32)) H locs := w _ (sub4T hM_mg (by decide) (g := fun _ => none) rfl (fun k hk => (by rcases (show k = 0 ∨ k = 1 ∨ k = 2 by omega) with rfl | rfl | rfl <;> rfl)) (fun k hk => (by rcases (show k = 0 ∨ k = 1 ∨ k = 2 by omega) with rfl | rfl | rfl <;> rfl)) rfl (fun i hi hc => ⟨rfl, by simp [sB, va_up, hc], rfl⟩))
    refine lv_aload_n hx hbc dX1_makeLock_80 rfl (lv_at hl 0 rfl) ?_
    refine lv_dup hx hbc dX1_makeLock_81 rfl ?_
    refine wb_gi (v := nI (bl)) hx hbc hg hown w inG_X1 3 (by decide) rfl rfl 6 (by decide) rfl wk_86 ((congrFun (hO 3 (by decide)).1 6).trans hbl) dX1_makeLock_82 ?_
    refine lv_aload_n hx hbc dX1_makeLock_85 rfl (lv_at hl 0 rfl) ?_
    refine wb_gr (t := 0) hx hbc hg hown w inG_X1 3 (by decide) rfl rfl 0 (by decide) rfl wk_79 dX1_makeLock_86 ?_
    refine wb_gi (v := nI (padL (0 + ks) / 64)) hx hbc hg hown w inG_X2 0 (by decide) rfl rfl 4 (by decide) rfl wk_59 hI.2.1 dX1_makeLock_89 ?_
    refine n_iadd hx hbc dX1_makeLock_92 ?_
    refine wb_pi (v := nI (bl + (padL (0 + ks) / 64))) hx hbc hg hown w inG_X1 tyX1 tyX1_ok nmX1 3 (by decide) rfl rfl 6 (by decide) rfl wk_86 rfl rfl rfl rfl dX1_makeLock_93 (fun H locs w => ?_)
    exact hend (sI (sB S_3 4 (cps (S_3.2.1 4) (sbH (S_3.2.1 1)) 32)) 3 6 (nI (bl + (padL (0 + ks) / 64)))) _ _ _ _ (Or.inr ⟨c_14, _, hO, hI, rfl⟩) w dX1_makeLock_96
  · refine lv_aload_n hx hbc dX1_makeLock_17 rfl (lv_at hl 1 rfl) ?_
    refine wb_gr (t := 7) hx hbc hg hown w inG_X0 6 (by decide) rfl rfl 0 (by decide) rfl wk_37 dX1_makeLock_18 ?_
    refine lv_iconst (v := nI (0)) hx hbc dX1_makeLock_21 (by decide) ?_
    refine lv_aload_n hx hbc dX1_makeLock_22 rfl (lv_at hl 0 rfl) ?_
    refine wb_gr (t := 4) hx hbc hg hown w inG_X1 3 (by decide) rfl rfl 1 (by decide) rfl wk_80 dX1_makeLock_23 ?_
    refine lv_iconst (v := nI (0)) hx hbc dX1_makeLock_26 (by decide) ?_
    refine lv_aload_n hx hbc dX1_makeLock_27 rfl (lv_at hl 1 rfl) ?_
    refine wb_gi (v := nI (ks)) hx hbc hg hown w inG_X0 6 (by decide) rfl rfl 1 (by decide) rfl wk_40 hks dX1_makeLock_28 ?_
    refine wb_cpi (ty := .byte) (f := cps (S.2.1 4) (fun _ => (nI (0)).toInt8.toInt32) 64) (f0 := S.2.1 7) hx hbc (hml.trans hl.1.symm) hg hown wk_269 wk_246 wk_245 wk_10 w 7 (by decide) rfl 4 (by decide) rfl (by decide) 1 rfl rfl (by omega) (by omega) (by decide) (by decide) rfl rfl (fun i _ => hfit _) (by rw [hRf]; decide) (by rw [hRl]; exact Nat.le_of_ble_eq_true rfl) dX1_makeLock_31 (fun H locs w => ?_)
    exact hend (sB (sB S 4 (cps (S.2.1 4) (fun _ => (nI (0)).toInt8.toInt32) 64)) 4 (va_cpy (S.2.1 7) (cps (S.2.1 4) (fun _ => (nI (0)).toInt8.toInt32) 64) 0 0 ks)) _ _ _ _ (Or.inl ⟨c_14, rfl⟩) w dX1_makeLock_34
set_option maxHeartbeats 4000000 in
set_option maxRecDepth 100000 in
theorem k_gbegin2 (l : Launch) (D : va_G) (cy : Nat → ClassId) (ad al : Nat → Nat) (S : wS) (ks : Nat) (hks : S.1 6 1 = nI ks) (hks2 : ks ≤ 200) (hfit : ∀ i, fits .byte (.int (S.2.1 7 i)) = true) : CtV l yX1_begin (Cond.code yX1_begin cX1_begin 3 none :: wsG) 6 143 [.ref (ad (3)), .int (nI (2)), .ref (ad (6))] D (tyM cy) 8 cy ad (skMg) (EC al) (S) (fun S' => ∃ S2, mlP (sI (sI (sI S 3 4 (nI (2))) 3 5 (nI (0))) 3 6 (nI (0))) ks 0 S2 ∧ oth S2 S' ∧ MI S' wC0 (fun k => (S2.2.1 4 k ^^^ nI 54) &&& nI 255) 64 ∧ S'.1 0 3 = nI 64) := by
  refine CtV_of (by decide) (Nat.le_of_ble_eq_true rfl) ?_
  intro p e s m args below meth c A ls R Q hB hRf hRl hend
  obtain ⟨hx, hbc, hr, hg, hown, hml, hlk, w, hE, hl⟩ := hB
  have hl : lv_has ls 3 [(0, .ref (ad (3))), (1, .int (nI (2))), (2, .ref (ad (6)))] := hl
  refine lv_aload_n hx hbc dX1_begin_0 rfl (lv_at hl 0 rfl) ?_
  refine lv_iload_n hx hbc dX1_begin_1 rfl (lv_at hl 1 rfl) ?_
  refine wb_pi (v := nI (2)) hx hbc hg hown w inG_X1 tyX1 tyX1_ok nmX1 3 (by decide) rfl rfl 4 (by decide) rfl wk_83 rfl rfl rfl rfl dX1_begin_2 (fun H locs w => ?_)
  refine lv_aload_n hx hbc dX1_begin_5 rfl (lv_at hl 0 rfl) ?_
  refine lv_iconst (v := nI (0)) hx hbc dX1_begin_6 (by decide) ?_
  refine wb_pi (v := nI (0)) hx hbc hg hown w inG_X1 tyX1 tyX1_ok nmX1 3 (by decide) rfl rfl 5 (by decide) rfl wk_84 rfl rfl rfl rfl dX1_begin_7 (fun H locs w => ?_)
  refine lv_aload_n hx hbc dX1_begin_10 rfl (lv_at hl 0 rfl) ?_
  refine lv_iconst (v := nI (0)) hx hbc dX1_begin_11 (by decide) ?_
  refine wb_pi (v := nI (0)) hx hbc hg hown w inG_X1 tyX1 tyX1_ok nmX1 3 (by decide) rfl rfl 6 (by decide) rfl wk_86 rfl rfl rfl rfl dX1_begin_12 (fun H locs w => ?_)
  refine lv_aload_n hx hbc dX1_begin_15 rfl (lv_at hl 0 rfl) ?_
  refine wb_gi (v := nI (2)) hx hbc hg hown w inG_X1 3 (by decide) rfl rfl 4 (by decide) rfl wk_83 rfl dX1_begin_16 ?_
  refine lv_iconst (v := nI (2)) hx hbc dX1_begin_19 (by decide) ?_
  refine n_cmp_ne (tgt := 37) (by omega) (by omega) hx hbc dX1_begin_20 (by decide) (fun c_20 => ?_) (fun c_20 => ?_)
  · exact absurd c_20 (by decide)
  · refine lv_aload_n hx hbc dX1_begin_23 rfl (lv_at hl 0 rfl) ?_
    refine lv_aload_n hx hbc dX1_begin_24 rfl (lv_at hl 2 rfl) ?_
    refine wb_Vv (na := 1) (As := [.ref (ad (6))]) (rest := []) hx hbc hml hg hown w (EC_ok al) hE w.1 Sub.self 3 (by decide) rfl rfl (k_gmakeLock l D cy ad al (sI (sI (sI S 3 4 (nI (2))) 3 5 (nI (0))) 3 6 (nI (0))) ks 0 hks hks2 rfl hfit) wk_265 wk_4 wk_262 wk_264 ws_0 ⟨by decide, by decide, by decide⟩ ⟨by rw [hRf]; decide, by rw [hRl]; decide⟩ rfl hl.1 rfl (Nat.le_of_ble_eq_true rfl) dX1_begin_25 ⟨Nat.zero_le _, Nat.zero_le _⟩ (fun S9 H locs hp w => ?_)
    obtain ⟨S2, hS2⟩ : ∃ z, z = S9 := ⟨_, rfl⟩
    subst hS2
    have hmlk := hp
    have w : WB D (tyM cy) 8 cy ad (skMg) A s (S2) H locs := w
    refine lv_aload_n hx hbc dX1_begin_28 rfl (lv_at hl 0 rfl) ?_
    refine lv_bipush (v := nI (54)) hx hbc dX1_begin_29 (by decide) ?_
    refine wb_Vv (na := 1) (As := [.int (nI (54))]) (rest := []) hx hbc hml hg hown w (EC_ok al) hE w.1 Sub.self 3 (by decide) rfl rfl (k_gbeginLocked l D cy ad al (S2) (fun k => (S2.2.1 4 k ^^^ nI 54) &&& nI 255) 54 (fun _ _ => rfl)) wk_310 wk_4 wk_307 wk_309 ws_3 ⟨by decide, by decide, by decide⟩ ⟨by rw [hRf]; decide, by rw [hRl]; decide⟩ rfl hl.1 rfl (Nat.le_of_ble_eq_true rfl) dX1_begin_31 ⟨Nat.zero_le _, Nat.zero_le _⟩ (fun S9 H locs hp w => ?_)
    have w : WB D (tyM cy) 8 cy ad (skMg) A s (S9) H locs := w
    refine lv_goto (tgt := 61) hx hbc dX1_begin_34 (by decide) ?_
    exact hend (S9) _ _ _ _ ⟨S2, hmlk, hp⟩ w dX1_begin_61
