set_option maxHeartbeats 4000000 in
set_option maxRecDepth 100000 in
theorem k_gtake (l : Launch) (D : va_G) (cy : Nat → ClassId) (ad al : Nat → Nat) (S : wS) (h0 g : Nat → Int32) (c9 t mc : Nat) (hI : MI S h0 g c9) (hC : S.1 0 3 = nI c9) (ht : S.1 6 1 = nI t) (ht2 : t ≤ 200) (hmc : S.1 3 5 = nI mc) (hby : ∀ k, k < t → ub (S.2.1 7) k = g (c9 + k)) : CtV l yX1_take (Cond.code yX1_take cX1_take 2 none :: wsG) 5 121 [.ref (ad (3)), .ref (ad (6))] D (tyM cy) 8 cy ad (skMg) (EC al) (S) (fun S' => ∃ T, oth S T ∧ MI T h0 g (c9 + t) ∧ T.1 0 3 = nI (c9 + t) ∧ S' = sI T 3 5 (nI (mc + t))) := by
  refine CtV_of (by decide) (Nat.le_of_ble_eq_true rfl) ?_
  intro p e s m args below meth c A ls R Q hB hRf hRl hend
  obtain ⟨hx, hbc, hr, hg, hown, hml, hlk, w, hE, hl⟩ := hB
  have hl : lv_has ls 2 [(0, .ref (ad (3))), (1, .ref (ad (6)))] := hl
  have hO := oth.rf S
  refine lv_aload_n hx hbc dX1_take_0 rfl (lv_at hl 0 rfl) ?_
  refine wb_gr (t := 0) hx hbc hg hown w inG_X1 3 (by decide) rfl rfl 0 (by decide) rfl wk_79 dX1_take_1 ?_
  refine lv_aload_n hx hbc dX1_take_4 rfl (lv_at hl 1 rfl) ?_
  refine wb_gr (t := 7) hx hbc hg hown w inG_X0 6 (by decide) rfl rfl 0 (by decide) rfl wk_37 dX1_take_5 ?_
  refine lv_aload_n hx hbc dX1_take_8 rfl (lv_at hl 1 rfl) ?_
  refine wb_gi (v := nI (t)) hx hbc hg hown w inG_X0 6 (by decide) rfl rfl 1 (by decide) rfl wk_40 ht dX1_take_9 ?_
  refine wc_Vv (na := 2) (f := (fM 7)) (As := [.ref (ad (7)), .int (nI (t))]) (rest := []) hx hbc hml hg hown w (EC_ok al) hE w.1 (sub4A hM_mg (by decide) (by decide) (g := fun _ => none) rfl) 0 (by decide) rfl rfl (k_mtake l D cy (fun k => ad (fM 7 k)) al (sM (S) 7) 200 (by decide) t (by omega) h0 g c9 c9 hI hby hC) wk_280 wk_3 wk_277 wk_278 wk_279 ⟨by decide, by decide, by decide⟩ ⟨by rw [hRf]; decide, by rw [hRl]; decide⟩ rfl hl.1 rfl (Nat.le_of_ble_eq_true rfl) dX1_take_12 ⟨Nat.zero_le _, Nat.zero_le _⟩ (fun S9 hp H locs w => ?_)
  have w : WB D (tyM cy) 8 cy ad (skMg) A s (mgS S S9) H locs := w _ (sub4T hM_mg (by decide) (g := fun _ => none) rfl (fun k hk => (if_pos hk).symm) (fun k hk => (if_pos hk).symm) hp.2.2.symm (fun i hi _ => ⟨if_neg (by omega), if_neg (by omega), rfl⟩))
  have hI : MI (mgS S S9) h0 g (c9 + t) := mg_MI hp.1
  have hC : (mgS S S9).1 0 3 = nI (c9 + t) := hp.2.1
  have hO := hO.mg S9
  obtain ⟨S_1, eS_1⟩ : ∃ z, z = mgS S S9 := ⟨_, rfl⟩
  rw [← eS_1] at w hI hC hO
  refine lv_aload_n hx hbc dX1_take_15 rfl (lv_at hl 0 rfl) ?_
  refine lv_dup hx hbc dX1_take_16 rfl ?_
  refine wb_gi (v := nI (mc)) hx hbc hg hown w inG_X1 3 (by decide) rfl rfl 5 (by decide) rfl wk_84 ((congrFun (hO 3 (by decide)).1 5).trans hmc) dX1_take_17 ?_
  refine lv_aload_n hx hbc dX1_take_20 rfl (lv_at hl 1 rfl) ?_
  refine wb_gi (v := nI (t)) hx hbc hg hown w inG_X0 6 (by decide) rfl rfl 1 (by decide) rfl wk_40 ((congrFun (hO 6 (by decide)).1 1).trans ht) dX1_take_21 ?_
  refine n_iadd hx hbc dX1_take_24 ?_
  refine wb_pi (v := nI (mc + t)) hx hbc hg hown w inG_X1 tyX1 tyX1_ok nmX1 3 (by decide) rfl rfl 5 (by decide) rfl wk_84 rfl rfl rfl rfl dX1_take_25 (fun H locs w => ?_)
  exact hend (sI S_1 3 5 (nI (mc + t))) _ _ _ _ ⟨_, hO, hI, hC, rfl⟩ w dX1_take_28
set_option maxHeartbeats 4000000 in
set_option maxRecDepth 100000 in
theorem k_gbeginLocked (l : Launch) (D : va_G) (cy : Nat → ClassId) (ad al : Nat → Nat) (S : wS) (g : Nat → Int32) (mk : Nat) (hg9 : ∀ k, k < 64 → (S.2.1 4 k ^^^ nI mk) &&& nI 255 = g k) : CtV l yX1_beginLocked (Cond.code yX1_beginLocked cX1_beginLocked 3 none :: wsG) 5 119 [.ref (ad (3)), .int (nI (mk))] D (tyM cy) 8 cy ad (skMg) (EC al) (S) (fun S' => oth S S' ∧ MI S' wC0 g 64 ∧ S'.1 0 3 = nI 64) := by
  refine CtV_of (by decide) (Nat.le_of_ble_eq_true rfl) ?_
  intro p e s m args below meth c A ls R Q hB hRf hRl hend
  obtain ⟨hx, hbc, hr, hg, hown, hml, hlk, w, hE, hl⟩ := hB
  have hl : lv_has ls 3 [(0, .ref (ad (3))), (1, .int (nI (mk)))] := hl
  have hO := oth.rf S
  refine lv_aload_n hx hbc dX1_beginLocked_0 rfl (lv_at hl 0 rfl) ?_
  refine wb_gr (t := 0) hx hbc hg hown w inG_X1 3 (by decide) rfl rfl 0 (by decide) rfl wk_79 dX1_beginLocked_1 ?_
  refine va_getsN hx hbc hE.2.1.1 w.2.2.2.1 hown (va_Nw.use rfl (hE.2.2.2.2.1 _ (List.mem_of_getElem? (i := 0) rfl))) (fun _ h9 => h9) dX1_beginLocked_4 ?_
  refine wc_Vv (na := 1) (f := id) (As := [.ref (al 1)]) (rest := []) hx hbc hml hg hown w (EC_ok al) hE w.1 (sub3A hM_mg (by decide)) 0 (by decide) rfl rfl (k_mbegin1 l D cy ad al (S)) wk_275 wk_3 wk_272 wk_273 wk_274 ⟨by decide, by decide, by decide⟩ ⟨by rw [hRf]; decide, by rw [hRl]; decide⟩ rfl hl.1 rfl (Nat.le_of_ble_eq_true rfl) dX1_beginLocked_7 ⟨Nat.zero_le _, Nat.zero_le _⟩ (fun S9 hp H locs w => ?_)
  subst hp
  have w : WB D (tyM cy) 8 cy ad (skMg) A s (mgS S (mbg S wC0)) H locs := w _ (sub3T hM_mg _)
  have hI : MI (mgS S (mbg S wC0)) wC0 g 0 := mg_MI (mbg_MI _ _ _)
  have hC : (mgS S (mbg S wC0)).1 0 3 = nI 0 := rfl
  have hO := hO.mg (mbg S wC0)
  obtain ⟨S_1, eS_1⟩ : ∃ z, z = mgS S (mbg S wC0) := ⟨_, rfl⟩
  rw [← eS_1] at w hI hC hO
  refine lv_iconst (v := nI (0)) hx hbc dX1_beginLocked_10 (by decide) ?_
  refine lv_istore_n (lv' := [(2, .int (nI (0))), (0, .ref (ad (3))), (1, .int (nI (mk)))]) hx hbc dX1_beginLocked_11 rfl hl (by decide) rfl (fun ls hl => ?_)
  have lp_12 : ∀ (fu : Nat) (k : Nat) (S1 : wS) (H : Heap) (locs : List Loc) (ls : Array Slot), (64 < k + fu) → (k ≤ 64) → (MI S1 wC0 g k) → (S1.1 0 3 = nI k) → (oth S S1) → WB D (tyM cy) 8 cy ad (skMg) A s (S1) H locs → lv_has ls 3 [(0, .ref (ad (3))), (1, .int (nI (mk))), (2, .int (nI (k)))] → W p l e R s m args below meth c H locs 0 0 Q (F0 m 12 ls []) := by
    intro fu
    induction fu with
    | zero =>
      intro k S1 H locs ls h1 h2 hI hC hO w hl
      exact absurd h1 (by omega)
    | succ fu ih_12 =>
      intro k S1 H locs ls h1 h2 hI hC hO w hl
      refine lv_iload_n hx hbc dX1_beginLocked_12 rfl (lv_at hl 2 rfl) ?_
      refine lv_bipush (v := nI (64)) hx hbc dX1_beginLocked_13 (by decide) ?_
      refine n_cmp_ge (tgt := 39) (by omega) (by omega) hx hbc dX1_beginLocked_15 (by decide) (fun c_15 => ?_) (fun c_15 => ?_)
      · exact hend (S1) _ _ _ _ (by obtain rfl : k = 64 := (by omega); exact ⟨hO, hI, hC⟩) w dX1_beginLocked_39
      · refine lv_aload_n hx hbc dX1_beginLocked_18 rfl (lv_at hl 0 rfl) ?_
        refine wb_gr (t := 0) hx hbc hg hown w inG_X1 3 (by decide) rfl rfl 0 (by decide) rfl wk_79 dX1_beginLocked_19 ?_
        refine lv_aload_n hx hbc dX1_beginLocked_22 rfl (lv_at hl 0 rfl) ?_
        refine wb_gr (t := 4) hx hbc hg hown w inG_X1 3 (by decide) rfl rfl 1 (by decide) rfl wk_80 dX1_beginLocked_23 ?_
        refine lv_iload_n hx hbc dX1_beginLocked_26 rfl (lv_at hl 2 rfl) ?_
        refine wb_bald (k := k) (v := S.2.1 4 k) hx hbc w 4 (by decide) rfl 1 rfl rfl (by omega) (by decide) (congrFun (hO 4 (by decide)).2 k) dX1_beginLocked_27 ?_
        refine lv_iload_n hx hbc dX1_beginLocked_28 rfl (lv_at hl 1 rfl) ?_
        refine lv_ixor hx hbc dX1_beginLocked_29 ?_
        refine wc_Vv (na := 1) (f := id) (As := [.int ((S.2.1 4 k) ^^^ (nI (mk)))]) (rest := []) hx hbc hml hg hown w (EC_ok al) hE w.1 (sub3A hM_mg (by decide)) 0 (by decide) rfl rfl (k_mtakeByte l D cy ad al (S1) ((S.2.1 4 k) ^^^ (nI (mk))) wC0 g k k hI (hg9 k (by omega)) hC) wk_314 wk_3 wk_311 wk_312 wk_313 ⟨by decide, by decide, by decide⟩ ⟨by rw [hRf]; decide, by rw [hRl]; decide⟩ rfl hl.1 rfl (Nat.le_of_ble_eq_true rfl) dX1_beginLocked_30 ⟨Nat.zero_le _, Nat.zero_le _⟩ (fun S9 hp H locs w => ?_)
        have w : WB D (tyM cy) 8 cy ad (skMg) A s (mgS S1 S9) H locs := w _ (sub3T hM_mg _)
        have hI : MI (mgS S1 S9) wC0 g (k + 1) := mg_MI hp.1
        have hC : (mgS S1 S9).1 0 3 = nI (k + 1) := hp.2
        have hO := hO.mg S9
        obtain ⟨S_2, eS_2⟩ : ∃ z, z = mgS S1 S9 := ⟨_, rfl⟩
        rw [← eS_2] at w hI hC hO
        refine lv_iinc (v := nI (k + 1)) (lv' := [(2, .int (nI (k + 1))), (0, .ref (ad (3))), (1, .int (nI (mk)))]) hx hbc dX1_beginLocked_33 hl (k := 2) rfl (ni_inc _ _) (by decide) rfl (fun ls hl => ?_)
        refine lv_goto (tgt := 12) hx hbc dX1_beginLocked_36 (by decide) ?_
        exact ih_12 (k + 1) S_2 _ _ _ (by omega) (by omega) hI hC hO w (lv_sub hl [1, 2, 0] rfl)
  exact lp_12 65 0 S_1 _ _ _ (by omega) (by omega) hI hC hO w (lv_sub hl [1, 2, 0] rfl)
set_option maxHeartbeats 4000000 in
set_option maxRecDepth 100000 in
theorem k_gbegin0 (l : Launch) (D : va_G) (cy : Nat → ClassId) (ad al : Nat → Nat) (S : wS)  : CtV l yX1_begin (Cond.code yX1_begin cX1_begin 3 none :: wsG) 2 47 [.ref (ad (3)), .int (nI (0)), .ref (ad (6))] D (tyM cy) 8 cy ad (skMg) (EC al) (S) (fun S' => S' = mgS (sI (sI (sI S 3 4 (nI (0))) 3 5 (nI (0))) 3 6 (nI (0))) (mbg (sI (sI (sI S 3 4 (nI (0))) 3 5 (nI (0))) 3 6 (nI (0))) wC0)) := by
  refine CtV_of (by decide) (Nat.le_of_ble_eq_true rfl) ?_
  intro p e s m args below meth c A ls R Q hB hRf hRl hend
  obtain ⟨hx, hbc, hr, hg, hown, hml, hlk, w, hE, hl⟩ := hB
  have hl : lv_has ls 3 [(0, .ref (ad (3))), (1, .int (nI (0))), (2, .ref (ad (6)))] := hl
  refine lv_aload_n hx hbc dX1_begin_0 rfl (lv_at hl 0 rfl) ?_
  refine lv_iload_n hx hbc dX1_begin_1 rfl (lv_at hl 1 rfl) ?_
  refine wb_pi (v := nI (0)) hx hbc hg hown w inG_X1 tyX1 tyX1_ok nmX1 3 (by decide) rfl rfl 4 (by decide) rfl wk_83 rfl rfl rfl rfl dX1_begin_2 (fun H locs w => ?_)
  refine lv_aload_n hx hbc dX1_begin_5 rfl (lv_at hl 0 rfl) ?_
  refine lv_iconst (v := nI (0)) hx hbc dX1_begin_6 (by decide) ?_
  refine wb_pi (v := nI (0)) hx hbc hg hown w inG_X1 tyX1 tyX1_ok nmX1 3 (by decide) rfl rfl 5 (by decide) rfl wk_84 rfl rfl rfl rfl dX1_begin_7 (fun H locs w => ?_)
  refine lv_aload_n hx hbc dX1_begin_10 rfl (lv_at hl 0 rfl) ?_
  refine lv_iconst (v := nI (0)) hx hbc dX1_begin_11 (by decide) ?_
  refine wb_pi (v := nI (0)) hx hbc hg hown w inG_X1 tyX1 tyX1_ok nmX1 3 (by decide) rfl rfl 6 (by decide) rfl wk_86 rfl rfl rfl rfl dX1_begin_12 (fun H locs w => ?_)
  refine lv_aload_n hx hbc dX1_begin_15 rfl (lv_at hl 0 rfl) ?_
  refine wb_gi (v := nI (0)) hx hbc hg hown w inG_X1 3 (by decide) rfl rfl 4 (by decide) rfl wk_83 rfl dX1_begin_16 ?_
  refine lv_iconst (v := nI (2)) hx hbc dX1_begin_19 (by decide) ?_
  refine n_cmp_ne (tgt := 37) (by omega) (by omega) hx hbc dX1_begin_20 (by decide) (fun c_20 => ?_) (fun c_20 => ?_)
  · refine lv_aload_n hx hbc dX1_begin_37 rfl (lv_at hl 0 rfl) ?_
    refine wb_gr (t := 0) hx hbc hg hown w inG_X1 3 (by decide) rfl rfl 0 (by decide) rfl wk_79 dX1_begin_38 ?_
    refine lv_aload_n hx hbc dX1_begin_41 rfl (lv_at hl 0 rfl) ?_
    refine wb_gi (v := nI (0)) hx hbc hg hown w inG_X1 3 (by decide) rfl rfl 4 (by decide) rfl wk_83 rfl dX1_begin_42 ?_
    refine lv_iconst (v := nI (1)) hx hbc dX1_begin_45 (by decide) ?_
    refine n_cmp_ne (tgt := 55) (by omega) (by omega) hx hbc dX1_begin_46 (by decide) (fun c_46 => ?_) (fun c_46 => ?_)
    · refine va_getsN hx hbc hE.2.1.1 w.2.2.2.1 hown (va_Nw.use rfl (hE.2.2.2.2.1 _ (List.mem_of_getElem? (i := 0) rfl))) (fun _ h9 => h9) dX1_begin_55 ?_
      refine wc_Vv (na := 1) (f := id) (As := [.ref (al 1)]) (rest := []) hx hbc hml hg hown w (EC_ok al) hE w.1 (sub3A hM_mg (by decide)) 0 (by decide) rfl rfl (k_mbegin1 l D cy ad al (sI (sI (sI S 3 4 (nI (0))) 3 5 (nI (0))) 3 6 (nI (0)))) wk_275 wk_3 wk_272 wk_273 wk_274 ⟨by decide, by decide, by decide⟩ ⟨by rw [hRf]; decide, by rw [hRl]; decide⟩ rfl hl.1 rfl (Nat.le_of_ble_eq_true rfl) dX1_begin_58 ⟨Nat.zero_le _, Nat.zero_le _⟩ (fun S9 hp H locs w => ?_)
      subst hp
      have w : WB D (tyM cy) 8 cy ad (skMg) A s (mgS (sI (sI (sI S 3 4 (nI (0))) 3 5 (nI (0))) 3 6 (nI (0))) (mbg (sI (sI (sI S 3 4 (nI (0))) 3 5 (nI (0))) 3 6 (nI (0))) wC0)) H locs := w _ (sub3T hM_mg _)
      exact hend _ _ _ _ _ rfl w dX1_begin_61
    · exact absurd c_46 (by decide)
  · exact absurd c_20 (by decide)
set_option maxHeartbeats 4000000 in
set_option maxRecDepth 100000 in
theorem k_gbegin1 (l : Launch) (D : va_G) (cy : Nat → ClassId) (ad al : Nat → Nat) (S : wS)  : CtV l yX1_begin (Cond.code yX1_begin cX1_begin 3 none :: wsG) 2 47 [.ref (ad (3)), .int (nI (1)), .ref (ad (6))] D (tyM cy) 8 cy ad (skMg) (EC al) (S) (fun S' => S' = mgS (sI (sI (sI S 3 4 (nI (1))) 3 5 (nI (0))) 3 6 (nI (0))) (mbg (sI (sI (sI S 3 4 (nI (1))) 3 5 (nI (0))) 3 6 (nI (0))) nC0)) := by
  refine CtV_of (by decide) (Nat.le_of_ble_eq_true rfl) ?_
  intro p e s m args below meth c A ls R Q hB hRf hRl hend
  obtain ⟨hx, hbc, hr, hg, hown, hml, hlk, w, hE, hl⟩ := hB
  have hl : lv_has ls 3 [(0, .ref (ad (3))), (1, .int (nI (1))), (2, .ref (ad (6)))] := hl
  refine lv_aload_n hx hbc dX1_begin_0 rfl (lv_at hl 0 rfl) ?_
  refine lv_iload_n hx hbc dX1_begin_1 rfl (lv_at hl 1 rfl) ?_
  refine wb_pi (v := nI (1)) hx hbc hg hown w inG_X1 tyX1 tyX1_ok nmX1 3 (by decide) rfl rfl 4 (by decide) rfl wk_83 rfl rfl rfl rfl dX1_begin_2 (fun H locs w => ?_)
  refine lv_aload_n hx hbc dX1_begin_5 rfl (lv_at hl 0 rfl) ?_
  refine lv_iconst (v := nI (0)) hx hbc dX1_begin_6 (by decide) ?_
  refine wb_pi (v := nI (0)) hx hbc hg hown w inG_X1 tyX1 tyX1_ok nmX1 3 (by decide) rfl rfl 5 (by decide) rfl wk_84 rfl rfl rfl rfl dX1_begin_7 (fun H locs w => ?_)
  refine lv_aload_n hx hbc dX1_begin_10 rfl (lv_at hl 0 rfl) ?_
  refine lv_iconst (v := nI (0)) hx hbc dX1_begin_11 (by decide) ?_
  refine wb_pi (v := nI (0)) hx hbc hg hown w inG_X1 tyX1 tyX1_ok nmX1 3 (by decide) rfl rfl 6 (by decide) rfl wk_86 rfl rfl rfl rfl dX1_begin_12 (fun H locs w => ?_)
  refine lv_aload_n hx hbc dX1_begin_15 rfl (lv_at hl 0 rfl) ?_
  refine wb_gi (v := nI (1)) hx hbc hg hown w inG_X1 3 (by decide) rfl rfl 4 (by decide) rfl wk_83 rfl dX1_begin_16 ?_
  refine lv_iconst (v := nI (2)) hx hbc dX1_begin_19 (by decide) ?_
  refine n_cmp_ne (tgt := 37) (by omega) (by omega) hx hbc dX1_begin_20 (by decide) (fun c_20 => ?_) (fun c_20 => ?_)
  · refine lv_aload_n hx hbc dX1_begin_37 rfl (lv_at hl 0 rfl) ?_
    refine wb_gr (t := 0) hx hbc hg hown w inG_X1 3 (by decide) rfl rfl 0 (by decide) rfl wk_79 dX1_begin_38 ?_
    refine lv_aload_n hx hbc dX1_begin_41 rfl (lv_at hl 0 rfl) ?_
    refine wb_gi (v := nI (1)) hx hbc hg hown w inG_X1 3 (by decide) rfl rfl 4 (by decide) rfl wk_83 rfl dX1_begin_42 ?_
    refine lv_iconst (v := nI (1)) hx hbc dX1_begin_45 (by decide) ?_
    refine n_cmp_ne (tgt := 55) (by omega) (by omega) hx hbc dX1_begin_46 (by decide) (fun c_46 => ?_) (fun c_46 => ?_)
    · exact absurd c_46 (by decide)
    · refine va_getsN hx hbc hE.2.2.1.1 w.2.2.2.1 hown (va_Nw.use rfl (hE.2.2.2.2.1 _ (List.mem_of_getElem? (i := 2) rfl))) (fun _ h9 => h9) dX1_begin_49 ?_
      refine lv_goto (tgt := 58) hx hbc dX1_begin_52 (by decide) ?_
      refine wc_Vv (na := 1) (f := id) (As := [.ref (al 2)]) (rest := []) hx hbc hml hg hown w (EC_ok al) hE w.1 (sub3A hM_mg (by decide)) 0 (by decide) rfl rfl (k_mbegin2 l D cy ad al (sI (sI (sI S 3 4 (nI (1))) 3 5 (nI (0))) 3 6 (nI (0)))) wk_275 wk_3 wk_272 wk_273 wk_274 ⟨by decide, by decide, by decide⟩ ⟨by rw [hRf]; decide, by rw [hRl]; decide⟩ rfl hl.1 rfl (Nat.le_of_ble_eq_true rfl) dX1_begin_58 ⟨Nat.zero_le _, Nat.zero_le _⟩ (fun S9 hp H locs w => ?_)
      subst hp
      have w : WB D (tyM cy) 8 cy ad (skMg) A s (mgS (sI (sI (sI S 3 4 (nI (1))) 3 5 (nI (0))) 3 6 (nI (0))) (mbg (sI (sI (sI S 3 4 (nI (1))) 3 5 (nI (0))) 3 6 (nI (0))) nC0)) H locs := w _ (sub3T hM_mg _)
      exact hend _ _ _ _ _ rfl w dX1_begin_61
  · exact absurd c_20 (by decide)
