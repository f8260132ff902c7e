set_option maxHeartbeats 4000000 in
set_option maxRecDepth 100000 in
theorem k_digestLeaf (l : Launch) (D : va_G) (cy : Nat → ClassId) (ad al : Nat → Nat) (S : wS) (kd t : Nat) (hkd : kd < 8) (ht : S.1 3 1 = nI t) (ht2 : t ≤ 40) : CtV l yX7_digestLeaf (Cond.code yX7_digestLeaf cX7_digestLeaf 4 none :: wsG) 5 122 [.ref (ad (0)), .int (nI (kd)), .ref (ad (3)), .ref (ad (5))] D (tyM cy) 6 cy ad (skLf) (EC al) (S) (fun S' => (∀ i, 3 ≤ i → i ≠ 5 → S'.1 i = S.1 i ∧ S'.2.1 i = S.2.1 i) ∧ ∀ k, k < 32 → S'.2.1 5 k = sbH (shaC kC wC0 (lfB (nI kd) (nI t) (ub (S.2.1 4))) (0 + 1 + 1 + 1 + t)) k) := by
  refine CtV_of (by decide) (Nat.le_of_ble_eq_true rfl) ?_
  intro p e s m args below meth c A ls R Q hB hRf hRl hend
  obtain ⟨hx, hbc, hr, hg, hown, hml, hlk, w, hE, hl⟩ := hB
  have hl : lv_has ls 4 [(0, .ref (ad (0))), (1, .int (nI (kd))), (2, .ref (ad (3))), (3, .ref (ad (5)))] := hl
  have hO := oth.rf S
  refine lv_aload_n hx hbc dX7_digestLeaf_0 rfl (lv_at hl 0 rfl) ?_
  refine va_gets hx hbc hE.2.1.1 w.2.2.2.1 hown (hg _ wk_383) (fun _ h9 => h9) dX7_digestLeaf_1 ?_
  refine wc_Vv (na := 1) (f := id) (As := [.ref (al 1)]) (rest := []) hx hbc hml hg hown w (EC_ok al) hE w.1 (sub3A hM_lf (by decide)) 0 (by decide) rfl rfl (k_mbegin1 l D cy ad al (S)) wk_275 wk_3 wk_384 wk_273 wk_274 ⟨by decide, by decide, by decide⟩ ⟨by rw [hRf]; decide, by rw [hRl]; decide⟩ rfl hl.1 rfl (Nat.le_of_ble_eq_true rfl) dX7_digestLeaf_4 ⟨Nat.zero_le _, Nat.zero_le _⟩ (fun S9 hp H locs w => ?_)
  subst hp
  have w : WB D (tyM cy) 6 cy ad (skLf) A s (mgS S (mbg S wC0)) H locs := w _ (sub3T hM_lf _)
  have hI : MI (mgS S (mbg S wC0)) wC0 (lfB (nI kd) (nI t) (ub (S.2.1 4))) 0 := mg_MI (mbg_MI _ _ _)
  have hC : (mgS S (mbg S wC0)).1 0 3 = nI 0 := rfl
  have hO := hO.mg (mbg S wC0)
  obtain ⟨S_1, eS_1⟩ : ∃ z, z = mgS S (mbg S wC0) := ⟨_, rfl⟩
  rw [← eS_1] at w hI hC hO
  refine lv_aload_n hx hbc dX7_digestLeaf_7 rfl (lv_at hl 0 rfl) ?_
  refine lv_iconst (v := nI (0)) hx hbc dX7_digestLeaf_8 (by decide) ?_
  refine wc_Vv (na := 1) (f := id) (As := [.int (nI (0))]) (rest := []) hx hbc hml hg hown w (EC_ok al) hE w.1 (sub3A hM_lf (by decide)) 0 (by decide) rfl rfl (k_mtakeByte l D cy ad al (S_1) (nI (0)) wC0 (lfB (nI kd) (nI t) (ub (S.2.1 4))) 0 0 hI (nand255 (by decide)) hC) wk_314 wk_3 wk_385 wk_312 wk_313 ⟨by decide, by decide, by decide⟩ ⟨by rw [hRf]; decide, by rw [hRl]; decide⟩ rfl hl.1 rfl (Nat.le_of_ble_eq_true rfl) dX7_digestLeaf_9 ⟨Nat.zero_le _, Nat.zero_le _⟩ (fun S9 hp H locs w => ?_)
  have w : WB D (tyM cy) 6 cy ad (skLf) A s (mgS S_1 S9) H locs := w _ (sub3T hM_lf _)
  have hI : MI (mgS S_1 S9) wC0 (lfB (nI kd) (nI t) (ub (S.2.1 4))) (0 + 1) := mg_MI hp.1
  have hC : (mgS S_1 S9).1 0 3 = nI (0 + 1) := hp.2
  have hO := hO.mg S9
  obtain ⟨S_2, eS_2⟩ : ∃ z, z = mgS S_1 S9 := ⟨_, rfl⟩
  rw [← eS_2] at w hI hC hO
  refine lv_aload_n hx hbc dX7_digestLeaf_12 rfl (lv_at hl 0 rfl) ?_
  refine lv_iload_n hx hbc dX7_digestLeaf_13 rfl (lv_at hl 1 rfl) ?_
  refine wc_Vv (na := 1) (f := id) (As := [.int (nI (kd))]) (rest := []) hx hbc hml hg hown w (EC_ok al) hE w.1 (sub3A hM_lf (by decide)) 0 (by decide) rfl rfl (k_mtakeByte l D cy ad al (S_2) (nI (kd)) wC0 (lfB (nI kd) (nI t) (ub (S.2.1 4))) (0 + 1) (0 + 1) hI (nand255 (by omega)) hC) wk_314 wk_3 wk_385 wk_312 wk_313 ⟨by decide, by decide, by decide⟩ ⟨by rw [hRf]; decide, by rw [hRl]; decide⟩ rfl hl.1 rfl (Nat.le_of_ble_eq_true rfl) dX7_digestLeaf_14 ⟨Nat.zero_le _, Nat.zero_le _⟩ (fun S9 hp H locs w => ?_)
  have w : WB D (tyM cy) 6 cy ad (skLf) A s (mgS S_2 S9) H locs := w _ (sub3T hM_lf _)
  have hI : MI (mgS S_2 S9) wC0 (lfB (nI kd) (nI t) (ub (S.2.1 4))) (0 + 1 + 1) := mg_MI hp.1
  have hC : (mgS S_2 S9).1 0 3 = nI (0 + 1 + 1) := hp.2
  have hO := hO.mg S9
  obtain ⟨S_3, eS_3⟩ : ∃ z, z = mgS S_2 S9 := ⟨_, rfl⟩
  rw [← eS_3] at w hI hC hO
  refine lv_aload_n hx hbc dX7_digestLeaf_17 rfl (lv_at hl 0 rfl) ?_
  refine lv_aload_n hx hbc dX7_digestLeaf_18 rfl (lv_at hl 2 rfl) ?_
  refine wb_gi (v := nI (t)) hx hbc hg hown w inG_X0 3 (by decide) rfl rfl 1 (by decide) rfl wk_38 ((congrFun (hO 3 (by decide)).1 1).trans ht) dX7_digestLeaf_19 ?_
  refine wc_Vv (na := 1) (f := id) (As := [.int (nI (t))]) (rest := []) hx hbc hml hg hown w (EC_ok al) hE w.1 (sub3A hM_lf (by decide)) 0 (by decide) rfl rfl (k_mtakeByte l D cy ad al (S_3) (nI (t)) wC0 (lfB (nI kd) (nI t) (ub (S.2.1 4))) (0 + 1 + 1) (0 + 1 + 1) hI (nand255 (by omega)) hC) wk_314 wk_3 wk_385 wk_312 wk_313 ⟨by decide, by decide, by decide⟩ ⟨by rw [hRf]; decide, by rw [hRl]; decide⟩ rfl hl.1 rfl (Nat.le_of_ble_eq_true rfl) dX7_digestLeaf_22 ⟨Nat.zero_le _, Nat.zero_le _⟩ (fun S9 hp H locs w => ?_)
  have w : WB D (tyM cy) 6 cy ad (skLf) A s (mgS S_3 S9) H locs := w _ (sub3T hM_lf _)
  have hI : MI (mgS S_3 S9) wC0 (lfB (nI kd) (nI t) (ub (S.2.1 4))) (0 + 1 + 1 + 1) := mg_MI hp.1
  have hC : (mgS S_3 S9).1 0 3 = nI (0 + 1 + 1 + 1) := hp.2
  have hO := hO.mg S9
  obtain ⟨S_4, eS_4⟩ : ∃ z, z = mgS S_3 S9 := ⟨_, rfl⟩
  rw [← eS_4] at w hI hC hO
  refine lv_aload_n hx hbc dX7_digestLeaf_25 rfl (lv_at hl 0 rfl) ?_
  refine lv_aload_n hx hbc dX7_digestLeaf_26 rfl (lv_at hl 2 rfl) ?_
  refine wb_gr (t := 4) hx hbc hg hown w inG_X0 3 (by decide) rfl rfl 0 (by decide) rfl wk_35 dX7_digestLeaf_27 ?_
  refine lv_aload_n hx hbc dX7_digestLeaf_30 rfl (lv_at hl 2 rfl) ?_
  refine wb_gi (v := nI (t)) hx hbc hg hown w inG_X0 3 (by decide) rfl rfl 1 (by decide) rfl wk_38 ((congrFun (hO 3 (by decide)).1 1).trans ht) dX7_digestLeaf_31 ?_
  refine wc_Vv (na := 2) (f := (fM 4)) (As := [.ref (ad (4)), .int (nI (t))]) (rest := []) hx hbc hml hg hown w (EC_ok al) hE w.1 (sub4A hM_lf (by decide) (by decide) (g := fun _ => none) rfl) 0 (by decide) rfl rfl (k_mtake l D cy (fun k => ad (fM 4 k)) al (sM (S_4) 4) 200 (by decide) t (by omega) wC0 (lfB (nI kd) (nI t) (ub (S.2.1 4))) (0 + 1 + 1 + 1) (0 + 1 + 1 + 1) hI (fun k hk => (by show S_4.2.1 4 k &&& nI 255 = _; rw [(hO 4 (by decide)).2]; exact (lfB_at _ _ (ub (S.2.1 4)) k).symm)) hC) wk_280 wk_3 wk_386 wk_278 wk_279 ⟨by decide, by decide, by decide⟩ ⟨by rw [hRf]; decide, by rw [hRl]; decide⟩ rfl hl.1 rfl (Nat.le_of_ble_eq_true rfl) dX7_digestLeaf_34 ⟨Nat.zero_le _, Nat.zero_le _⟩ (fun S9 hp H locs w => ?_)
  have w : WB D (tyM cy) 6 cy ad (skLf) A s (mgS S_4 S9) H locs := w _ (sub4T hM_lf (by decide) (g := fun _ => none) rfl (fun k hk => (if_pos hk).symm) (fun k hk => (if_pos hk).symm) hp.2.2.symm (fun i hi _ => ⟨if_neg (by omega), if_neg (by omega), rfl⟩))
  have hI : MI (mgS S_4 S9) wC0 (lfB (nI kd) (nI t) (ub (S.2.1 4))) (0 + 1 + 1 + 1 + t) := mg_MI hp.1
  have hC : (mgS S_4 S9).1 0 3 = nI (0 + 1 + 1 + 1 + t) := hp.2.1
  have hO := hO.mg S9
  obtain ⟨S_5, eS_5⟩ : ∃ z, z = mgS S_4 S9 := ⟨_, rfl⟩
  rw [← eS_5] at w hI hC hO
  refine lv_aload_n hx hbc dX7_digestLeaf_37 rfl (lv_at hl 0 rfl) ?_
  refine wc_Vv (na := 0) (f := id) (As := []) (rest := []) hx hbc hml hg hown w (EC_ok al) hE w.1 (sub3A hM_lf (by decide)) 0 (by decide) rfl rfl (k_mfinish l D cy ad al (S_5) wC0 (lfB (nI kd) (nI t) (ub (S.2.1 4))) (0 + 1 + 1 + 1 + t) hI hC) wk_301 wk_3 wk_387 wk_299 wk_300 ⟨by decide, by decide, by decide⟩ ⟨by rw [hRf]; decide, by rw [hRl]; decide⟩ rfl hl.1 rfl (Nat.le_of_ble_eq_true rfl) dX7_digestLeaf_38 ⟨Nat.zero_le _, Nat.zero_le _⟩ (fun S9 hp H locs w => ?_)
  have w : WB D (tyM cy) 6 cy ad (skLf) A s (mgS S_5 S9) H locs := w _ (sub3T hM_lf _)
  have hI : MI (mgS S_5 S9) wC0 (padM (lfB (nI kd) (nI t) (ub (S.2.1 4))) (0 + 1 + 1 + 1 + t)) (padL (0 + 1 + 1 + 1 + t)) := mg_MI hp.1
  have hC : (mgS S_5 S9).1 0 3 = nI (0 + 1 + 1 + 1 + t) := hp.2
  have hO := hO.mg S9
  obtain ⟨S_6, eS_6⟩ : ∃ z, z = mgS S_5 S9 := ⟨_, rfl⟩
  rw [← eS_6] at w hI hC hO
  refine lv_aload_n hx hbc dX7_digestLeaf_41 rfl (lv_at hl 0 rfl) ?_
  refine lv_aload_n hx hbc dX7_digestLeaf_42 rfl (lv_at hl 3 rfl) ?_
  refine lv_bipush (v := nI (32)) hx hbc dX7_digestLeaf_43 (by decide) ?_
  refine wc_Vv (na := 2) (f := (fM 5)) (As := [.ref (ad (5)), .int (nI (32))]) (rest := []) hx hbc hml hg hown w (EC_ok al) hE w.1 (sub4A hM_lf (by decide) (by decide) (g := fun _ => none) rfl) 0 (by decide) rfl rfl (k_mwrite l D cy (fun k => ad (fM 5 k)) al (sM (S_6) 5) 32 (by decide) 32 (by omega) (by omega)) wk_306 wk_3 wk_388 wk_304 wk_305 ⟨by decide, by decide, by decide⟩ ⟨by rw [hRf]; decide, by rw [hRl]; decide⟩ rfl hl.1 rfl (Nat.le_of_ble_eq_true rfl) dX7_digestLeaf_45 ⟨Nat.zero_le _, Nat.zero_le _⟩ (fun S9 hp H locs w => ?_)
  subst hp
  have w : WB D (tyM cy) 6 cy ad (skLf) A s (sB S_6 5 (cps (S_6.2.1 5) (sbH (S_6.2.1 1)) 32)) H locs := w _ (sub4T hM_lf (by decide) (g := fun _ => none) rfl (fun k hk => (by rcases (show k = 0 ∨ k = 1 ∨ k = 2 by omega) with rfl | rfl | rfl <;> rfl)) (fun k hk => (by rcases (show k = 0 ∨ k = 1 ∨ k = 2 by omega) with rfl | rfl | rfl <;> rfl)) rfl (fun i hi hc => ⟨rfl, by simp [sB, va_up, hc], rfl⟩))
  exact hend (sB S_6 5 (cps (S_6.2.1 5) (sbH (S_6.2.1 1)) 32)) _ _ _ _ ⟨fun i hi hc => ⟨(hO i hi).1, (show va_up _ 5 _ i = _ by simp [va_up, hc]; exact (hO i hi).2)⟩, fun k hk => (show cps _ _ 32 k = _ by rw [cps_at, if_pos hk]; exact sbH_cg hI.fin.1 k hk)⟩ w dX7_digestLeaf_48
set_option maxHeartbeats 4000000 in
set_option maxRecDepth 100000 in
theorem k_digestPairA (l : Launch) (D : va_G) (cy : Nat → ClassId) (ad al : Nat → Nat) (S : wS)  : CtV l yX7_digestPair (Cond.code yX7_digestPair cX7_digestPair 4 none :: wsG) 5 122 [.ref (ad (0)), .ref (ad (3)), .ref (ad (4)), .ref (ad (5))] D (tyM cy) 6 cy ad (skMi 32) (EC al) (S) (fun S' => (∀ i, 3 ≤ i → i ≠ 5 → S'.1 i = S.1 i ∧ S'.2.1 i = S.2.1 i) ∧ ∀ k, k < 32 → S'.2.1 5 k = sbH (shaC kC wC0 (prU (S.2.1 3) (S.2.1 4)) (0 + 1 + 32 + 32)) k) := by
  refine CtV_of (by decide) (Nat.le_of_ble_eq_true rfl) ?_
  intro p e s m args below meth c A ls R Q hB hRf hRl hend
  obtain ⟨hx, hbc, hr, hg, hown, hml, hlk, w, hE, hl⟩ := hB
  have hl : lv_has ls 4 [(0, .ref (ad (0))), (1, .ref (ad (3))), (2, .ref (ad (4))), (3, .ref (ad (5)))] := hl
  have hO := oth.rf S
  refine lv_aload_n hx hbc dX7_digestPair_0 rfl (lv_at hl 0 rfl) ?_
  refine va_gets hx hbc hE.2.1.1 w.2.2.2.1 hown (hg _ wk_383) (fun _ h9 => h9) dX7_digestPair_1 ?_
  refine wc_Vv (na := 1) (f := id) (As := [.ref (al 1)]) (rest := []) hx hbc hml hg hown w (EC_ok al) hE w.1 (sub3A (hM_mi 32) (by decide)) 0 (by decide) rfl rfl (k_mbegin1 l D cy ad al (S)) wk_275 wk_3 wk_384 wk_273 wk_274 ⟨by decide, by decide, by decide⟩ ⟨by rw [hRf]; decide, by rw [hRl]; decide⟩ rfl hl.1 rfl (Nat.le_of_ble_eq_true rfl) dX7_digestPair_4 ⟨Nat.zero_le _, Nat.zero_le _⟩ (fun S9 hp H locs w => ?_)
  subst hp
  have w : WB D (tyM cy) 6 cy ad (skMi 32) A s (mgS S (mbg S wC0)) H locs := w _ (sub3T (hM_mi 32) _)
  have hI : MI (mgS S (mbg S wC0)) wC0 (prU (S.2.1 3) (S.2.1 4)) 0 := mg_MI (mbg_MI _ _ _)
  have hC : (mgS S (mbg S wC0)).1 0 3 = nI 0 := rfl
  have hO := hO.mg (mbg S wC0)
  obtain ⟨S_1, eS_1⟩ : ∃ z, z = mgS S (mbg S wC0) := ⟨_, rfl⟩
  rw [← eS_1] at w hI hC hO
  refine lv_aload_n hx hbc dX7_digestPair_7 rfl (lv_at hl 0 rfl) ?_
  refine lv_iconst (v := nI (1)) hx hbc dX7_digestPair_8 (by decide) ?_
  refine wc_Vv (na := 1) (f := id) (As := [.int (nI (1))]) (rest := []) hx hbc hml hg hown w (EC_ok al) hE w.1 (sub3A (hM_mi 32) (by decide)) 0 (by decide) rfl rfl (k_mtakeByte l D cy ad al (S_1) (nI (1)) wC0 (prU (S.2.1 3) (S.2.1 4)) 0 0 hI (nand255 (by decide)) hC) wk_314 wk_3 wk_385 wk_312 wk_313 ⟨by decide, by decide, by decide⟩ ⟨by rw [hRf]; decide, by rw [hRl]; decide⟩ rfl hl.1 rfl (Nat.le_of_ble_eq_true rfl) dX7_digestPair_9 ⟨Nat.zero_le _, Nat.zero_le _⟩ (fun S9 hp H locs w => ?_)
  have w : WB D (tyM cy) 6 cy ad (skMi 32) A s (mgS S_1 S9) H locs := w _ (sub3T (hM_mi 32) _)
  have hI : MI (mgS S_1 S9) wC0 (prU (S.2.1 3) (S.2.1 4)) (0 + 1) := mg_MI hp.1
  have hC : (mgS S_1 S9).1 0 3 = nI (0 + 1) := hp.2
  have hO := hO.mg S9
  obtain ⟨S_2, eS_2⟩ : ∃ z, z = mgS S_1 S9 := ⟨_, rfl⟩
  rw [← eS_2] at w hI hC hO
  refine lv_aload_n hx hbc dX7_digestPair_12 rfl (lv_at hl 0 rfl) ?_
  refine lv_aload_n hx hbc dX7_digestPair_13 rfl (lv_at hl 1 rfl) ?_
  refine lv_bipush (v := nI (32)) hx hbc dX7_digestPair_14 (by decide) ?_
  refine wc_Vv (na := 2) (f := (fM 3)) (As := [.ref (ad (3)), .int (nI (32))]) (rest := []) hx hbc hml hg hown w (EC_ok al) hE w.1 (sub4A (hM_mi 32) (by decide) (by decide) (g := fun _ => none) rfl) 0 (by decide) rfl rfl (k_mtake l D cy (fun k => ad (fM 3 k)) al (sM (S_2) 3) 32 (by decide) 32 (by omega) wC0 (prU (S.2.1 3) (S.2.1 4)) (0 + 1) (0 + 1) hI (fun k hk => (by show S_2.2.1 3 k &&& nI 255 = _; rw [(hO 3 (by decide)).2]; exact (prU_l _ _ k hk).symm)) hC) wk_280 wk_3 wk_386 wk_278 wk_279 ⟨by decide, by decide, by decide⟩ ⟨by rw [hRf]; decide, by rw [hRl]; decide⟩ rfl hl.1 rfl (Nat.le_of_ble_eq_true rfl) dX7_digestPair_16 ⟨Nat.zero_le _, Nat.zero_le _⟩ (fun S9 hp H locs w => ?_)
  have w : WB D (tyM cy) 6 cy ad (skMi 32) A s (mgS S_2 S9) H locs := w _ (sub4T (hM_mi 32) (by decide) (g := fun _ => none) rfl (fun k hk => (if_pos hk).symm) (fun k hk => (if_pos hk).symm) hp.2.2.symm (fun i hi _ => ⟨if_neg (by omega), if_neg (by omega), rfl⟩))
  have hI : MI (mgS S_2 S9) wC0 (prU (S.2.1 3) (S.2.1 4)) (0 + 1 + 32) := mg_MI hp.1
  have hC : (mgS S_2 S9).1 0 3 = nI (0 + 1 + 32) := hp.2.1
  have hO := hO.mg S9
  obtain ⟨S_3, eS_3⟩ : ∃ z, z = mgS S_2 S9 := ⟨_, rfl⟩
  rw [← eS_3] at w hI hC hO
  refine lv_aload_n hx hbc dX7_digestPair_19 rfl (lv_at hl 0 rfl) ?_
  refine lv_aload_n hx hbc dX7_digestPair_20 rfl (lv_at hl 2 rfl) ?_
  refine lv_bipush (v := nI (32)) hx hbc dX7_digestPair_21 (by decide) ?_
  refine wc_Vv (na := 2) (f := (fM 4)) (As := [.ref (ad (4)), .int (nI (32))]) (rest := []) hx hbc hml hg hown w (EC_ok al) hE w.1 (sub4A (hM_mi 32) (by decide) (by decide) (g := fun _ => none) rfl) 0 (by decide) rfl rfl (k_mtake l D cy (fun k => ad (fM 4 k)) al (sM (S_3) 4) 32 (by decide) 32 (by omega) wC0 (prU (S.2.1 3) (S.2.1 4)) (0 + 1 + 32) (0 + 1 + 32) hI (fun k hk => (by show S_3.2.1 4 k &&& nI 255 = _; rw [(hO 4 (by decide)).2]; exact (prU_r _ _ k hk).symm)) hC) wk_280 wk_3 wk_386 wk_278 wk_279 ⟨by decide, by decide, by decide⟩ ⟨by rw [hRf]; decide, by rw [hRl]; decide⟩ rfl hl.1 rfl (Nat.le_of_ble_eq_true rfl) dX7_digestPair_23 ⟨Nat.zero_le _, Nat.zero_le _⟩ (fun S9 hp H locs w => ?_)
  have w : WB D (tyM cy) 6 cy ad (skMi 32) A s (mgS S_3 S9) H locs := w _ (sub4T (hM_mi 32) (by decide) (g := fun _ => none) rfl (fun k hk => (if_pos hk).symm) (fun k hk => (if_pos hk).symm) hp.2.2.symm (fun i hi _ => ⟨if_neg (by omega), if_neg (by omega), rfl⟩))
  have hI : MI (mgS S_3 S9) wC0 (prU (S.2.1 3) (S.2.1 4)) (0 + 1 + 32 + 32) := mg_MI hp.1
  have hC : (mgS S_3 S9).1 0 3 = nI (0 + 1 + 32 + 32) := hp.2.1
  have hO := hO.mg S9
  obtain ⟨S_4, eS_4⟩ : ∃ z, z = mgS S_3 S9 := ⟨_, rfl⟩
  rw [← eS_4] at w hI hC hO
  refine lv_aload_n hx hbc dX7_digestPair_26 rfl (lv_at hl 0 rfl) ?_
  refine wc_Vv (na := 0) (f := id) (As := []) (rest := []) hx hbc hml hg hown w (EC_ok al) hE w.1 (sub3A (hM_mi 32) (by decide)) 0 (by decide) rfl rfl (k_mfinish l D cy ad al (S_4) wC0 (prU (S.2.1 3) (S.2.1 4)) (0 + 1 + 32 + 32) hI hC) wk_301 wk_3 wk_387 wk_299 wk_300 ⟨by decide, by decide, by decide⟩ ⟨by rw [hRf]; decide, by rw [hRl]; decide⟩ rfl hl.1 rfl (Nat.le_of_ble_eq_true rfl) dX7_digestPair_27 ⟨Nat.zero_le _, Nat.zero_le _⟩ (fun S9 hp H locs w => ?_)
  have w : WB D (tyM cy) 6 cy ad (skMi 32) A s (mgS S_4 S9) H locs := w _ (sub3T (hM_mi 32) _)
  have hI : MI (mgS S_4 S9) wC0 (padM (prU (S.2.1 3) (S.2.1 4)) (0 + 1 + 32 + 32)) (padL (0 + 1 + 32 + 32)) := mg_MI hp.1
  have hC : (mgS S_4 S9).1 0 3 = nI (0 + 1 + 32 + 32) := hp.2
  have hO := hO.mg S9
  obtain ⟨S_5, eS_5⟩ : ∃ z, z = mgS S_4 S9 := ⟨_, rfl⟩
  rw [← eS_5] at w hI hC hO
  refine lv_aload_n hx hbc dX7_digestPair_30 rfl (lv_at hl 0 rfl) ?_
  refine lv_aload_n hx hbc dX7_digestPair_31 rfl (lv_at hl 3 rfl) ?_
  refine lv_bipush (v := nI (32)) hx hbc dX7_digestPair_32 (by decide) ?_
  refine wc_Vv (na := 2) (f := (fM 5)) (As := [.ref (ad (5)), .int (nI (32))]) (rest := []) hx hbc hml hg hown w (EC_ok al) hE w.1 (sub4A (hM_mi 32) (by decide) (by decide) (g := fun _ => none) rfl) 0 (by decide) rfl rfl (k_mwrite l D cy (fun k => ad (fM 5 k)) al (sM (S_5) 5) 32 (by decide) 32 (by omega) (by omega)) wk_306 wk_3 wk_388 wk_304 wk_305 ⟨by decide, by decide, by decide⟩ ⟨by rw [hRf]; decide, by rw [hRl]; decide⟩ rfl hl.1 rfl (Nat.le_of_ble_eq_true rfl) dX7_digestPair_34 ⟨Nat.zero_le _, Nat.zero_le _⟩ (fun S9 hp H locs w => ?_)
  subst hp
  have w : WB D (tyM cy) 6 cy ad (skMi 32) A s (sB S_5 5 (cps (S_5.2.1 5) (sbH (S_5.2.1 1)) 32)) H locs := w _ (sub4T (hM_mi 32) (by decide) (g := fun _ => none) rfl (fun k hk => (by rcases (show k = 0 ∨ k = 1 ∨ k = 2 by omega) with rfl | rfl | rfl <;> rfl)) (fun k hk => (by rcases (show k = 0 ∨ k = 1 ∨ k = 2 by omega) with rfl | rfl | rfl <;> rfl)) rfl (fun i hi hc => ⟨rfl, by simp [sB, va_up, hc], rfl⟩))
  exact hend (sB S_5 5 (cps (S_5.2.1 5) (sbH (S_5.2.1 1)) 32)) _ _ _ _ ⟨fun i hi hc => ⟨(hO i hi).1, (show va_up _ 5 _ i = _ by simp [va_up, hc]; exact (hO i hi).2)⟩, fun k hk => (show cps _ _ 32 k = _ by rw [cps_at, if_pos hk]; exact sbH_cg hI.fin.1 k hk)⟩ w dX7_digestPair_37
set_option maxHeartbeats 4000000 in
set_option maxRecDepth 100000 in
theorem k_digestPairB (l : Launch) (D : va_G) (cy : Nat → ClassId) (ad al : Nat → Nat) (S : wS)  : CtV l yX7_digestPair (Cond.code yX7_digestPair cX7_digestPair 4 none :: wsG) 5 122 [.ref (ad (0)), .ref (ad (3)), .ref (ad (4)), .ref (ad (4))] D (tyM cy) 5 cy ad (skMi 32) (EC al) (S) (fun S' => (∀ i, 3 ≤ i → i ≠ 4 → S'.1 i = S.1 i ∧ S'.2.1 i = S.2.1 i) ∧ ∀ k, k < 32 → S'.2.1 4 k = sbH (shaC kC wC0 (prU (S.2.1 3) (S.2.1 4)) (0 + 1 + 32 + 32)) k) := by
  refine CtV_of (by decide) (Nat.le_of_ble_eq_true rfl) ?_
  intro p e s m args below meth c A ls R Q hB hRf hRl hend
  obtain ⟨hx, hbc, hr, hg, hown, hml, hlk, w, hE, hl⟩ := hB
  have hl : lv_has ls 4 [(0, .ref (ad (0))), (1, .ref (ad (3))), (2, .ref (ad (4))), (3, .ref (ad (4)))] := hl
  have hO := oth.rf S
  refine lv_aload_n hx hbc dX7_digestPair_0 rfl (lv_at hl 0 rfl) ?_
  refine va_gets hx hbc hE.2.1.1 w.2.2.2.1 hown (hg _ wk_383) (fun _ h9 => h9) dX7_digestPair_1 ?_
  refine wc_Vv (na := 1) (f := id) (As := [.ref (al 1)]) (rest := []) hx hbc hml hg hown w (EC_ok al) hE w.1 (sub3A (hM_mi 32) (by decide)) 0 (by decide) rfl rfl (k_mbegin1 l D cy ad al (S)) wk_275 wk_3 wk_384 wk_273 wk_274 ⟨by decide, by decide, by decide⟩ ⟨by rw [hRf]; decide, by rw [hRl]; decide⟩ rfl hl.1 rfl (Nat.le_of_ble_eq_true rfl) dX7_digestPair_4 ⟨Nat.zero_le _, Nat.zero_le _⟩ (fun S9 hp H locs w => ?_)
  subst hp
  have w : WB D (tyM cy) 5 cy ad (skMi 32) A s (mgS S (mbg S wC0)) H locs := w _ (sub3T (hM_mi 32) _)
  have hI : MI (mgS S (mbg S wC0)) wC0 (prU (S.2.1 3) (S.2.1 4)) 0 := mg_MI (mbg_MI _ _ _)
  have hC : (mgS S (mbg S wC0)).1 0 3 = nI 0 := rfl
  have hO := hO.mg (mbg S wC0)
  obtain ⟨S_1, eS_1⟩ : ∃ z, z = mgS S (mbg S wC0) := ⟨_, rfl⟩
  rw [← eS_1] at w hI hC hO
  refine lv_aload_n hx hbc dX7_digestPair_7 rfl (lv_at hl 0 rfl) ?_
  refine lv_iconst (v := nI (1)) hx hbc dX7_digestPair_8 (by decide) ?_
  refine wc_Vv (na := 1) (f := id) (As := [.int (nI (1))]) (rest := []) hx hbc hml hg hown w (EC_ok al) hE w.1 (sub3A (hM_mi 32) (by decide)) 0 (by decide) rfl rfl (k_mtakeByte l D cy ad al (S_1) (nI (1)) wC0 (prU (S.2.1 3) (S.2.1 4)) 0 0 hI (nand255 (by decide)) hC) wk_314 wk_3 wk_385 wk_312 wk_313 ⟨by decide, by decide, by decide⟩ ⟨by rw [hRf]; decide, by rw [hRl]; decide⟩ rfl hl.1 rfl (Nat.le_of_ble_eq_true rfl) dX7_digestPair_9 ⟨Nat.zero_le _, Nat.zero_le _⟩ (fun S9 hp H locs w => ?_)
  have w : WB D (tyM cy) 5 cy ad (skMi 32) A s (mgS S_1 S9) H locs := w _ (sub3T (hM_mi 32) _)
  have hI : MI (mgS S_1 S9) wC0 (prU (S.2.1 3) (S.2.1 4)) (0 + 1) := mg_MI hp.1
  have hC : (mgS S_1 S9).1 0 3 = nI (0 + 1) := hp.2
  have hO := hO.mg S9
  obtain ⟨S_2, eS_2⟩ : ∃ z, z = mgS S_1 S9 := ⟨_, rfl⟩
  rw [← eS_2] at w hI hC hO
  refine lv_aload_n hx hbc dX7_digestPair_12 rfl (lv_at hl 0 rfl) ?_
  refine lv_aload_n hx hbc dX7_digestPair_13 rfl (lv_at hl 1 rfl) ?_
  refine lv_bipush (v := nI (32)) hx hbc dX7_digestPair_14 (by decide) ?_
  refine wc_Vv (na := 2) (f := (fM 3)) (As := [.ref (ad (3)), .int (nI (32))]) (rest := []) hx hbc hml hg hown w (EC_ok al) hE w.1 (sub4A (hM_mi 32) (by decide) (by decide) (g := fun _ => none) rfl) 0 (by decide) rfl rfl (k_mtake l D cy (fun k => ad (fM 3 k)) al (sM (S_2) 3) 32 (by decide) 32 (by omega) wC0 (prU (S.2.1 3) (S.2.1 4)) (0 + 1) (0 + 1) hI (fun k hk => (by show S_2.2.1 3 k &&& nI 255 = _; rw [(hO 3 (by decide)).2]; exact (prU_l _ _ k hk).symm)) hC) wk_280 wk_3 wk_386 wk_278 wk_279 ⟨by decide, by decide, by decide⟩ ⟨by rw [hRf]; decide, by rw [hRl]; decide⟩ rfl hl.1 rfl (Nat.le_of_ble_eq_true rfl) dX7_digestPair_16 ⟨Nat.zero_le _, Nat.zero_le _⟩ (fun S9 hp H locs w => ?_)
  have w : WB D (tyM cy) 5 cy ad (skMi 32) A s (mgS S_2 S9) H locs := w _ (sub4T (hM_mi 32) (by decide) (g := fun _ => none) rfl (fun k hk => (if_pos hk).symm) (fun k hk => (if_pos hk).symm) hp.2.2.symm (fun i hi _ => ⟨if_neg (by omega), if_neg (by omega), rfl⟩))
  have hI : MI (mgS S_2 S9) wC0 (prU (S.2.1 3) (S.2.1 4)) (0 + 1 + 32) := mg_MI hp.1
  have hC : (mgS S_2 S9).1 0 3 = nI (0 + 1 + 32) := hp.2.1
  have hO := hO.mg S9
  obtain ⟨S_3, eS_3⟩ : ∃ z, z = mgS S_2 S9 := ⟨_, rfl⟩
  rw [← eS_3] at w hI hC hO
  refine lv_aload_n hx hbc dX7_digestPair_19 rfl (lv_at hl 0 rfl) ?_
  refine lv_aload_n hx hbc dX7_digestPair_20 rfl (lv_at hl 2 rfl) ?_
  refine lv_bipush (v := nI (32)) hx hbc dX7_digestPair_21 (by decide) ?_
  refine wc_Vv (na := 2) (f := (fM 4)) (As := [.ref (ad (4)), .int (nI (32))]) (rest := []) hx hbc hml hg hown w (EC_ok al) hE w.1 (sub4A (hM_mi 32) (by decide) (by decide) (g := fun _ => none) rfl) 0 (by decide) rfl rfl (k_mtake l D cy (fun k => ad (fM 4 k)) al (sM (S_3) 4) 32 (by decide) 32 (by omega) wC0 (prU (S.2.1 3) (S.2.1 4)) (0 + 1 + 32) (0 + 1 + 32) hI (fun k hk => (by show S_3.2.1 4 k &&& nI 255 = _; rw [(hO 4 (by decide)).2]; exact (prU_r _ _ k hk).symm)) hC) wk_280 wk_3 wk_386 wk_278 wk_279 ⟨by decide, by decide, by decide⟩ ⟨by rw [hRf]; decide, by rw [hRl]; decide⟩ rfl hl.1 rfl (Nat.le_of_ble_eq_true rfl) dX7_digestPair_23 ⟨Nat.zero_le _, Nat.zero_le _⟩ (fun S9 hp H locs w => ?_)
  have w : WB D (tyM cy) 5 cy ad (skMi 32) A s (mgS S_3 S9) H locs := w _ (sub4T (hM_mi 32) (by decide) (g := fun _ => none) rfl (fun k hk => (if_pos hk).symm) (fun k hk => (if_pos hk).symm) hp.2.2.symm (fun i hi _ => ⟨if_neg (by omega), if_neg (by omega), rfl⟩))
  have hI : MI (mgS S_3 S9) wC0 (prU (S.2.1 3) (S.2.1 4)) (0 + 1 + 32 + 32) := mg_MI hp.1
  have hC : (mgS S_3 S9).1 0 3 = nI (0 + 1 + 32 + 32) := hp.2.1
  have hO := hO.mg S9
  obtain ⟨S_4, eS_4⟩ : ∃ z, z = mgS S_3 S9 := ⟨_, rfl⟩
  rw [← eS_4] at w hI hC hO
  refine lv_aload_n hx hbc dX7_digestPair_26 rfl (lv_at hl 0 rfl) ?_
  refine wc_Vv (na := 0) (f := id) (As := []) (rest := []) hx hbc hml hg hown w (EC_ok al) hE w.1 (sub3A (hM_mi 32) (by decide)) 0 (by decide) rfl rfl (k_mfinish l D cy ad al (S_4) wC0 (prU (S.2.1 3) (S.2.1 4)) (0 + 1 + 32 + 32) hI hC) wk_301 wk_3 wk_387 wk_299 wk_300 ⟨by decide, by decide, by decide⟩ ⟨by rw [hRf]; decide, by rw [hRl]; decide⟩ rfl hl.1 rfl (Nat.le_of_ble_eq_true rfl) dX7_digestPair_27 ⟨Nat.zero_le _, Nat.zero_le _⟩ (fun S9 hp H locs w => ?_)
  have w : WB D (tyM cy) 5 cy ad (skMi 32) A s (mgS S_4 S9) H locs := w _ (sub3T (hM_mi 32) _)
  have hI : MI (mgS S_4 S9) wC0 (padM (prU (S.2.1 3) (S.2.1 4)) (0 + 1 + 32 + 32)) (padL (0 + 1 + 32 + 32)) := mg_MI hp.1
  have hC : (mgS S_4 S9).1 0 3 = nI (0 + 1 + 32 + 32) := hp.2
  have hO := hO.mg S9
  obtain ⟨S_5, eS_5⟩ : ∃ z, z = mgS S_4 S9 := ⟨_, rfl⟩
  rw [← eS_5] at w hI hC hO
  refine lv_aload_n hx hbc dX7_digestPair_30 rfl (lv_at hl 0 rfl) ?_
  refine lv_aload_n hx hbc dX7_digestPair_31 rfl (lv_at hl 3 rfl) ?_
  refine lv_bipush (v := nI (32)) hx hbc dX7_digestPair_32 (by decide) ?_
  refine wc_Vv (na := 2) (f := (fM 4)) (As := [.ref (ad (4)), .int (nI (32))]) (rest := []) hx hbc hml hg hown w (EC_ok al) hE w.1 (sub4A (hM_mi 32) (by decide) (by decide) (g := fun _ => none) rfl) 0 (by decide) rfl rfl (k_mwrite l D cy (fun k => ad (fM 4 k)) al (sM (S_5) 4) 32 (by decide) 32 (by omega) (by omega)) wk_306 wk_3 wk_388 wk_304 wk_305 ⟨by decide, by decide, by decide⟩ ⟨by rw [hRf]; decide, by rw [hRl]; decide⟩ rfl hl.1 rfl (Nat.le_of_ble_eq_true rfl) dX7_digestPair_34 ⟨Nat.zero_le _, Nat.zero_le _⟩ (fun S9 hp H locs w => ?_)
  subst hp
  have w : WB D (tyM cy) 5 cy ad (skMi 32) A s (sB S_5 4 (cps (S_5.2.1 4) (sbH (S_5.2.1 1)) 32)) H locs := w _ (sub4T (hM_mi 32) (by decide) (g := fun _ => none) rfl (fun k hk => (by rcases (show k = 0 ∨ k = 1 ∨ k = 2 by omega) with rfl | rfl | rfl <;> rfl)) (fun k hk => (by rcases (show k = 0 ∨ k = 1 ∨ k = 2 by omega) with rfl | rfl | rfl <;> rfl)) rfl (fun i hi hc => ⟨rfl, by simp [sB, va_up, hc], rfl⟩))
  exact hend (sB S_5 4 (cps (S_5.2.1 4) (sbH (S_5.2.1 1)) 32)) _ _ _ _ ⟨fun i hi hc => ⟨(hO i hi).1, (show va_up _ 4 _ i = _ by simp [va_up, hc]; exact (hO i hi).2)⟩, fun k hk => (show cps _ _ 32 k = _ by rw [cps_at, if_pos hk]; exact sbH_cg hI.fin.1 k hk)⟩ w dX7_digestPair_37
set_option maxHeartbeats 4000000 in
set_option maxRecDepth 100000 in
theorem k_digestPairC (l : Launch) (D : va_G) (cy : Nat → ClassId) (ad al : Nat → Nat) (S : wS)  : CtV l yX7_digestPair (Cond.code yX7_digestPair cX7_digestPair 4 none :: wsG) 5 122 [.ref (ad (0)), .ref (ad (3)), .ref (ad (4)), .ref (ad (3))] D (tyM cy) 5 cy ad (skMi 32) (EC al) (S) (fun S' => (∀ i, 3 ≤ i → i ≠ 3 → S'.1 i = S.1 i ∧ S'.2.1 i = S.2.1 i) ∧ ∀ k, k < 32 → S'.2.1 3 k = sbH (shaC kC wC0 (prU (S.2.1 3) (S.2.1 4)) (0 + 1 + 32 + 32)) k) := by
  refine CtV_of (by decide) (Nat.le_of_ble_eq_true rfl) ?_
  intro p e s m args below meth c A ls R Q hB hRf hRl hend
  obtain ⟨hx, hbc, hr, hg, hown, hml, hlk, w, hE, hl⟩ := hB
  have hl : lv_has ls 4 [(0, .ref (ad (0))), (1, .ref (ad (3))), (2, .ref (ad (4))), (3, .ref (ad (3)))] := hl
  have hO := oth.rf S
  refine lv_aload_n hx hbc dX7_digestPair_0 rfl (lv_at hl 0 rfl) ?_
  refine va_gets hx hbc hE.2.1.1 w.2.2.2.1 hown (hg _ wk_383) (fun _ h9 => h9) dX7_digestPair_1 ?_
  refine wc_Vv (na := 1) (f := id) (As := [.ref (al 1)]) (rest := []) hx hbc hml hg hown w (EC_ok al) hE w.1 (sub3A (hM_mi 32) (by decide)) 0 (by decide) rfl rfl (k_mbegin1 l D cy ad al (S)) wk_275 wk_3 wk_384 wk_273 wk_274 ⟨by decide, by decide, by decide⟩ ⟨by rw [hRf]; decide, by rw [hRl]; decide⟩ rfl hl.1 rfl (Nat.le_of_ble_eq_true rfl) dX7_digestPair_4 ⟨Nat.zero_le _, Nat.zero_le _⟩ (fun S9 hp H locs w => ?_)
  subst hp
  have w : WB D (tyM cy) 5 cy ad (skMi 32) A s (mgS S (mbg S wC0)) H locs := w _ (sub3T (hM_mi 32) _)
  have hI : MI (mgS S (mbg S wC0)) wC0 (prU (S.2.1 3) (S.2.1 4)) 0 := mg_MI (mbg_MI _ _ _)
  have hC : (mgS S (mbg S wC0)).1 0 3 = nI 0 := rfl
  have hO := hO.mg (mbg S wC0)
  obtain ⟨S_1, eS_1⟩ : ∃ z, z = mgS S (mbg S wC0) := ⟨_, rfl⟩
  rw [← eS_1] at w hI hC hO
  refine lv_aload_n hx hbc dX7_digestPair_7 rfl (lv_at hl 0 rfl) ?_
  refine lv_iconst (v := nI (1)) hx hbc dX7_digestPair_8 (by decide) ?_
  refine wc_Vv (na := 1) (f := id) (As := [.int (nI (1))]) (rest := []) hx hbc hml hg hown w (EC_ok al) hE w.1 (sub3A (hM_mi 32) (by decide)) 0 (by decide) rfl rfl (k_mtakeByte l D cy ad al (S_1) (nI (1)) wC0 (prU (S.2.1 3) (S.2.1 4)) 0 0 hI (nand255 (by decide)) hC) wk_314 wk_3 wk_385 wk_312 wk_313 ⟨by decide, by decide, by decide⟩ ⟨by rw [hRf]; decide, by rw [hRl]; decide⟩ rfl hl.1 rfl (Nat.le_of_ble_eq_true rfl) dX7_digestPair_9 ⟨Nat.zero_le _, Nat.zero_le _⟩ (fun S9 hp H locs w => ?_)
  have w : WB D (tyM cy) 5 cy ad (skMi 32) A s (mgS S_1 S9) H locs := w _ (sub3T (hM_mi 32) _)
  have hI : MI (mgS S_1 S9) wC0 (prU (S.2.1 3) (S.2.1 4)) (0 + 1) := mg_MI hp.1
  have hC : (mgS S_1 S9).1 0 3 = nI (0 + 1) := hp.2
  have hO := hO.mg S9
  obtain ⟨S_2, eS_2⟩ : ∃ z, z = mgS S_1 S9 := ⟨_, rfl⟩
  rw [← eS_2] at w hI hC hO
  refine lv_aload_n hx hbc dX7_digestPair_12 rfl (lv_at hl 0 rfl) ?_
  refine lv_aload_n hx hbc dX7_digestPair_13 rfl (lv_at hl 1 rfl) ?_
  refine lv_bipush (v := nI (32)) hx hbc dX7_digestPair_14 (by decide) ?_
  refine wc_Vv (na := 2) (f := (fM 3)) (As := [.ref (ad (3)), .int (nI (32))]) (rest := []) hx hbc hml hg hown w (EC_ok al) hE w.1 (sub4A (hM_mi 32) (by decide) (by decide) (g := fun _ => none) rfl) 0 (by decide) rfl rfl (k_mtake l D cy (fun k => ad (fM 3 k)) al (sM (S_2) 3) 32 (by decide) 32 (by omega) wC0 (prU (S.2.1 3) (S.2.1 4)) (0 + 1) (0 + 1) hI (fun k hk => (by show S_2.2.1 3 k &&& nI 255 = _; rw [(hO 3 (by decide)).2]; exact (prU_l _ _ k hk).symm)) hC) wk_280 wk_3 wk_386 wk_278 wk_279 ⟨by decide, by decide, by decide⟩ ⟨by rw [hRf]; decide, by rw [hRl]; decide⟩ rfl hl.1 rfl (Nat.le_of_ble_eq_true rfl) dX7_digestPair_16 ⟨Nat.zero_le _, Nat.zero_le _⟩ (fun S9 hp H locs w => ?_)
  have w : WB D (tyM cy) 5 cy ad (skMi 32) A s (mgS S_2 S9) H locs := w _ (sub4T (hM_mi 32) (by decide) (g := fun _ => none) rfl (fun k hk => (if_pos hk).symm) (fun k hk => (if_pos hk).symm) hp.2.2.symm (fun i hi _ => ⟨if_neg (by omega), if_neg (by omega), rfl⟩))
  have hI : MI (mgS S_2 S9) wC0 (prU (S.2.1 3) (S.2.1 4)) (0 + 1 + 32) := mg_MI hp.1
  have hC : (mgS S_2 S9).1 0 3 = nI (0 + 1 + 32) := hp.2.1
  have hO := hO.mg S9
  obtain ⟨S_3, eS_3⟩ : ∃ z, z = mgS S_2 S9 := ⟨_, rfl⟩
  rw [← eS_3] at w hI hC hO
  refine lv_aload_n hx hbc dX7_digestPair_19 rfl (lv_at hl 0 rfl) ?_
  refine lv_aload_n hx hbc dX7_digestPair_20 rfl (lv_at hl 2 rfl) ?_
  refine lv_bipush (v := nI (32)) hx hbc dX7_digestPair_21 (by decide) ?_
  refine wc_Vv (na := 2) (f := (fM 4)) (As := [.ref (ad (4)), .int (nI (32))]) (rest := []) hx hbc hml hg hown w (EC_ok al) hE w.1 (sub4A (hM_mi 32) (by decide) (by decide) (g := fun _ => none) rfl) 0 (by decide) rfl rfl (k_mtake l D cy (fun k => ad (fM 4 k)) al (sM (S_3) 4) 32 (by decide) 32 (by omega) wC0 (prU (S.2.1 3) (S.2.1 4)) (0 + 1 + 32) (0 + 1 + 32) hI (fun k hk => (by show S_3.2.1 4 k &&& nI 255 = _; rw [(hO 4 (by decide)).2]; exact (prU_r _ _ k hk).symm)) hC) wk_280 wk_3 wk_386 wk_278 wk_279 ⟨by decide, by decide, by decide⟩ ⟨by rw [hRf]; decide, by rw [hRl]; decide⟩ rfl hl.1 rfl (Nat.le_of_ble_eq_true rfl) dX7_digestPair_23 ⟨Nat.zero_le _, Nat.zero_le _⟩ (fun S9 hp H locs w => ?_)
  have w : WB D (tyM cy) 5 cy ad (skMi 32) A s (mgS S_3 S9) H locs := w _ (sub4T (hM_mi 32) (by decide) (g := fun _ => none) rfl (fun k hk => (if_pos hk).symm) (fun k hk => (if_pos hk).symm) hp.2.2.symm (fun i hi _ => ⟨if_neg (by omega), if_neg (by omega), rfl⟩))
  have hI : MI (mgS S_3 S9) wC0 (prU (S.2.1 3) (S.2.1 4)) (0 + 1 + 32 + 32) := mg_MI hp.1
  have hC : (mgS S_3 S9).1 0 3 = nI (0 + 1 + 32 + 32) := hp.2.1
  have hO := hO.mg S9
  obtain ⟨S_4, eS_4⟩ : ∃ z, z = mgS S_3 S9 := ⟨_, rfl⟩
  rw [← eS_4] at w hI hC hO
  refine lv_aload_n hx hbc dX7_digestPair_26 rfl (lv_at hl 0 rfl) ?_
  refine wc_Vv (na := 0) (f := id) (As := []) (rest := []) hx hbc hml hg hown w (EC_ok al) hE w.1 (sub3A (hM_mi 32) (by decide)) 0 (by decide) rfl rfl (k_mfinish l D cy ad al (S_4) wC0 (prU (S.2.1 3) (S.2.1 4)) (0 + 1 + 32 + 32) hI hC) wk_301 wk_3 wk_387 wk_299 wk_300 ⟨by decide, by decide, by decide⟩ ⟨by rw [hRf]; decide, by rw [hRl]; decide⟩ rfl hl.1 rfl (Nat.le_of_ble_eq_true rfl) dX7_digestPair_27 ⟨Nat.zero_le _, Nat.zero_le _⟩ (fun S9 hp H locs w => ?_)
  have w : WB D (tyM cy) 5 cy ad (skMi 32) A s (mgS S_4 S9) H locs := w _ (sub3T (hM_mi 32) _)
  have hI : MI (mgS S_4 S9) wC0 (padM (prU (S.2.1 3) (S.2.1 4)) (0 + 1 + 32 + 32)) (padL (0 + 1 + 32 + 32)) := mg_MI hp.1
  have hC : (mgS S_4 S9).1 0 3 = nI (0 + 1 + 32 + 32) := hp.2
  have hO := hO.mg S9
  obtain ⟨S_5, eS_5⟩ : ∃ z, z = mgS S_4 S9 := ⟨_, rfl⟩
  rw [← eS_5] at w hI hC hO
  refine lv_aload_n hx hbc dX7_digestPair_30 rfl (lv_at hl 0 rfl) ?_
  refine lv_aload_n hx hbc dX7_digestPair_31 rfl (lv_at hl 3 rfl) ?_
  refine lv_bipush (v := nI (32)) hx hbc dX7_digestPair_32 (by decide) ?_
  refine wc_Vv (na := 2) (f := (fM 3)) (As := [.ref (ad (3)), .int (nI (32))]) (rest := []) hx hbc hml hg hown w (EC_ok al) hE w.1 (sub4A (hM_mi 32) (by decide) (by decide) (g := fun _ => none) rfl) 0 (by decide) rfl rfl (k_mwrite l D cy (fun k => ad (fM 3 k)) al (sM (S_5) 3) 32 (by decide) 32 (by omega) (by omega)) wk_306 wk_3 wk_388 wk_304 wk_305 ⟨by decide, by decide, by decide⟩ ⟨by rw [hRf]; decide, by rw [hRl]; decide⟩ rfl hl.1 rfl (Nat.le_of_ble_eq_true rfl) dX7_digestPair_34 ⟨Nat.zero_le _, Nat.zero_le _⟩ (fun S9 hp H locs w => ?_)
  subst hp
  have w : WB D (tyM cy) 5 cy ad (skMi 32) A s (sB S_5 3 (cps (S_5.2.1 3) (sbH (S_5.2.1 1)) 32)) H locs := w _ (sub4T (hM_mi 32) (by decide) (g := fun _ => none) rfl (fun k hk => (by rcases (show k = 0 ∨ k = 1 ∨ k = 2 by omega) with rfl | rfl | rfl <;> rfl)) (fun k hk => (by rcases (show k = 0 ∨ k = 1 ∨ k = 2 by omega) with rfl | rfl | rfl <;> rfl)) rfl (fun i hi hc => ⟨rfl, by simp [sB, va_up, hc], rfl⟩))
  exact hend (sB S_5 3 (cps (S_5.2.1 3) (sbH (S_5.2.1 1)) 32)) _ _ _ _ ⟨fun i hi hc => ⟨(hO i hi).1, (show va_up _ 3 _ i = _ by simp [va_up, hc]; exact (hO i hi).2)⟩, fun k hk => (show cps _ _ 32 k = _ by rw [cps_at, if_pos hk]; exact sbH_cg hI.fin.1 k hk)⟩ w dX7_digestPair_37
set_option maxHeartbeats 4000000 in
set_option maxRecDepth 100000 in
theorem k_digestRoot (l : Launch) (D : va_G) (cy : Nat → ClassId) (ad al : Nat → Nat) (S : wS) (nl : Nat) (hnl : nl ≤ 12) : CtV l yX7_digestRoot (Cond.code yX7_digestRoot cX7_digestRoot 3 none :: wsG) 5 122 [.ref (ad (0)), .int (nI (nl)), .ref (ad (3))] D (tyM cy) 4 cy ad (skMi 32) (EC al) (S) (fun S' => (∀ i, 3 ≤ i → S'.1 i = S.1 i ∧ S'.2.1 i = S.2.1 i) ∧ (∀ j, j < 8 → S'.2.1 1 j = shaC kC wC0 (rtU (nI nl) (S.2.1 3)) (0 + 1 + 1 + 32) j) ∧ (∀ t, t < 64 → S'.2.1 2 t = shaW kC wC0 (rtU (nI nl) (S.2.1 3)) (0 + 1 + 1 + 32) t) ∧ S'.1 0 4 = nI (padL (0 + 1 + 1 + 32) / 64)) := by
  refine CtV_of (by decide) (Nat.le_of_ble_eq_true rfl) ?_
  intro p e s m args below meth c A ls R Q hB hRf hRl hend
  obtain ⟨hx, hbc, hr, hg, hown, hml, hlk, w, hE, hl⟩ := hB
  have hl : lv_has ls 3 [(0, .ref (ad (0))), (1, .int (nI (nl))), (2, .ref (ad (3)))] := hl
  have hO := oth.rf S
  refine lv_aload_n hx hbc dX7_digestRoot_0 rfl (lv_at hl 0 rfl) ?_
  refine va_gets hx hbc hE.2.1.1 w.2.2.2.1 hown (hg _ wk_383) (fun _ h9 => h9) dX7_digestRoot_1 ?_
  refine wc_Vv (na := 1) (f := id) (As := [.ref (al 1)]) (rest := []) hx hbc hml hg hown w (EC_ok al) hE w.1 (sub3A (hM_mi 32) (by decide)) 0 (by decide) rfl rfl (k_mbegin1 l D cy ad al (S)) wk_275 wk_3 wk_384 wk_273 wk_274 ⟨by decide, by decide, by decide⟩ ⟨by rw [hRf]; decide, by rw [hRl]; decide⟩ rfl hl.1 rfl (Nat.le_of_ble_eq_true rfl) dX7_digestRoot_4 ⟨Nat.zero_le _, Nat.zero_le _⟩ (fun S9 hp H locs w => ?_)
  subst hp
  have w : WB D (tyM cy) 4 cy ad (skMi 32) A s (mgS S (mbg S wC0)) H locs := w _ (sub3T (hM_mi 32) _)
  have hI : MI (mgS S (mbg S wC0)) wC0 (rtU (nI nl) (S.2.1 3)) 0 := mg_MI (mbg_MI _ _ _)
  have hC : (mgS S (mbg S wC0)).1 0 3 = nI 0 := rfl
  have hO := hO.mg (mbg S wC0)
  obtain ⟨S_1, eS_1⟩ : ∃ z, z = mgS S (mbg S wC0) := ⟨_, rfl⟩
  rw [← eS_1] at w hI hC hO
  refine lv_aload_n hx hbc dX7_digestRoot_7 rfl (lv_at hl 0 rfl) ?_
  refine lv_iconst (v := nI (2)) hx hbc dX7_digestRoot_8 (by decide) ?_
  refine wc_Vv (na := 1) (f := id) (As := [.int (nI (2))]) (rest := []) hx hbc hml hg hown w (EC_ok al) hE w.1 (sub3A (hM_mi 32) (by decide)) 0 (by decide) rfl rfl (k_mtakeByte l D cy ad al (S_1) (nI (2)) wC0 (rtU (nI nl) (S.2.1 3)) 0 0 hI (nand255 (by decide)) hC) wk_314 wk_3 wk_385 wk_312 wk_313 ⟨by decide, by decide, by decide⟩ ⟨by rw [hRf]; decide, by rw [hRl]; decide⟩ rfl hl.1 rfl (Nat.le_of_ble_eq_true rfl) dX7_digestRoot_9 ⟨Nat.zero_le _, Nat.zero_le _⟩ (fun S9 hp H locs w => ?_)
  have w : WB D (tyM cy) 4 cy ad (skMi 32) A s (mgS S_1 S9) H locs := w _ (sub3T (hM_mi 32) _)
  have hI : MI (mgS S_1 S9) wC0 (rtU (nI nl) (S.2.1 3)) (0 + 1) := mg_MI hp.1
  have hC : (mgS S_1 S9).1 0 3 = nI (0 + 1) := hp.2
  have hO := hO.mg S9
  obtain ⟨S_2, eS_2⟩ : ∃ z, z = mgS S_1 S9 := ⟨_, rfl⟩
  rw [← eS_2] at w hI hC hO
  refine lv_aload_n hx hbc dX7_digestRoot_12 rfl (lv_at hl 0 rfl) ?_
  refine lv_iload_n hx hbc dX7_digestRoot_13 rfl (lv_at hl 1 rfl) ?_
  refine wc_Vv (na := 1) (f := id) (As := [.int (nI (nl))]) (rest := []) hx hbc hml hg hown w (EC_ok al) hE w.1 (sub3A (hM_mi 32) (by decide)) 0 (by decide) rfl rfl (k_mtakeByte l D cy ad al (S_2) (nI (nl)) wC0 (rtU (nI nl) (S.2.1 3)) (0 + 1) (0 + 1) hI (nand255 (by omega)) hC) wk_314 wk_3 wk_385 wk_312 wk_313 ⟨by decide, by decide, by decide⟩ ⟨by rw [hRf]; decide, by rw [hRl]; decide⟩ rfl hl.1 rfl (Nat.le_of_ble_eq_true rfl) dX7_digestRoot_14 ⟨Nat.zero_le _, Nat.zero_le _⟩ (fun S9 hp H locs w => ?_)
  have w : WB D (tyM cy) 4 cy ad (skMi 32) A s (mgS S_2 S9) H locs := w _ (sub3T (hM_mi 32) _)
  have hI : MI (mgS S_2 S9) wC0 (rtU (nI nl) (S.2.1 3)) (0 + 1 + 1) := mg_MI hp.1
  have hC : (mgS S_2 S9).1 0 3 = nI (0 + 1 + 1) := hp.2
  have hO := hO.mg S9
  obtain ⟨S_3, eS_3⟩ : ∃ z, z = mgS S_2 S9 := ⟨_, rfl⟩
  rw [← eS_3] at w hI hC hO
  refine lv_aload_n hx hbc dX7_digestRoot_17 rfl (lv_at hl 0 rfl) ?_
  refine lv_aload_n hx hbc dX7_digestRoot_18 rfl (lv_at hl 2 rfl) ?_
  refine lv_bipush (v := nI (32)) hx hbc dX7_digestRoot_19 (by decide) ?_
  refine wc_Vv (na := 2) (f := (fM 3)) (As := [.ref (ad (3)), .int (nI (32))]) (rest := []) hx hbc hml hg hown w (EC_ok al) hE w.1 (sub4A (hM_mi 32) (by decide) (by decide) (g := fun _ => none) rfl) 0 (by decide) rfl rfl (k_mtake l D cy (fun k => ad (fM 3 k)) al (sM (S_3) 3) 32 (by decide) 32 (by omega) wC0 (rtU (nI nl) (S.2.1 3)) (0 + 1 + 1) (0 + 1 + 1) hI (fun k hk => (by show S_3.2.1 3 k &&& nI 255 = _; rw [(hO 3 (by decide)).2]; exact (rtU_at _ _ k).symm)) hC) wk_280 wk_3 wk_386 wk_278 wk_279 ⟨by decide, by decide, by decide⟩ ⟨by rw [hRf]; decide, by rw [hRl]; decide⟩ rfl hl.1 rfl (Nat.le_of_ble_eq_true rfl) dX7_digestRoot_21 ⟨Nat.zero_le _, Nat.zero_le _⟩ (fun S9 hp H locs w => ?_)
  have w : WB D (tyM cy) 4 cy ad (skMi 32) A s (mgS S_3 S9) H locs := w _ (sub4T (hM_mi 32) (by decide) (g := fun _ => none) rfl (fun k hk => (if_pos hk).symm) (fun k hk => (if_pos hk).symm) hp.2.2.symm (fun i hi _ => ⟨if_neg (by omega), if_neg (by omega), rfl⟩))
  have hI : MI (mgS S_3 S9) wC0 (rtU (nI nl) (S.2.1 3)) (0 + 1 + 1 + 32) := mg_MI hp.1
  have hC : (mgS S_3 S9).1 0 3 = nI (0 + 1 + 1 + 32) := hp.2.1
  have hO := hO.mg S9
  obtain ⟨S_4, eS_4⟩ : ∃ z, z = mgS S_3 S9 := ⟨_, rfl⟩
  rw [← eS_4] at w hI hC hO
  refine lv_aload_n hx hbc dX7_digestRoot_24 rfl (lv_at hl 0 rfl) ?_
  refine wc_Vv (na := 0) (f := id) (As := []) (rest := []) hx hbc hml hg hown w (EC_ok al) hE w.1 (sub3A (hM_mi 32) (by decide)) 0 (by decide) rfl rfl (k_mfinish l D cy ad al (S_4) wC0 (rtU (nI nl) (S.2.1 3)) (0 + 1 + 1 + 32) hI hC) wk_301 wk_3 wk_387 wk_299 wk_300 ⟨by decide, by decide, by decide⟩ ⟨by rw [hRf]; decide, by rw [hRl]; decide⟩ rfl hl.1 rfl (Nat.le_of_ble_eq_true rfl) dX7_digestRoot_25 ⟨Nat.zero_le _, Nat.zero_le _⟩ (fun S9 hp H locs w => ?_)
  have w : WB D (tyM cy) 4 cy ad (skMi 32) A s (mgS S_4 S9) H locs := w _ (sub3T (hM_mi 32) _)
  have hI : MI (mgS S_4 S9) wC0 (padM (rtU (nI nl) (S.2.1 3)) (0 + 1 + 1 + 32)) (padL (0 + 1 + 1 + 32)) := mg_MI hp.1
  have hC : (mgS S_4 S9).1 0 3 = nI (0 + 1 + 1 + 32) := hp.2
  have hO := hO.mg S9
  obtain ⟨S_5, eS_5⟩ : ∃ z, z = mgS S_4 S9 := ⟨_, rfl⟩
  rw [← eS_5] at w hI hC hO
  exact hend (S_5) _ _ _ _ ⟨hO, hI.fin⟩ w dX7_digestRoot_28
