set_option maxHeartbeats 1000000 in
set_option maxRecDepth 100000 in
theorem k_D_spotOf (l : Launch) (D : va_G) (cy : Nat → ClassId) (ad al : Nat → Nat) (S : wS) (t : Nat) (ht : S.1 58 1 = nI t) (ht2 : t ≤ 200) : CtI l yX7_spotOf (Cond.code yX7_spotOf cX7_spotOf 2 (some .int) :: wsG) 5 122 [.ref (ad (57)), .ref (ad (58))] D (tyC cy) 322 cy ad skD (EC al) (S) (fun r S' => r = spD t (S.2.1 59) ∧ wr1 S S' 56 (spH t (S.2.1 59))) := by
  refine CtI_of (by decide) (Nat.le_of_ble_eq_true rfl) ?_
  intro p e s m args below meth c A ls R Q hB hRf hRl hend
  obtain ⟨hx, hbc, hr, hg, hown, hml, hlk, w, hE, hl⟩ := hB
  have hl : lv_has ls 2 [(0, .ref (ad (57))), (1, .ref (ad (58)))] := hl
  have hO := oth.rf S
  refine lv_aload_n hx hbc dX7_spotOf_0 rfl (lv_at hl 0 rfl) ?_
  refine wb_gr (t := 0) hx hbc hg hown w inG_X7 57 (by decide) rfl rfl 2 (by decide) rfl wk_207 dX7_spotOf_1 ?_
  refine va_gets hx hbc hE.2.1.1 w.2.2.2.1 hown (hg _ wk_383) (fun _ h9 => h9) dX7_spotOf_4 ?_
  refine wc_Vv (na := 1) (f := id) (As := [.ref (al 1)]) (rest := []) hx hbc hml hg hown w (EC_ok al) hE (w.1.sub (tys' := tyM cy) [0, 1, 2] rfl) (sub3A hM_D (by decide)) 0 (by decide) rfl rfl (k_mbegin1 l D cy ad al (S)) wk_275 wk_3 wk_384 wk_273 wk_274 ⟨by decide, by decide, by decide⟩ ⟨by rw [hRf]; decide, by rw [hRl]; decide⟩ rfl hl.1 rfl (Nat.le_of_ble_eq_true rfl) dX7_spotOf_7 ⟨Nat.zero_le _, Nat.zero_le _⟩ (fun S9 hp H locs w => ?_)
  subst hp
  have w : WB D (tyC cy) 322 cy ad skD A s (mgS S (mbg S wC0)) H locs := w _ (sub3T hM_D _)
  have hI : MI (mgS S (mbg S wC0)) wC0 (ub (S.2.1 59)) 0 := mg_MI (mbg_MI _ _ _)
  have hC : (mgS S (mbg S wC0)).1 0 3 = nI 0 := rfl
  have hO := hO.mg (mbg S wC0)
  obtain ⟨S_1, eS_1⟩ : ∃ z, z = mgS S (mbg S wC0) := ⟨_, rfl⟩
  rw [← eS_1] at w hI hC hO
  refine lv_aload_n hx hbc dX7_spotOf_10 rfl (lv_at hl 0 rfl) ?_
  refine wb_gr (t := 0) hx hbc hg hown w inG_X7 57 (by decide) rfl rfl 2 (by decide) rfl wk_207 dX7_spotOf_11 ?_
  refine lv_aload_n hx hbc dX7_spotOf_14 rfl (lv_at hl 1 rfl) ?_
  refine wb_gr (t := 59) hx hbc hg hown w inG_X0 58 (by decide) rfl rfl 0 (by decide) rfl wk_35 dX7_spotOf_15 ?_
  refine lv_aload_n hx hbc dX7_spotOf_18 rfl (lv_at hl 1 rfl) ?_
  refine wb_gi (v := nI (t)) hx hbc hg hown w inG_X0 58 (by decide) rfl rfl 1 (by decide) rfl wk_38 ((congrFun (hO 58 (by decide)).1 1).trans ht) dX7_spotOf_19 ?_
  refine wc_Vv (na := 2) (f := (fM 59)) (As := [.ref (ad (59)), .int (nI (t))]) (rest := []) hx hbc hml hg hown w (EC_ok al) hE (w.1.sub (tys' := tyM cy) [0, 1, 2] rfl) (sub4A hM_D (by decide) (by decide) (g := fun _ => none) rfl) 0 (by decide) rfl rfl (k_mtake l D cy (fun k => ad (fM 59 k)) al (sM (S_1) 59) 200 (by decide) t (by omega) wC0 (ub (S.2.1 59)) 0 0 hI (fun k hk => (by show S_1.2.1 59 k &&& nI 255 = _; rw [(hO 59 (by decide)).2, Nat.zero_add]; rfl)) hC) wk_280 wk_3 wk_386 wk_278 wk_279 ⟨by decide, by decide, by decide⟩ ⟨by rw [hRf]; decide, by rw [hRl]; decide⟩ rfl hl.1 rfl (Nat.le_of_ble_eq_true rfl) dX7_spotOf_22 ⟨Nat.zero_le _, Nat.zero_le _⟩ (fun S9 hp H locs w => ?_)
  have w : WB D (tyC cy) 322 cy ad skD A s (mgS S_1 S9) H locs := w _ (sub4T hM_D (by decide) (g := fun _ => none) rfl (fun k hk => (if_pos hk).symm) (fun k hk => (if_pos hk).symm) hp.2.2.symm (fun i hi _ => ⟨if_neg (by omega), if_neg (by omega), rfl⟩))
  have hI : MI (mgS S_1 S9) wC0 (ub (S.2.1 59)) (0 + t) := mg_MI hp.1
  have hC : (mgS S_1 S9).1 0 3 = nI (0 + t) := hp.2.1
  have hO := hO.mg S9
  obtain ⟨S_2, eS_2⟩ : ∃ z, z = mgS S_1 S9 := ⟨_, rfl⟩
  rw [← eS_2] at w hI hC hO
  refine lv_aload_n hx hbc dX7_spotOf_25 rfl (lv_at hl 0 rfl) ?_
  refine wb_gr (t := 0) hx hbc hg hown w inG_X7 57 (by decide) rfl rfl 2 (by decide) rfl wk_207 dX7_spotOf_26 ?_
  refine wc_Vv (na := 0) (f := id) (As := []) (rest := []) hx hbc hml hg hown w (EC_ok al) hE (w.1.sub (tys' := tyM cy) [0, 1, 2] rfl) (sub3A hM_D (by decide)) 0 (by decide) rfl rfl (k_mfinish l D cy ad al (S_2) wC0 (ub (S.2.1 59)) (0 + t) hI hC) wk_301 wk_3 wk_387 wk_299 wk_300 ⟨by decide, by decide, by decide⟩ ⟨by rw [hRf]; decide, by rw [hRl]; decide⟩ rfl hl.1 rfl (Nat.le_of_ble_eq_true rfl) dX7_spotOf_29 ⟨Nat.zero_le _, Nat.zero_le _⟩ (fun S9 hp H locs w => ?_)
  have w : WB D (tyC cy) 322 cy ad skD A s (mgS S_2 S9) H locs := w _ (sub3T hM_D _)
  have hI : MI (mgS S_2 S9) wC0 (padM (ub (S.2.1 59)) (0 + t)) (padL (0 + t)) := mg_MI hp.1
  have hC : (mgS S_2 S9).1 0 3 = nI (0 + t) := hp.2
  have hO := hO.mg S9
  obtain ⟨S_3, eS_3⟩ : ∃ z, z = mgS S_2 S9 := ⟨_, rfl⟩
  rw [← eS_3] at w hI hC hO
  refine lv_aload_n hx hbc dX7_spotOf_32 rfl (lv_at hl 0 rfl) ?_
  refine wb_gr (t := 0) hx hbc hg hown w inG_X7 57 (by decide) rfl rfl 2 (by decide) rfl wk_207 dX7_spotOf_33 ?_
  refine lv_aload_n hx hbc dX7_spotOf_36 rfl (lv_at hl 0 rfl) ?_
  refine wb_gr (t := 56) hx hbc hg hown w inG_X7 57 (by decide) rfl rfl 9 (by decide) rfl wk_214 dX7_spotOf_37 ?_
  refine lv_bipush (v := nI (32)) hx hbc dX7_spotOf_40 (by decide) ?_
  refine wc_Vv (na := 2) (f := (fM 56)) (As := [.ref (ad (56)), .int (nI (32))]) (rest := []) hx hbc hml hg hown w (EC_ok al) hE (w.1.sub (tys' := tyM cy) [0, 1, 2] rfl) (sub4A hM_D (by decide) (by decide) (g := fun _ => none) rfl) 0 (by decide) rfl rfl (k_mwrite l D cy (fun k => ad (fM 56 k)) al (sM (S_3) 56) 32 (by decide) 32 (by omega) (by omega)) wk_306 wk_3 wk_388 wk_304 wk_305 ⟨by decide, by decide, by decide⟩ ⟨by rw [hRf]; decide, by rw [hRl]; decide⟩ rfl hl.1 rfl (Nat.le_of_ble_eq_true rfl) dX7_spotOf_42 ⟨Nat.zero_le _, Nat.zero_le _⟩ (fun S9 hp H locs w => ?_)
  subst hp
  have w : WB D (tyC cy) 322 cy ad skD A s (sB S_3 56 (cps (S_3.2.1 56) (sbH (S_3.2.1 1)) 32)) H locs := w _ (sub4T hM_D (by decide) (g := fun _ => none) rfl (fun k hk => (by rcases (show k = 0 ∨ k = 1 ∨ k = 2 by omega) with rfl | rfl | rfl <;> rfl)) (fun k hk => (by rcases (show k = 0 ∨ k = 1 ∨ k = 2 by omega) with rfl | rfl | rfl <;> rfl)) rfl (fun i hi hc => ⟨rfl, by simp [sB, va_up, hc], rfl⟩))
  refine lv_aload_n hx hbc dX7_spotOf_45 rfl (lv_at hl 0 rfl) ?_
  refine wb_gr (t := 56) hx hbc hg hown w inG_X7 57 (by decide) rfl rfl 9 (by decide) rfl wk_214 dX7_spotOf_46 ?_
  refine lv_bipush (v := nI (31)) hx hbc dX7_spotOf_49 (by decide) ?_
  refine wb_bald (k := 31) (v := (cps (S_3.2.1 56) (sbH (S_3.2.1 1)) 32) 31) hx hbc w 56 (by decide) rfl 1 rfl rfl (by omega) (by decide) rfl dX7_spotOf_51 ?_
  refine lv_bipush (v := nI (15)) hx hbc dX7_spotOf_52 (by decide) ?_
  refine lv_iand hx hbc dX7_spotOf_54 ?_
  exact hend _ (sB S_3 56 (cps (S_3.2.1 56) (sbH (S_3.2.1 1)) 32)) _ _ _ _ ⟨congrArg (fun z => z &&& nI 15) (show cps _ _ 32 31 = _ by rw [cps_at, if_pos (by decide)]; exact sbH_cg hI.fin.1 31 (by decide)), ⟨fun i hi hc => ⟨(hO i hi).1, (show va_up _ 56 _ i = _ by simp [va_up, hc]; exact (hO i hi).2)⟩, fun k hk => (show cps _ _ 32 k = _ by rw [cps_at, if_pos hk]; exact sbH_cg hI.fin.1 k hk)⟩⟩ rfl w dX7_spotOf_55
set_option maxHeartbeats 1000000 in
set_option maxRecDepth 100000 in
theorem k_D_setLeaf (l : Launch) (D : va_G) (cy : Nat → ClassId) (ad al : Nat → Nat) (S : wS) (tr lf kd : Nat) (htr : tr < 4) (hlf : lf < 12) (hkd : kd < 8) (t : Nat) (ht : S.1 58 1 = nI t) (ht2 : t ≤ 40) : CtV l yX7_setLeaf (Cond.code yX7_setLeaf cX7_setLeaf 4 none :: wsG) 6 145 [.ref (ad (57)), .ref (ad (38 + 3 * tr)), .int (nI (lf)), .int (nI (kd))] D (tyC cy) 322 cy ad skD (EC al) (S) (fun S' => slP S tr lf kd t S') := by
  refine CtV_of (by decide) (Nat.le_of_ble_eq_true rfl) ?_
  intro p e s m args below meth c A ls R Q hB hRf hRl hend
  obtain ⟨hx, hbc, hr, hg, hown, hml, hlk, w, hE, hl⟩ := hB
  have hl : lv_has ls 4 [(0, .ref (ad (57))), (1, .ref (ad (38 + 3 * tr))), (2, .int (nI (lf))), (3, .int (nI (kd)))] := hl
  refine lv_aload_n hx hbc dX7_setLeaf_0 rfl (lv_at hl 1 rfl) ?_
  refine wb_gr (t := (39 + 3 * tr)) hx hbc hg hown w inG_X6 (38 + 3 * tr) (by omega) (skD_T _ (by omega)) rfl 0 (by decide) rfl wk_191 dX7_setLeaf_1 ?_
  refine lv_iload_n hx hbc dX7_setLeaf_4 rfl (lv_at hl 2 rfl) ?_
  refine lv_iload_n hx hbc dX7_setLeaf_5 rfl (lv_at hl 3 rfl) ?_
  refine wb_iast (k := lf) (f := S.2.1 (39 + 3 * tr)) hx hbc w (39 + 3 * tr) (by omega) (skD_Tk _ (by omega)) 0 rfl rfl (by omega) (by decide) rfl rfl dX7_setLeaf_6 (fun H locs w => ?_)
  refine lv_aload_n hx hbc dX7_setLeaf_7 rfl (lv_at hl 0 rfl) ?_
  refine wb_gr (t := 0) hx hbc hg hown w inG_X7 57 (by decide) rfl rfl 2 (by decide) rfl wk_207 dX7_setLeaf_8 ?_
  refine lv_iload_n hx hbc dX7_setLeaf_11 rfl (lv_at hl 3 rfl) ?_
  refine lv_aload_n hx hbc dX7_setLeaf_12 rfl (lv_at hl 0 rfl) ?_
  refine wb_gr (t := 58) hx hbc hg hown w inG_X7 57 (by decide) rfl rfl 0 (by decide) rfl wk_205 dX7_setLeaf_13 ?_
  refine lv_aload_n hx hbc dX7_setLeaf_16 rfl (lv_at hl 1 rfl) ?_
  refine wb_gr (t := (40 + 3 * tr)) hx hbc hg hown w inG_X6 (38 + 3 * tr) (by omega) (skD_T _ (by omega)) rfl 1 (by decide) rfl wk_194 dX7_setLeaf_17 ?_
  refine lv_iload_n hx hbc dX7_setLeaf_20 rfl (lv_at hl 2 rfl) ?_
  refine wb_aaldA (k := lf) (t := 182 + 24 * tr + lf) hx hbc w (40 + 3 * tr) (by omega) (skD_Tn _ (by omega)) (by decide) 5 rfl rfl (by omega) (by decide) rfl dX7_setLeaf_21 ?_
  have hli := lieLf (182 + 24 * tr + lf) (by omega) (by omega) (skD_t _ _ (by omega) (by omega))
  refine wc_Sv (na := 4) (f := (fLf (182 + 24 * tr + lf))) (As := [.ref (ad (0)), .int (nI (kd)), .ref (ad (58)), .ref (ad (182 + 24 * tr + lf))]) (rest := []) hx hbc hml hg hown w (EC_ok al) hE (w.1.sub (tys' := tyM cy) [0, 1, 2] rfl) hli.A (k_digestLeaf l D cy (fun z9 => ad (fLf (182 + 24 * tr + lf) z9)) al (pul (sB S (39 + 3 * tr) (upd (S.2.1 (39 + 3 * tr)) lf (nI (kd)))) (fLf (182 + 24 * tr + lf))) kd t (by omega) (show (sB S (39 + 3 * tr) (upd (S.2.1 (39 + 3 * tr)) lf (nI (kd)))).1 58 1 = nI t from (Eq.trans (by simp only [sI, sB, va_up]; first | rfl | (repeat first | rw [if_pos rfl] | rw [if_neg (by omega)])) ht)) (by omega)) wk_382 wk_1 wk_380 wk_381 ⟨by decide, by decide, by decide⟩ ⟨by rw [hRf]; decide, by rw [hRl]; decide⟩ rfl hl.1 rfl (Nat.le_of_ble_eq_true rfl) dX7_setLeaf_22 ⟨Nat.zero_le _, Nat.zero_le _⟩ (fun S9 hp H locs w => ?_)
  have hw9 : wr1 (sB S (39 + 3 * tr) (upd (S.2.1 (39 + 3 * tr)) lf (nI (kd)))) (psh (sB S (39 + 3 * tr) (upd (S.2.1 (39 + 3 * tr)) lf (nI (kd)))) (fiLf (182 + 24 * tr + lf)) S9) (182 + 24 * tr + lf) (lfD kd t (S.2.1 59)) := by have e59 : (sB S (39 + 3 * tr) (upd (S.2.1 (39 + 3 * tr)) lf (nI (kd)))).2.1 59 = S.2.1 59 := (by simp only [sI, sB, va_up]; first | rfl | (repeat first | rw [if_pos rfl] | rw [if_neg (by omega)])); rw [← e59]; have h8 := wr1_of (ct := 5) hli (fun k hk hk2 => (by rcases (show k = 3 ∨ k = 4 ∨ k = 5 by omega) with rfl | rfl | rfl <;> simp only [fLf] <;> omega)) (fun k hk => (by rcases (show k = 0 ∨ k = 1 ∨ k = 2 by omega) with rfl | rfl | rfl <;> rfl)) ⟨by decide, by decide⟩ hp; exact h8
  have w : WB D (tyC cy) 322 cy ad skD A s (psh (sB S (39 + 3 * tr) (upd (S.2.1 (39 + 3 * tr)) lf (nI (kd)))) (fiLf (182 + 24 * tr + lf)) S9) H locs := w _ (hli.T _)
  obtain ⟨T_1, eT_1⟩ : ∃ z, z = psh (sB S (39 + 3 * tr) (upd (S.2.1 (39 + 3 * tr)) lf (nI (kd)))) (fiLf (182 + 24 * tr + lf)) S9 := ⟨_, rfl⟩
  rw [← eT_1] at w hw9
  refine lv_aload_n hx hbc dX7_setLeaf_25 rfl (lv_at hl 0 rfl) ?_
  refine wb_gr (t := 58) hx hbc hg hown w inG_X7 57 (by decide) rfl rfl 0 (by decide) rfl wk_205 dX7_setLeaf_26 ?_
  refine lv_iconst (v := nI (0)) hx hbc dX7_setLeaf_29 (by decide) ?_
  refine wb_pi (v := nI (0)) hx hbc hg hown w inG_X0 tyX0 tyX0_ok nmX0 58 (by decide) rfl rfl 1 (by decide) rfl wk_38 rfl rfl rfl rfl dX7_setLeaf_30 (fun H locs w => ?_)
  exact hend (sI T_1 58 1 (nI (0))) _ _ _ _ ⟨_, hw9, rfl⟩ w dX7_setLeaf_33
set_option maxHeartbeats 1000000 in
set_option maxRecDepth 100000 in
theorem k_D_leaf (l : Launch) (D : va_G) (cy : Nat → ClassId) (ad al : Nat → Nat) (S : wS) (a x : Int32) (t : Nat) (ht : S.1 58 1 = nI t) (ht2 : t ≤ 200) (lv : Nat → Nat) (hlv : ∀ j, j < 4 → S.1 (38 + 3 * j) 2 = nI (lv j) ∧ lv j ≤ 12) : CtI l yX7_leaf (Cond.code yX7_leaf cX7_leaf 4 (some .int) :: wsG) 7 168 [.ref (ad (57)), .int (a), .int (x)] D (tyC cy) 322 cy ad skD (EC al) (S) (fun r S' => ((oor a 4 ∨ oor x 8 ∨ 40 < t) ∧ r = (-102) ∧ S' = S) ∨ (∃ tr kd, tr < 4 ∧ kd < 8 ∧ a = nI tr ∧ x = nI kd ∧ t ≤ 40 ∧ lv tr = 12 ∧ r = (-103) ∧ S' = S) ∨ (∃ tr kd, tr < 4 ∧ kd < 8 ∧ a = nI tr ∧ x = nI kd ∧ t ≤ 40 ∧ lv tr < 12 ∧ r = nI (lv tr + 1) ∧ ∃ T, slP S tr (lv tr) kd t T ∧ S' = sI T (38 + 3 * tr) 2 (nI (lv tr + 1)))) := by
  refine CtI_of (by decide) (Nat.le_of_ble_eq_true rfl) ?_
  intro p e s m args below meth c A ls R Q hB hRf hRl hend
  obtain ⟨hx, hbc, hr, hg, hown, hml, hlk, w, hE, hl⟩ := hB
  have hl : lv_has ls 4 [(0, .ref (ad (57))), (1, .int (a)), (2, .int (x))] := hl
  refine lv_iload_n hx hbc dX7_leaf_0 rfl (lv_at hl 1 rfl) ?_
  refine wb_Si (na := 1) (As := [.int (a)]) (rest := []) hx hbc hml hg hown w E0_ok trivial (w.1.sub (tys' := tyM cy) [0, 1, 2] rfl) Sub.none (k_isTree l D cy ad al (S) a) wk_371 wk_1 wk_369 wk_370 ⟨by decide, by decide, by decide⟩ ⟨by rw [hRf]; decide, by rw [hRl]; decide⟩ rfl hl.1 rfl (Nat.le_of_ble_eq_true rfl) dX7_leaf_1 ⟨Nat.zero_le _, Nat.zero_le _⟩ (fun r S9 H locs hp w => ?_)
  subst hp
  refine lv_if_eq (tgt := 15) hx hbc dX7_leaf_4 (by decide) (fun c_4 => ?_) (fun c_4 => ?_)
  · refine lv_bipush (v := (-102)) hx hbc dX7_leaf_15 (by decide) ?_
    exact hend _ _ _ _ _ _ (Or.inl ⟨Or.inl (hsF_oor c_4 (by decide)), rfl, rfl⟩) rfl w dX7_leaf_17
  · obtain ⟨tr, htr, rfl⟩ := hsF_nz c_4 (by decide)
    have hlt := (hlv tr htr).2
    refine lv_aload_n hx hbc dX7_leaf_7 rfl (lv_at hl 0 rfl) ?_
    refine lv_iload_n hx hbc dX7_leaf_8 rfl (lv_at hl 2 rfl) ?_
    refine wb_Vi (na := 1) (As := [.int (x)]) (rest := []) hx hbc hml hg hown w (EC_ok al) hE w.1 Sub.self 57 (by decide) rfl rfl (k_D_isLeaf l D cy ad al (S) x t ht ht2) wk_375 wk_1 wk_372 wk_374 ws_4 ⟨by decide, by decide, by decide⟩ ⟨by rw [hRf]; decide, by rw [hRl]; decide⟩ rfl hl.1 rfl (Nat.le_of_ble_eq_true rfl) dX7_leaf_9 ⟨Nat.zero_le _, Nat.zero_le _⟩ (fun r S9 H locs hp w => ?_)
    rcases hp with ⟨rfl, ⟨kd, hkd, rfl⟩, ht40, hS9⟩ | ⟨rfl, hbad, hS9⟩
    · rw [hS9] at w
      have w : WB D (tyC cy) 322 cy ad skD A s (S) H locs := w
      refine lv_if_ne (tgt := 18) hx hbc dX7_leaf_12 (by decide) (fun c_12 => ?_) (fun c_12 => ?_)
      · refine lv_aload_n hx hbc dX7_leaf_18 rfl (lv_at hl 0 rfl) ?_
        refine wb_gr (t := 37) hx hbc hg hown w inG_X7 57 (by decide) rfl rfl 6 (by decide) rfl wk_211 dX7_leaf_19 ?_
        refine lv_iload_n hx hbc dX7_leaf_22 rfl (lv_at hl 1 rfl) ?_
        refine wb_aald (k := tr) (t := 38 + 3 * tr) hx hbc w 37 (by decide) rfl (by decide) 4 rfl rfl (by omega) (by decide) rfl dX7_leaf_23 ?_
        refine lv_astore_n (lv' := [(3, .ref (ad (38 + 3 * tr))), (0, .ref (ad (57))), (1, .int (nI (tr))), (2, .int (nI (kd)))]) hx hbc dX7_leaf_24 rfl hl (by decide) rfl (fun ls hl => ?_)
        refine lv_aload_n hx hbc dX7_leaf_25 rfl (lv_at hl 0 rfl) ?_
        refine wb_gi (v := nI (lv tr)) hx hbc hg hown w inG_X6 (38 + 3 * tr) (by omega) (skD_T _ (by omega)) rfl 2 (by decide) rfl wk_197 (hlv tr htr).1 dX7_leaf_26 ?_
        refine lv_bipush (v := nI (12)) hx hbc dX7_leaf_29 (by decide) ?_
        refine n_cmp_lt (tgt := 37) (by omega) (by omega) hx hbc dX7_leaf_31 (by decide) (fun c_31 => ?_) (fun c_31 => ?_)
        · refine lv_aload_n hx hbc dX7_leaf_37 rfl (lv_at hl 1 rfl) ?_
          refine lv_aload_n hx hbc dX7_leaf_38 rfl (lv_at hl 0 rfl) ?_
          refine lv_aload_n hx hbc dX7_leaf_39 rfl (lv_at hl 0 rfl) ?_
          refine wb_gi (v := nI (lv tr)) hx hbc hg hown w inG_X6 (38 + 3 * tr) (by omega) (skD_T _ (by omega)) rfl 2 (by decide) rfl wk_197 (hlv tr htr).1 dX7_leaf_40 ?_
          refine lv_iload_n hx hbc dX7_leaf_43 rfl (lv_at hl 3 rfl) ?_
          refine wb_Vv (na := 3) (As := [.ref (ad (38 + 3 * tr)), .int (nI (lv tr)), .int (nI (kd))]) (rest := []) hx hbc hml hg hown w (EC_ok al) hE w.1 Sub.self 57 (by decide) rfl rfl (k_D_setLeaf l D cy ad al (S) tr (lv tr) kd (by omega) (by omega) (by omega) t ht (by omega)) wk_379 wk_1 wk_376 wk_378 ws_5 ⟨by decide, by decide, by decide⟩ ⟨by rw [hRf]; decide, by rw [hRl]; decide⟩ rfl hl.1 rfl (Nat.le_of_ble_eq_true rfl) dX7_leaf_44 ⟨Nat.zero_le _, Nat.zero_le _⟩ (fun S9 H locs hp w => ?_)
          obtain ⟨T, hT, hp⟩ := hp
          subst hp
          have w : WB D (tyC cy) 322 cy ad skD A s (sI T 58 1 (nI 0)) H locs := w
          refine lv_aload_n hx hbc dX7_leaf_47 rfl (lv_at hl 0 rfl) ?_
          refine lv_dup hx hbc dX7_leaf_48 rfl ?_
          refine wb_gi (v := nI (lv tr)) hx hbc hg hown w inG_X6 (38 + 3 * tr) (by omega) (skD_T _ (by omega)) rfl 2 (by decide) rfl wk_197 (Eq.trans (by simp only [sI, sB, va_up]; first | rfl | (repeat first | rw [if_pos rfl] | rw [if_neg (by omega)])) ((congrFun (hT.1 (38 + 3 * tr) (by omega) (by omega)).1 2).trans (hlv tr htr).1)) dX7_leaf_49 ?_
          refine lv_iconst (v := nI (1)) hx hbc dX7_leaf_52 (by decide) ?_
          refine n_iadd hx hbc dX7_leaf_53 ?_
          refine wb_pi (v := nI ((lv tr) + 1)) hx hbc hg hown w inG_X6 tyX6 tyX6_ok nmX6 (38 + 3 * tr) (by omega) (skD_T _ (by omega)) rfl 2 (by decide) rfl wk_197 rfl rfl rfl rfl dX7_leaf_54 (fun H locs w => ?_)
          refine lv_aload_n hx hbc dX7_leaf_57 rfl (lv_at hl 0 rfl) ?_
          refine wb_gi (v := nI ((lv tr) + 1)) hx hbc hg hown w inG_X6 (38 + 3 * tr) (by omega) (skD_T _ (by omega)) rfl 2 (by decide) rfl wk_197 (by simp only [sI, sB, va_up]; first | rfl | (repeat first | rw [if_pos rfl] | rw [if_neg (by omega)])) dX7_leaf_58 ?_
          exact hend _ _ _ _ _ _ (Or.inr (Or.inr ⟨tr, kd, htr, hkd, rfl, rfl, ht40, c_31, rfl, _, ⟨T, hT, rfl⟩, rfl⟩)) rfl w dX7_leaf_61
        · refine lv_bipush (v := (-103)) hx hbc dX7_leaf_34 (by decide) ?_
          exact hend _ _ _ _ _ _ (Or.inr (Or.inl ⟨tr, kd, htr, hkd, rfl, rfl, ht40, (by omega), rfl, rfl⟩)) rfl w dX7_leaf_36
      · exact absurd c_12 (by decide)
    · rw [hS9] at w
      have w : WB D (tyC cy) 322 cy ad skD A s (S) H locs := w
      refine lv_if_ne (tgt := 18) hx hbc dX7_leaf_12 (by decide) (fun c_12 => ?_) (fun c_12 => ?_)
      · exact absurd c_12 (by decide)
      · refine lv_bipush (v := (-102)) hx hbc dX7_leaf_15 (by decide) ?_
        exact hend _ _ _ _ _ _ (Or.inl ⟨Or.inr hbad, rfl, rfl⟩) rfl w dX7_leaf_17
set_option maxHeartbeats 1000000 in
set_option maxRecDepth 100000 in
theorem k_D_change (l : Launch) (D : va_G) (cy : Nat → ClassId) (ad al : Nat → Nat) (S : wS) (a b x : Int32) (t : Nat) (ht : S.1 58 1 = nI t) (ht2 : t ≤ 200) (lv : Nat → Nat) (hlv : ∀ j, j < 4 → S.1 (38 + 3 * j) 2 = nI (lv j) ∧ lv j ≤ 12) : CtI l yX7_change (Cond.code yX7_change cX7_change 5 (some .int) :: wsG) 7 168 [.ref (ad (57)), .int (a), .int (b), .int (x)] D (tyC cy) 322 cy ad skD (EC al) (S) (fun r S' => (oor a 4 ∧ r = (-102) ∧ S' = S) ∨ (∃ tr, tr < 4 ∧ a = nI tr ∧ oor b (lv tr) ∧ r = (-101) ∧ S' = S) ∨ (∃ tr lf, tr < 4 ∧ a = nI tr ∧ b = nI lf ∧ lf < lv tr ∧ (oor x 8 ∨ 40 < t) ∧ r = (-102) ∧ S' = S) ∨ (∃ tr lf kd, tr < 4 ∧ a = nI tr ∧ b = nI lf ∧ lf < lv tr ∧ kd < 8 ∧ x = nI kd ∧ t ≤ 40 ∧ r = S.2.1 (39 + 3 * tr) lf ∧ slP S tr lf kd t S')) := by
  refine CtI_of (by decide) (Nat.le_of_ble_eq_true rfl) ?_
  intro p e s m args below meth c A ls R Q hB hRf hRl hend
  obtain ⟨hx, hbc, hr, hg, hown, hml, hlk, w, hE, hl⟩ := hB
  have hl : lv_has ls 5 [(0, .ref (ad (57))), (1, .int (a)), (2, .int (b)), (3, .int (x))] := hl
  refine lv_iload_n hx hbc dX7_change_0 rfl (lv_at hl 1 rfl) ?_
  refine wb_Si (na := 1) (As := [.int (a)]) (rest := []) hx hbc hml hg hown w E0_ok trivial (w.1.sub (tys' := tyM cy) [0, 1, 2] rfl) Sub.none (k_isTree l D cy ad al (S) a) wk_371 wk_1 wk_369 wk_370 ⟨by decide, by decide, by decide⟩ ⟨by rw [hRf]; decide, by rw [hRl]; decide⟩ rfl hl.1 rfl (Nat.le_of_ble_eq_true rfl) dX7_change_1 ⟨Nat.zero_le _, Nat.zero_le _⟩ (fun r S9 H locs hp w => ?_)
  subst hp
  refine lv_if_ne (tgt := 10) hx hbc dX7_change_4 (by decide) (fun c_4 => ?_) (fun c_4 => ?_)
  · obtain ⟨tr, htr, rfl⟩ := hsF_nz c_4 (by decide)
    have hlt := (hlv tr htr).2
    refine lv_aload_n hx hbc dX7_change_10 rfl (lv_at hl 0 rfl) ?_
    refine wb_gr (t := 37) hx hbc hg hown w inG_X7 57 (by decide) rfl rfl 6 (by decide) rfl wk_211 dX7_change_11 ?_
    refine lv_iload_n hx hbc dX7_change_14 rfl (lv_at hl 1 rfl) ?_
    refine wb_aald (k := tr) (t := 38 + 3 * tr) hx hbc w 37 (by decide) rfl (by decide) 4 rfl rfl (by omega) (by decide) rfl dX7_change_15 ?_
    refine lv_iload_n hx hbc dX7_change_16 rfl (lv_at hl 2 rfl) ?_
    have hli := lie_tr tr (by omega)
    refine wc_Vi (na := 1) (f := (fTr tr)) (As := [.int (b)]) (rest := []) hx hbc hml hg hown w (EC_ok al) hE (w.1.sub (tys' := tyM cy) [0, 1, 2] rfl) hli.A (38 + 3 * tr) (by omega) (skD_T _ (by omega)) rfl (k_thas l D cy (fun z9 => ad (fTr tr z9)) al (pul S (fTr tr)) b (lv tr) (hlv tr htr).1) wk_396 wk_8 wk_393 wk_394 wk_395 ⟨by decide, by decide, by decide⟩ ⟨by rw [hRf]; decide, by rw [hRl]; decide⟩ rfl hl.1 rfl (Nat.le_of_ble_eq_true rfl) dX7_change_17 ⟨Nat.zero_le _, Nat.zero_le _⟩ (fun r S9 hp H locs w => ?_)
    obtain ⟨hr9, hp⟩ := hp
    subst hr9
    subst hp
    have w : WB D (tyC cy) 322 cy ad skD A s (S) H locs := w _ hli.id
    refine lv_if_ne (tgt := 26) hx hbc dX7_change_20 (by decide) (fun c_20 => ?_) (fun c_20 => ?_)
    · obtain ⟨lf, hlf, rfl⟩ := hsF_nz c_20 (by omega)
      refine lv_aload_n hx hbc dX7_change_26 rfl (lv_at hl 0 rfl) ?_
      refine lv_iload_n hx hbc dX7_change_27 rfl (lv_at hl 3 rfl) ?_
      refine wb_Vi (na := 1) (As := [.int (x)]) (rest := []) hx hbc hml hg hown w (EC_ok al) hE w.1 Sub.self 57 (by decide) rfl rfl (k_D_isLeaf l D cy ad al (S) x t ht ht2) wk_375 wk_1 wk_372 wk_374 ws_4 ⟨by decide, by decide, by decide⟩ ⟨by rw [hRf]; decide, by rw [hRl]; decide⟩ rfl hl.1 rfl (Nat.le_of_ble_eq_true rfl) dX7_change_28 ⟨Nat.zero_le _, Nat.zero_le _⟩ (fun r S9 H locs hp w => ?_)
      rcases hp with ⟨rfl, ⟨kd, hkd, rfl⟩, ht40, hS9⟩ | ⟨rfl, hbad, hS9⟩
      · rw [hS9] at w
        have w : WB D (tyC cy) 322 cy ad skD A s (S) H locs := w
        refine lv_if_ne (tgt := 37) hx hbc dX7_change_31 (by decide) (fun c_31 => ?_) (fun c_31 => ?_)
        · refine lv_aload_n hx hbc dX7_change_37 rfl (lv_at hl 0 rfl) ?_
          refine wb_gr (t := 37) hx hbc hg hown w inG_X7 57 (by decide) rfl rfl 6 (by decide) rfl wk_211 dX7_change_38 ?_
          refine lv_iload_n hx hbc dX7_change_41 rfl (lv_at hl 1 rfl) ?_
          refine wb_aald (k := tr) (t := 38 + 3 * tr) hx hbc w 37 (by decide) rfl (by decide) 4 rfl rfl (by omega) (by decide) rfl dX7_change_42 ?_
          refine wb_gr (t := (39 + 3 * tr)) hx hbc hg hown w inG_X6 (38 + 3 * tr) (by omega) (skD_T _ (by omega)) rfl 0 (by decide) rfl wk_191 dX7_change_43 ?_
          refine lv_iload_n hx hbc dX7_change_46 rfl (lv_at hl 2 rfl) ?_
          refine wb_iald (k := lf) (v := (S.2.1 (39 + 3 * tr)) lf) hx hbc w (39 + 3 * tr) (by omega) (skD_Tk _ (by omega)) 0 rfl rfl (by omega) (by decide) rfl dX7_change_47 ?_
          refine lv_istore (lv' := [(4, .int ((S.2.1 (39 + 3 * tr)) lf)), (0, .ref (ad (57))), (1, .int (nI (tr))), (2, .int (nI (lf))), (3, .int (nI (kd)))]) hx hbc dX7_change_48 hl (by decide) rfl (fun ls hl => ?_)
          refine lv_aload_n hx hbc dX7_change_50 rfl (lv_at hl 1 rfl) ?_
          refine lv_aload_n hx hbc dX7_change_51 rfl (lv_at hl 1 rfl) ?_
          refine wb_gr (t := 37) hx hbc hg hown w inG_X7 57 (by decide) rfl rfl 6 (by decide) rfl wk_211 dX7_change_52 ?_
          refine lv_iload_n hx hbc dX7_change_55 rfl (lv_at hl 2 rfl) ?_
          refine wb_aald (k := tr) (t := 38 + 3 * tr) hx hbc w 37 (by decide) rfl (by decide) 4 rfl rfl (by omega) (by decide) rfl dX7_change_56 ?_
          refine lv_iload_n hx hbc dX7_change_57 rfl (lv_at hl 3 rfl) ?_
          refine lv_iload_n hx hbc dX7_change_58 rfl (lv_at hl 4 rfl) ?_
          refine wb_Vv (na := 3) (As := [.ref (ad (38 + 3 * tr)), .int (nI (lf)), .int (nI (kd))]) (rest := []) hx hbc hml hg hown w (EC_ok al) hE w.1 Sub.self 57 (by decide) rfl rfl (k_D_setLeaf l D cy ad al (S) tr lf kd (by omega) (by omega) (by omega) t ht (by omega)) wk_379 wk_1 wk_376 wk_378 ws_5 ⟨by decide, by decide, by decide⟩ ⟨by rw [hRf]; decide, by rw [hRl]; decide⟩ rfl hl.1 rfl (Nat.le_of_ble_eq_true rfl) dX7_change_59 ⟨Nat.zero_le _, Nat.zero_le _⟩ (fun S9 H locs hp w => ?_)
          obtain ⟨T, hT, hp⟩ := hp
          subst hp
          have w : WB D (tyC cy) 322 cy ad skD A s (sI T 58 1 (nI 0)) H locs := w
          refine lv_iload hx hbc dX7_change_62 (lv_at hl 0 rfl) ?_
          exact hend _ _ _ _ _ _ (Or.inr (Or.inr (Or.inr ⟨tr, lf, kd, htr, rfl, rfl, hlf, hkd, rfl, ht40, rfl, ⟨T, hT, rfl⟩⟩))) rfl w dX7_change_64
        · exact absurd c_31 (by decide)
      · rw [hS9] at w
        have w : WB D (tyC cy) 322 cy ad skD A s (S) H locs := w
        refine lv_if_ne (tgt := 37) hx hbc dX7_change_31 (by decide) (fun c_31 => ?_) (fun c_31 => ?_)
        · exact absurd c_31 (by decide)
        · refine lv_bipush (v := (-102)) hx hbc dX7_change_34 (by decide) ?_
          exact hend _ _ _ _ _ _ (Or.inr (Or.inr (Or.inl ⟨tr, lf, htr, rfl, rfl, hlf, hbad, rfl, rfl⟩))) rfl w dX7_change_36
    · refine lv_bipush (v := (-101)) hx hbc dX7_change_23 (by decide) ?_
      exact hend _ _ _ _ _ _ (Or.inr (Or.inl ⟨tr, htr, rfl, hsF_oor c_20 (by omega), rfl, rfl⟩)) rfl w dX7_change_25
  · refine lv_bipush (v := (-102)) hx hbc dX7_change_7 (by decide) ?_
    exact hend _ _ _ _ _ _ (Or.inl ⟨hsF_oor c_4 (by decide), rfl, rfl⟩) rfl w dX7_change_9
set_option maxHeartbeats 1000000 in
set_option maxRecDepth 100000 in
theorem k_D_keep (l : Launch) (D : va_G) (cy : Nat → ClassId) (ad al : Nat → Nat) (S : wS) (t : Nat) (ht : S.1 58 1 = nI t) (ht2 : t ≤ 200) (R9 : Nat) (hR9 : S.1 52 3 = nI R9) (hR2 : R9 ≤ 40) (rz : Nat → Nat) (hrz : ∀ i, i < R9 → S.2.1 54 i = nI (rz i) ∧ rz i ≤ 40) (hfit : ∀ i, fits .byte (.int (S.2.1 59 i)) = true) : CtI l yX7_keep (Cond.code yX7_keep cX7_keep 3 (some .int) :: wsG) 6 143 [.ref (ad (57))] D (tyC cy) 322 cy ad skD (EC al) (S) (fun r S' => (40 < t ∧ r = (-102) ∧ S' = S) ∨ (t ≤ 40 ∧ ∃ T9, wr1 S T9 56 (spH t (S.2.1 59)) ∧ (((∀ i, i < R9 → ¬ ((pul T9 fSs).2.1 3 i = (spD t (S.2.1 59)) ∧ rwIs (pul T9 fSs) rz i t)) ∧ R9 = 40 ∧ r = (-103) ∧ S' = sI T9 52 5 (nI (cnt ((pul T9 fSs).2.1 3) (spD t (S.2.1 59)) R9))) ∨ (∃ k, (k < R9 ∧ (pul T9 fSs).2.1 3 k = (spD t (S.2.1 59)) ∧ rwIs (pul T9 fSs) rz k t ∧ (∀ i, i < k → ¬ ((pul T9 fSs).2.1 3 i = (spD t (S.2.1 59)) ∧ rwIs (pul T9 fSs) rz i t))) ∧ r = nI k ∧ S' = sI (sI (sI T9 52 5 (nI (cnt ((pul T9 fSs).2.1 3) (spD t (S.2.1 59)) (k + 1)))) 52 4 (nI (cnt ((pul T9 fSs).2.1 3) (spD t (S.2.1 59)) (k + 1)))) 58 1 (nI 0)) ∨ ((∀ i, i < R9 → ¬ ((pul T9 fSs).2.1 3 i = (spD t (S.2.1 59)) ∧ rwIs (pul T9 fSs) rz i t)) ∧ R9 < 40 ∧ r = nI R9 ∧ S' = sI (psh (sI (sI T9 52 5 (nI (cnt ((pul T9 fSs).2.1 3) (spD t (S.2.1 59)) R9))) 52 4 (nI (cnt ((pul T9 fSs).2.1 3) (spD t (S.2.1 59)) R9))) fiSs (saS (pul (sI (sI T9 52 5 (nI (cnt ((pul T9 fSs).2.1 3) (spD t (S.2.1 59)) R9))) 52 4 (nI (cnt ((pul T9 fSs).2.1 3) (spD t (S.2.1 59)) R9))) fSs) (spD t (S.2.1 59)) R9 t)) 58 1 (nI 0))))) := by
  refine CtI_of (by decide) (Nat.le_of_ble_eq_true rfl) ?_
  intro p e s m args below meth c A ls R Q hB hRf hRl hend
  obtain ⟨hx, hbc, hr, hg, hown, hml, hlk, w, hE, hl⟩ := hB
  have hl : lv_has ls 3 [(0, .ref (ad (57)))] := hl
  refine lv_aload_n hx hbc dX7_keep_0 rfl (lv_at hl 0 rfl) ?_
  refine wb_gr (t := 58) hx hbc hg hown w inG_X7 57 (by decide) rfl rfl 0 (by decide) rfl wk_205 dX7_keep_1 ?_
  refine wb_gi (v := nI (t)) hx hbc hg hown w inG_X0 58 (by decide) rfl rfl 1 (by decide) rfl wk_38 ht dX7_keep_4 ?_
  refine lv_bipush (v := nI (40)) hx hbc dX7_keep_7 (by decide) ?_
  refine n_cmp_le (tgt := 15) (by omega) (by omega) hx hbc dX7_keep_9 (by decide) (fun c_9 => ?_) (fun c_9 => ?_)
  · refine lv_aload_n hx hbc dX7_keep_15 rfl (lv_at hl 0 rfl) ?_
    refine lv_aload_n hx hbc dX7_keep_16 rfl (lv_at hl 0 rfl) ?_
    refine wb_gr (t := 58) hx hbc hg hown w inG_X7 57 (by decide) rfl rfl 0 (by decide) rfl wk_205 dX7_keep_17 ?_
    refine wb_Vi (na := 1) (As := [.ref (ad (58))]) (rest := []) hx hbc hml hg hown w (EC_ok al) hE w.1 Sub.self 57 (by decide) rfl rfl (k_D_spotOf l D cy ad al (S) t ht ht2) wk_450 wk_1 wk_447 wk_449 ws_6 ⟨by decide, by decide, by decide⟩ ⟨by rw [hRf]; decide, by rw [hRl]; decide⟩ rfl hl.1 rfl (Nat.le_of_ble_eq_true rfl) dX7_keep_20 ⟨Nat.zero_le _, Nat.zero_le _⟩ (fun r S9 H locs hp w => ?_)
    obtain ⟨hr9, hw9⟩ := hp
    subst hr9
    rename wS => T9
    have hRb : T9.1 52 3 = nI R9 := (congrFun (hw9.1 52 (by decide) (by decide)).1 3).trans hR9
    have htb : T9.1 58 1 = nI t := (congrFun (hw9.1 58 (by decide) (by decide)).1 1).trans ht
    have hzb : ∀ i, i < R9 → T9.2.1 54 i = nI (rz i) ∧ rz i ≤ 40 := fun i hi => ⟨(congrFun (hw9.1 54 (by decide) (by decide)).2 i).trans (hrz i hi).1, (hrz i hi).2⟩
    have w : WB D (tyC cy) 322 cy ad skD A s (T9) H locs := w
    refine lv_istore_n (lv' := [(1, .int (spD t (S.2.1 59))), (0, .ref (ad (57)))]) hx hbc dX7_keep_23 rfl hl (by decide) rfl (fun ls hl => ?_)
    refine lv_aload_n hx hbc dX7_keep_24 rfl (lv_at hl 1 rfl) ?_
    refine wb_gr (t := 52) hx hbc hg hown w inG_X7 57 (by decide) rfl rfl 8 (by decide) rfl wk_213 dX7_keep_25 ?_
    refine lv_aload_n hx hbc dX7_keep_28 rfl (lv_at hl 1 rfl) ?_
    refine wb_gr (t := 58) hx hbc hg hown w inG_X7 57 (by decide) rfl rfl 0 (by decide) rfl wk_205 dX7_keep_29 ?_
    refine lv_iload_n hx hbc dX7_keep_32 rfl (lv_at hl 0 rfl) ?_
    refine wc_Vi (na := 2) (f := fSs) (As := [.ref (ad (58)), .int (spD t (S.2.1 59))]) (rest := []) hx hbc hml hg hown w (EC_ok al) hE w.1 lieSs.A 52 (by decide) rfl rfl (k_storeSeek l D cy (fun z9 => ad (fSs z9)) al (pul T9 fSs) (spD t (S.2.1 59)) R9 t hRb hR2 htb (by omega) rz hzb) wk_454 wk_7 wk_451 wk_452 wk_453 ⟨by decide, by decide, by decide⟩ ⟨by rw [hRf]; decide, by rw [hRl]; decide⟩ rfl hl.1 rfl (Nat.le_of_ble_eq_true rfl) dX7_keep_33 ⟨Nat.zero_le _, Nat.zero_le _⟩ (fun r S9 hp H locs w => ?_)
    obtain ⟨v9, hv9⟩ : ∃ v9, S9 = sI (pul T9 fSs) 0 5 v9 := by rcases hp with ⟨k, _, _, _, _, _, h⟩ | ⟨_, _, h⟩ <;> exact ⟨_, h⟩
    subst hv9
    have w : WB D (tyC cy) 322 cy ad skD A s (sI T9 52 5 v9) H locs := w _ (lieSs.I (by decide) _ _)
    have hv9 : ∀ v : Int32, sI (pul T9 fSs) 0 5 v9 = sI (pul T9 fSs) 0 5 v → v9 = v := fun v h => congrArg (fun z : wS => z.1 0 5) h
    rcases hp with ⟨k9, hk9, hsp, hri, hno, rfl, hv⟩ | ⟨hno, rfl, hv⟩
    · skip
      refine lv_istore_n (lv' := [(2, .int (nI (k9))), (1, .int (spD t (S.2.1 59))), (0, .ref (ad (57)))]) hx hbc dX7_keep_36 rfl hl (by decide) rfl (fun ls hl => ?_)
      refine lv_iload_n hx hbc dX7_keep_37 rfl (lv_at hl 0 rfl) ?_
      refine lv_iconst (v := (-1)) hx hbc dX7_keep_38 (by decide) ?_
      refine lv_icmp_ne (tgt := 57) hx hbc dX7_keep_39 (by decide) (fun c_39 => ?_) (fun c_39 => ?_)
      · refine lv_aload_n hx hbc dX7_keep_57 rfl (lv_at hl 2 rfl) ?_
        refine wb_gr (t := 52) hx hbc hg hown w inG_X7 57 (by decide) rfl rfl 8 (by decide) rfl wk_213 dX7_keep_58 ?_
        refine lv_aload_n hx hbc dX7_keep_61 rfl (lv_at hl 2 rfl) ?_
        refine wb_gr (t := 52) hx hbc hg hown w inG_X7 57 (by decide) rfl rfl 8 (by decide) rfl wk_213 dX7_keep_62 ?_
        refine wb_gi (v := v9) hx hbc hg hown w inG_X5 52 (by decide) rfl rfl 5 (by decide) rfl wk_170 rfl dX7_keep_65 ?_
        refine wb_pi (v := v9) hx hbc hg hown w inG_X5 tyX5 tyX5_ok nmX5 52 (by decide) rfl rfl 4 (by decide) rfl wk_168 rfl rfl rfl rfl dX7_keep_68 (fun H locs w => ?_)
        refine lv_iload_n hx hbc dX7_keep_71 rfl (lv_at hl 0 rfl) ?_
        refine lv_iconst (v := (-1)) hx hbc dX7_keep_72 (by decide) ?_
        refine lv_icmp_ne (tgt := 89) hx hbc dX7_keep_73 (by decide) (fun c_73 => ?_) (fun c_73 => ?_)
        · refine lv_aload_n hx hbc dX7_keep_89 rfl (lv_at hl 2 rfl) ?_
          refine wb_gr (t := 58) hx hbc hg hown w inG_X7 57 (by decide) rfl rfl 0 (by decide) rfl wk_205 dX7_keep_90 ?_
          refine lv_iconst (v := nI (0)) hx hbc dX7_keep_93 (by decide) ?_
          refine wb_pi (v := nI (0)) hx hbc hg hown w inG_X0 tyX0 tyX0_ok nmX0 58 (by decide) rfl rfl 1 (by decide) rfl wk_38 rfl rfl rfl rfl dX7_keep_94 (fun H locs w => ?_)
          refine lv_iload_n hx hbc dX7_keep_97 rfl (lv_at hl 0 rfl) ?_
          exact hend _ (sI (sI (sI T9 52 5 v9) 52 4 v9) 58 1 (nI (0))) _ _ _ _ (Or.inr ⟨(by omega), T9, hw9, (Or.inr (Or.inl ⟨k9, ⟨hk9, hsp, hri, hno⟩, rfl, (by rw [hv9 _ hv])⟩))⟩) rfl w dX7_keep_98
        · exact absurd c_73 (nI_m1 (by omega))
      · exact absurd c_39 (nI_m1 (by omega))
    · skip
      refine lv_istore_n (lv' := [(2, .int ((-1))), (1, .int (spD t (S.2.1 59))), (0, .ref (ad (57)))]) hx hbc dX7_keep_36 rfl hl (by decide) rfl (fun ls hl => ?_)
      refine lv_iload_n hx hbc dX7_keep_37 rfl (lv_at hl 0 rfl) ?_
      refine lv_iconst (v := (-1)) hx hbc dX7_keep_38 (by decide) ?_
      refine lv_icmp_ne (tgt := 57) hx hbc dX7_keep_39 (by decide) (fun c_39 => ?_) (fun c_39 => ?_)
      · exact absurd c_39 (by decide)
      · refine lv_aload_n hx hbc dX7_keep_42 rfl (lv_at hl 2 rfl) ?_
        refine wb_gr (t := 52) hx hbc hg hown w inG_X7 57 (by decide) rfl rfl 8 (by decide) rfl wk_213 dX7_keep_43 ?_
        refine wb_gi (v := nI (R9)) hx hbc hg hown w inG_X5 52 (by decide) rfl rfl 3 (by decide) rfl wk_167 hRb dX7_keep_46 ?_
        refine lv_bipush (v := nI (40)) hx hbc dX7_keep_49 (by decide) ?_
        refine n_cmp_lt (tgt := 57) (by omega) (by omega) hx hbc dX7_keep_51 (by decide) (fun c_51 => ?_) (fun c_51 => ?_)
        · refine lv_aload_n hx hbc dX7_keep_57 rfl (lv_at hl 2 rfl) ?_
          refine wb_gr (t := 52) hx hbc hg hown w inG_X7 57 (by decide) rfl rfl 8 (by decide) rfl wk_213 dX7_keep_58 ?_
          refine lv_aload_n hx hbc dX7_keep_61 rfl (lv_at hl 2 rfl) ?_
          refine wb_gr (t := 52) hx hbc hg hown w inG_X7 57 (by decide) rfl rfl 8 (by decide) rfl wk_213 dX7_keep_62 ?_
          refine wb_gi (v := v9) hx hbc hg hown w inG_X5 52 (by decide) rfl rfl 5 (by decide) rfl wk_170 rfl dX7_keep_65 ?_
          refine wb_pi (v := v9) hx hbc hg hown w inG_X5 tyX5 tyX5_ok nmX5 52 (by decide) rfl rfl 4 (by decide) rfl wk_168 rfl rfl rfl rfl dX7_keep_68 (fun H locs w => ?_)
          refine lv_iload_n hx hbc dX7_keep_71 rfl (lv_at hl 0 rfl) ?_
          refine lv_iconst (v := (-1)) hx hbc dX7_keep_72 (by decide) ?_
          refine lv_icmp_ne (tgt := 89) hx hbc dX7_keep_73 (by decide) (fun c_73 => ?_) (fun c_73 => ?_)
          · exact absurd c_73 (by decide)
          · refine lv_aload_n hx hbc dX7_keep_76 rfl (lv_at hl 2 rfl) ?_
            refine wb_gr (t := 52) hx hbc hg hown w inG_X7 57 (by decide) rfl rfl 8 (by decide) rfl wk_213 dX7_keep_77 ?_
            refine lv_aload_n hx hbc dX7_keep_80 rfl (lv_at hl 2 rfl) ?_
            refine wb_gr (t := 58) hx hbc hg hown w inG_X7 57 (by decide) rfl rfl 0 (by decide) rfl wk_205 dX7_keep_81 ?_
            refine lv_iload_n hx hbc dX7_keep_84 rfl (lv_at hl 1 rfl) ?_
            refine wc_Vi (na := 2) (f := fSs) (As := [.ref (ad (58)), .int (spD t (S.2.1 59))]) (rest := []) hx hbc hml hg hown w (EC_ok al) hE w.1 lieSs.A 52 (by decide) rfl rfl (k_storeAdd l D cy (fun z9 => ad (fSs z9)) al (pul (sI (sI T9 52 5 v9) 52 4 v9) fSs) (spD t (S.2.1 59)) R9 t hRb (by omega) htb (by omega) (fun i => (by show fits .byte (.int (T9.2.1 59 i)) = true; rw [(hw9.1 59 (by decide) (by decide)).2]; exact hfit i))) wk_459 wk_7 wk_456 wk_457 wk_458 ⟨by decide, by decide, by decide⟩ ⟨by rw [hRf]; decide, by rw [hRl]; decide⟩ rfl hl.1 rfl (Nat.le_of_ble_eq_true rfl) dX7_keep_85 ⟨Nat.zero_le _, Nat.zero_le _⟩ (fun r S9 hp H locs w => ?_)
            obtain ⟨hr9, hp⟩ := hp
            subst hr9
            subst hp
            have w : WB D (tyC cy) 322 cy ad skD A s (psh (sI (sI T9 52 5 v9) 52 4 v9) fiSs (saS (pul (sI (sI T9 52 5 v9) 52 4 v9) fSs) (spD t (S.2.1 59)) R9 t)) H locs := w _ (lieSs.T _)
            refine lv_istore_n (lv' := [(2, .int (nI (R9))), (1, .int (spD t (S.2.1 59))), (0, .ref (ad (57)))]) hx hbc dX7_keep_88 rfl hl (by decide) rfl (fun ls hl => ?_)
            refine lv_aload_n hx hbc dX7_keep_89 rfl (lv_at hl 2 rfl) ?_
            refine wb_gr (t := 58) hx hbc hg hown w inG_X7 57 (by decide) rfl rfl 0 (by decide) rfl wk_205 dX7_keep_90 ?_
            refine lv_iconst (v := nI (0)) hx hbc dX7_keep_93 (by decide) ?_
            refine wb_pi (v := nI (0)) hx hbc hg hown w inG_X0 tyX0 tyX0_ok nmX0 58 (by decide) rfl rfl 1 (by decide) rfl wk_38 rfl rfl rfl rfl dX7_keep_94 (fun H locs w => ?_)
            refine lv_iload_n hx hbc dX7_keep_97 rfl (lv_at hl 0 rfl) ?_
            exact hend _ (sI (psh (sI (sI T9 52 5 v9) 52 4 v9) fiSs (saS (pul (sI (sI T9 52 5 v9) 52 4 v9) fSs) (spD t (S.2.1 59)) R9 t)) 58 1 (nI (0))) _ _ _ _ (Or.inr ⟨(by omega), T9, hw9, (Or.inr (Or.inr ⟨hno, (by omega), rfl, (by rw [hv9 _ hv])⟩))⟩) rfl w dX7_keep_98
        · refine lv_bipush (v := (-103)) hx hbc dX7_keep_54 (by decide) ?_
          exact hend _ (sI T9 52 5 v9) _ _ _ _ (Or.inr ⟨(by omega), T9, hw9, (Or.inl ⟨hno, (by omega), rfl, (by rw [hv9 _ hv])⟩)⟩) rfl w dX7_keep_56
  · refine lv_bipush (v := (-102)) hx hbc dX7_keep_12 (by decide) ?_
    exact hend _ (S) _ _ _ _ (Or.inl ⟨(by omega), rfl, rfl⟩) rfl w dX7_keep_14
set_option maxHeartbeats 1000000 in
set_option maxRecDepth 100000 in
theorem k_D_find (l : Launch) (D : va_G) (cy : Nat → ClassId) (ad al : Nat → Nat) (S : wS) (t : Nat) (ht : S.1 58 1 = nI t) (ht2 : t ≤ 200) (R9 : Nat) (hR9 : S.1 52 3 = nI R9) (hR2 : R9 ≤ 40) (rz : Nat → Nat) (hrz : ∀ i, i < R9 → S.2.1 54 i = nI (rz i) ∧ rz i ≤ 40) : CtI l yX7_find (Cond.code yX7_find cX7_find 2 (some .int) :: wsG) 6 143 [.ref (ad (57))] D (tyC cy) 322 cy ad skD (EC al) (S) (fun r S' => (40 < t ∧ r = (-102) ∧ S' = S) ∨ (t ≤ 40 ∧ ∃ T9, wr1 S T9 56 (spH t (S.2.1 59)) ∧ ((∃ k, (k < R9 ∧ (pul T9 fSs).2.1 3 k = (spD t (S.2.1 59)) ∧ rwIs (pul T9 fSs) rz k t ∧ (∀ i, i < k → ¬ ((pul T9 fSs).2.1 3 i = (spD t (S.2.1 59)) ∧ rwIs (pul T9 fSs) rz i t))) ∧ r = nI k ∧ S' = sI (sI (sI T9 52 5 (nI (cnt ((pul T9 fSs).2.1 3) (spD t (S.2.1 59)) (k + 1)))) 52 4 (nI (cnt ((pul T9 fSs).2.1 3) (spD t (S.2.1 59)) (k + 1)))) 58 1 (nI 0)) ∨ ((∀ i, i < R9 → ¬ ((pul T9 fSs).2.1 3 i = (spD t (S.2.1 59)) ∧ rwIs (pul T9 fSs) rz i t)) ∧ r = (-1) ∧ S' = sI (sI (sI T9 52 5 (nI (cnt ((pul T9 fSs).2.1 3) (spD t (S.2.1 59)) R9))) 52 4 (nI (cnt ((pul T9 fSs).2.1 3) (spD t (S.2.1 59)) R9))) 58 1 (nI 0))))) := by
  refine CtI_of (by decide) (Nat.le_of_ble_eq_true rfl) ?_
  intro p e s m args below meth c A ls R Q hB hRf hRl hend
  obtain ⟨hx, hbc, hr, hg, hown, hml, hlk, w, hE, hl⟩ := hB
  have hl : lv_has ls 2 [(0, .ref (ad (57)))] := hl
  refine lv_aload_n hx hbc dX7_find_0 rfl (lv_at hl 0 rfl) ?_
  refine wb_gr (t := 58) hx hbc hg hown w inG_X7 57 (by decide) rfl rfl 0 (by decide) rfl wk_205 dX7_find_1 ?_
  refine wb_gi (v := nI (t)) hx hbc hg hown w inG_X0 58 (by decide) rfl rfl 1 (by decide) rfl wk_38 ht dX7_find_4 ?_
  refine lv_bipush (v := nI (40)) hx hbc dX7_find_7 (by decide) ?_
  refine n_cmp_le (tgt := 15) (by omega) (by omega) hx hbc dX7_find_9 (by decide) (fun c_9 => ?_) (fun c_9 => ?_)
  · refine lv_aload_n hx hbc dX7_find_15 rfl (lv_at hl 0 rfl) ?_
    refine wb_gr (t := 52) hx hbc hg hown w inG_X7 57 (by decide) rfl rfl 8 (by decide) rfl wk_213 dX7_find_16 ?_
    refine lv_aload_n hx hbc dX7_find_19 rfl (lv_at hl 0 rfl) ?_
    refine wb_gr (t := 58) hx hbc hg hown w inG_X7 57 (by decide) rfl rfl 0 (by decide) rfl wk_205 dX7_find_20 ?_
    refine lv_aload_n hx hbc dX7_find_23 rfl (lv_at hl 0 rfl) ?_
    refine lv_aload_n hx hbc dX7_find_24 rfl (lv_at hl 0 rfl) ?_
    refine wb_gr (t := 58) hx hbc hg hown w inG_X7 57 (by decide) rfl rfl 0 (by decide) rfl wk_205 dX7_find_25 ?_
    refine wb_Vi (na := 1) (As := [.ref (ad (58))]) (rest := [.ref (ad (58)), .ref (ad (52))]) hx hbc hml hg hown w (EC_ok al) hE w.1 Sub.self 57 (by decide) rfl rfl (k_D_spotOf l D cy ad al (S) t ht ht2) wk_450 wk_1 wk_447 wk_449 ws_6 ⟨by decide, by decide, by decide⟩ ⟨by rw [hRf]; decide, by rw [hRl]; decide⟩ rfl hl.1 rfl (Nat.le_of_ble_eq_true rfl) dX7_find_28 ⟨Nat.zero_le _, Nat.zero_le _⟩ (fun r S9 H locs hp w => ?_)
    obtain ⟨hr9, hw9⟩ := hp
    subst hr9
    rename wS => T9
    have hRb : T9.1 52 3 = nI R9 := (congrFun (hw9.1 52 (by decide) (by decide)).1 3).trans hR9
    have htb : T9.1 58 1 = nI t := (congrFun (hw9.1 58 (by decide) (by decide)).1 1).trans ht
    have hzb : ∀ i, i < R9 → T9.2.1 54 i = nI (rz i) ∧ rz i ≤ 40 := fun i hi => ⟨(congrFun (hw9.1 54 (by decide) (by decide)).2 i).trans (hrz i hi).1, (hrz i hi).2⟩
    have w : WB D (tyC cy) 322 cy ad skD A s (T9) H locs := w
    refine wc_Vi (na := 2) (f := fSs) (As := [.ref (ad (58)), .int (spD t (S.2.1 59))]) (rest := []) hx hbc hml hg hown w (EC_ok al) hE w.1 lieSs.A 52 (by decide) rfl rfl (k_storeSeek l D cy (fun z9 => ad (fSs z9)) al (pul T9 fSs) (spD t (S.2.1 59)) R9 t hRb hR2 htb (by omega) rz hzb) wk_454 wk_7 wk_451 wk_452 wk_453 ⟨by decide, by decide, by decide⟩ ⟨by rw [hRf]; decide, by rw [hRl]; decide⟩ rfl hl.1 rfl (Nat.le_of_ble_eq_true rfl) dX7_find_31 ⟨Nat.zero_le _, Nat.zero_le _⟩ (fun r S9 hp H locs w => ?_)
    obtain ⟨v9, hv9⟩ : ∃ v9, S9 = sI (pul T9 fSs) 0 5 v9 := by rcases hp with ⟨k, _, _, _, _, _, h⟩ | ⟨_, _, h⟩ <;> exact ⟨_, h⟩
    subst hv9
    have w : WB D (tyC cy) 322 cy ad skD A s (sI T9 52 5 v9) H locs := w _ (lieSs.I (by decide) _ _)
    have hv9 : ∀ v : Int32, sI (pul T9 fSs) 0 5 v9 = sI (pul T9 fSs) 0 5 v → v9 = v := fun v h => congrArg (fun z : wS => z.1 0 5) h
    rcases hp with ⟨k9, hk9, hsp, hri, hno, rfl, hv⟩ | ⟨hno, rfl, hv⟩
    · skip
      refine lv_istore_n (lv' := [(1, .int (nI (k9))), (0, .ref (ad (57)))]) hx hbc dX7_find_34 rfl hl (by decide) rfl (fun ls hl => ?_)
      refine lv_aload_n hx hbc dX7_find_35 rfl (lv_at hl 1 rfl) ?_
      refine wb_gr (t := 52) hx hbc hg hown w inG_X7 57 (by decide) rfl rfl 8 (by decide) rfl wk_213 dX7_find_36 ?_
      refine lv_aload_n hx hbc dX7_find_39 rfl (lv_at hl 1 rfl) ?_
      refine wb_gr (t := 52) hx hbc hg hown w inG_X7 57 (by decide) rfl rfl 8 (by decide) rfl wk_213 dX7_find_40 ?_
      refine wb_gi (v := v9) hx hbc hg hown w inG_X5 52 (by decide) rfl rfl 5 (by decide) rfl wk_170 rfl dX7_find_43 ?_
      refine wb_pi (v := v9) hx hbc hg hown w inG_X5 tyX5 tyX5_ok nmX5 52 (by decide) rfl rfl 4 (by decide) rfl wk_168 rfl rfl rfl rfl dX7_find_46 (fun H locs w => ?_)
      refine lv_aload_n hx hbc dX7_find_49 rfl (lv_at hl 1 rfl) ?_
      refine wb_gr (t := 58) hx hbc hg hown w inG_X7 57 (by decide) rfl rfl 0 (by decide) rfl wk_205 dX7_find_50 ?_
      refine lv_iconst (v := nI (0)) hx hbc dX7_find_53 (by decide) ?_
      refine wb_pi (v := nI (0)) hx hbc hg hown w inG_X0 tyX0 tyX0_ok nmX0 58 (by decide) rfl rfl 1 (by decide) rfl wk_38 rfl rfl rfl rfl dX7_find_54 (fun H locs w => ?_)
      refine lv_iload_n hx hbc dX7_find_57 rfl (lv_at hl 0 rfl) ?_
      exact hend _ (sI (sI (sI T9 52 5 v9) 52 4 v9) 58 1 (nI (0))) _ _ _ _ (Or.inr ⟨(by omega), T9, hw9, (Or.inl ⟨k9, ⟨hk9, hsp, hri, hno⟩, rfl, (by rw [hv9 _ hv])⟩)⟩) rfl w dX7_find_58
    · skip
      refine lv_istore_n (lv' := [(1, .int ((-1))), (0, .ref (ad (57)))]) hx hbc dX7_find_34 rfl hl (by decide) rfl (fun ls hl => ?_)
      refine lv_aload_n hx hbc dX7_find_35 rfl (lv_at hl 1 rfl) ?_
      refine wb_gr (t := 52) hx hbc hg hown w inG_X7 57 (by decide) rfl rfl 8 (by decide) rfl wk_213 dX7_find_36 ?_
      refine lv_aload_n hx hbc dX7_find_39 rfl (lv_at hl 1 rfl) ?_
      refine wb_gr (t := 52) hx hbc hg hown w inG_X7 57 (by decide) rfl rfl 8 (by decide) rfl wk_213 dX7_find_40 ?_
      refine wb_gi (v := v9) hx hbc hg hown w inG_X5 52 (by decide) rfl rfl 5 (by decide) rfl wk_170 rfl dX7_find_43 ?_
      refine wb_pi (v := v9) hx hbc hg hown w inG_X5 tyX5 tyX5_ok nmX5 52 (by decide) rfl rfl 4 (by decide) rfl wk_168 rfl rfl rfl rfl dX7_find_46 (fun H locs w => ?_)
      refine lv_aload_n hx hbc dX7_find_49 rfl (lv_at hl 1 rfl) ?_
      refine wb_gr (t := 58) hx hbc hg hown w inG_X7 57 (by decide) rfl rfl 0 (by decide) rfl wk_205 dX7_find_50 ?_
      refine lv_iconst (v := nI (0)) hx hbc dX7_find_53 (by decide) ?_
      refine wb_pi (v := nI (0)) hx hbc hg hown w inG_X0 tyX0 tyX0_ok nmX0 58 (by decide) rfl rfl 1 (by decide) rfl wk_38 rfl rfl rfl rfl dX7_find_54 (fun H locs w => ?_)
      refine lv_iload_n hx hbc dX7_find_57 rfl (lv_at hl 0 rfl) ?_
      exact hend _ (sI (sI (sI T9 52 5 v9) 52 4 v9) 58 1 (nI (0))) _ _ _ _ (Or.inr ⟨(by omega), T9, hw9, (Or.inr ⟨hno, rfl, (by rw [hv9 _ hv])⟩)⟩) rfl w dX7_find_58
  · refine lv_bipush (v := (-102)) hx hbc dX7_find_12 (by decide) ?_
    exact hend _ (S) _ _ _ _ (Or.inl ⟨(by omega), rfl, rfl⟩) rfl w dX7_find_14
