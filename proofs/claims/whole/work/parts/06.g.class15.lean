set_option maxHeartbeats 1000000 in
set_option maxRecDepth 100000 in
theorem k_D_root (l : Launch) (D : va_G) (cy : Nat → ClassId) (ad al : Nat → Nat) (S : wS) (a : Int32) (d : Nat) (hd : S.1 31 5 = nI d) (hd2 : d ≤ 60) (lv : Nat → Nat) (hlv : ∀ j, j < 4 → S.1 (38 + 3 * j) 2 = nI (lv j) ∧ lv j ≤ 12) (f : Nat → Nat → Nat → Int32) (hf : ∀ tr, tr < 4 → ∀ a, a < lv tr → ∀ k, k < 32 → S.2.1 (182 + 24 * tr + a) k = sbH (f tr a) k) : CtI l yX7_root (Cond.code yX7_root cX7_root 3 (some .int) :: wsG) 7 170 [.ref (ad (57)), .int (a)] D (tyC cy) 322 cy ad skD (EC al) (S) (fun r S' => (oor a 4 ∧ r = (-102) ∧ S' = S) ∨ (∃ tr, tr < 4 ∧ a = nI tr ∧ d = 60 ∧ r = (-103) ∧ S' = S) ∨ (∃ tr c T9 T10, tr < 4 ∧ a = nI tr ∧ d < 60 ∧ r = nI d ∧ (182 + 24 * tr ≤ c ∧ c < 182 + 24 * tr + 24) ∧ clO S T9 tr (lv tr) ∧ tpP (T9.2.1 c) (lv tr) (topF kC wC0 4 (lv tr) (f tr)) ∧ rtO T9 T10 (lv tr) c ∧ S' = psh T10 fiDA (adS (pul T10 fDA) (nI 0) d rtQ))) := by
  refine CtI_of (by decide) (Nat.le_of_ble_eq_true rfl) ?_
  intro p e s m args below meth c A ls R Q hB hRf hRl hend
  obtain ⟨hx, hbc, hr, hg, hown, hml, hlk, w, hE, hl⟩ := hB
  have hl : lv_has ls 3 [(0, .ref (ad (57))), (1, .int (a))] := hl
  refine lv_iload_n hx hbc dX7_root_0 rfl (lv_at hl 1 rfl) ?_
  refine wb_Si (na := 1) (As := [.int (a)]) (rest := []) hx hbc hml hg hown w E0_ok trivial (w.1.sub (tys' := tyM cy) [0, 1, 2] rfl) Sub.none (k_isTree l D cy ad al (S) a) wk_371 wk_1 wk_369 wk_370 ⟨by decide, by decide, by decide⟩ ⟨by rw [hRf]; decide, by rw [hRl]; decide⟩ rfl hl.1 rfl (Nat.le_of_ble_eq_true rfl) dX7_root_1 ⟨Nat.zero_le _, Nat.zero_le _⟩ (fun r S9 H locs hp w => ?_)
  subst hp
  refine lv_if_ne (tgt := 10) hx hbc dX7_root_4 (by decide) (fun c_4 => ?_) (fun c_4 => ?_)
  · obtain ⟨tr, htr, rfl⟩ := hsF_nz c_4 (by decide)
    have hlt := (hlv tr htr).2
    refine lv_aload_n hx hbc dX7_root_10 rfl (lv_at hl 0 rfl) ?_
    refine wb_gr (t := 31) hx hbc hg hown w inG_X7 57 (by decide) rfl rfl 5 (by decide) rfl wk_210 dX7_root_11 ?_
    refine wc_Vi (na := 0) (f := (fun z9 => z9 + 31)) (As := []) (rest := []) hx hbc hml hg hown w (EC_ok al) hE (w.1.sub (tys' := tyM cy) [0, 1, 2] rfl) lie_sh.A 31 (by decide) rfl rfl (k_sfull l D cy (fun z9 => ad (z9 + 31)) al (pul S (fun z9 => z9 + 31)) d hd hd2) wk_257 wk_5 wk_254 wk_255 wk_256 ⟨by decide, by decide, by decide⟩ ⟨by rw [hRf]; decide, by rw [hRl]; decide⟩ rfl hl.1 rfl (Nat.le_of_ble_eq_true rfl) dX7_root_14 ⟨Nat.zero_le _, Nat.zero_le _⟩ (fun r S9 hp H locs w => ?_)
    obtain ⟨hr9, hp⟩ := hp
    subst hr9
    subst hp
    have w : WB D (tyC cy) 322 cy ad skD A s (S) H locs := w _ lie_sh.id
    refine lv_if_eq (tgt := 23) hx hbc dX7_root_17 (by decide) (fun c_17 => ?_) (fun c_17 => ?_)
    · have hd3 := full_0 c_17
      refine lv_aload_n hx hbc dX7_root_23 rfl (lv_at hl 0 rfl) ?_
      refine wb_gr (t := 37) hx hbc hg hown w inG_X7 57 (by decide) rfl rfl 6 (by decide) rfl wk_211 dX7_root_24 ?_
      refine lv_iload_n hx hbc dX7_root_27 rfl (lv_at hl 1 rfl) ?_
      refine wb_aald (k := tr) (t := 38 + 3 * tr) hx hbc w 37 (by decide) rfl (by decide) 4 rfl rfl (by omega) (by decide) rfl dX7_root_28 ?_
      refine lv_aload_n hx hbc dX7_root_29 rfl (lv_at hl 0 rfl) ?_
      refine wb_gr (t := 0) hx hbc hg hown w inG_X7 57 (by decide) rfl rfl 2 (by decide) rfl wk_207 dX7_root_30 ?_
      rcases Nat.eq_zero_or_pos (lv tr) with h0 | h0
      · skip
        have hli := lieTc tr htr
        refine wc_Vr (na := 1) (f := (fTc tr)) (As := [.ref (ad (0))]) (rest := []) hx hbc hml hg hown w (EC_ok al) hE w.1 hli.A (38 + 3 * tr) (by omega) (skD_T _ (by omega)) rfl (k_climb0 l D cy (fun z9 => ad (fTc tr z9)) al (pul S (fTc tr)) ((hlv tr htr).1.trans (congrArg nI h0))) wk_404 wk_8 wk_401 wk_402 wk_403 ⟨by decide, by decide, by decide⟩ ⟨by rw [hRf]; decide, by rw [hRl]; decide⟩ rfl hl.1 rfl (Nat.le_of_ble_eq_true rfl) dX7_root_33 ⟨Nat.zero_le _, Nat.zero_le _⟩ (fun r S9 hp H locs w => ?_)
        obtain ⟨hr9, hp⟩ := hp
        subst hr9
        subst hp
        have w : WB D (tyC cy) 322 cy ad skD A s (sB S (182 + 24 * tr + 0) (cps (S.2.1 (182 + 24 * tr + 0)) (fun _ => (nI (0)).toInt8.toInt32) 32)) H locs := w _ (hli.B (by decide) _)
        refine lv_ra (y := 182 + 24 * tr + 0) rfl ?_
        have hcl : clO S (sB S (182 + 24 * tr + 0) (cps (S.2.1 (182 + 24 * tr + 0)) (fun _ => (nI (0)).toInt8.toInt32) 32)) tr (lv tr) := fun i hi h => ⟨rfl, (by show va_up S.2.1 _ _ i = _; rw [va_up_ne _ _ (by omega)])⟩
        have htop : tpP ((sB S (182 + 24 * tr + 0) (cps (S.2.1 (182 + 24 * tr + 0)) (fun _ => (nI (0)).toInt8.toInt32) 32)).2.1 (182 + 24 * tr + 0)) (lv tr) (topF kC wC0 4 (lv tr) (f tr)) := ⟨fun _ k hk => (by show va_up S.2.1 _ _ _ k = 0; rw [up_at, cps_at, if_pos hk, z8]), fun h => absurd h (by omega)⟩
        obtain ⟨T9, eT9⟩ : ∃ z, z = sB S (182 + 24 * tr + 0) (cps (S.2.1 (182 + 24 * tr + 0)) (fun _ => (nI (0)).toInt8.toInt32) 32) := ⟨_, rfl⟩
        rw [← eT9] at w hcl htop
        refine lv_astore_n (lv' := [(2, .ref (ad (182 + 24 * tr + 0))), (0, .ref (ad (57))), (1, .int (nI (tr)))]) hx hbc dX7_root_36 rfl hl (by decide) rfl (fun ls hl => ?_)
        refine lv_aload_n hx hbc dX7_root_37 rfl (lv_at hl 1 rfl) ?_
        refine wb_gr (t := 0) hx hbc hg hown w inG_X7 57 (by decide) rfl rfl 2 (by decide) rfl wk_207 dX7_root_38 ?_
        refine lv_aload_n hx hbc dX7_root_41 rfl (lv_at hl 1 rfl) ?_
        refine wb_gr (t := 37) hx hbc hg hown w inG_X7 57 (by decide) rfl rfl 6 (by decide) rfl wk_211 dX7_root_42 ?_
        refine lv_iload_n hx hbc dX7_root_45 rfl (lv_at hl 2 rfl) ?_
        refine wb_aald (k := tr) (t := 38 + 3 * tr) hx hbc w 37 (by decide) rfl (by decide) 4 rfl rfl (by omega) (by decide) rfl dX7_root_46 ?_
        refine wb_gi (v := nI (lv tr)) hx hbc hg hown w inG_X6 (38 + 3 * tr) (by omega) (skD_T _ (by omega)) rfl 2 (by decide) rfl wk_197 ((congrFun (hcl (38 + 3 * tr) (by omega) (by omega)).1 2).trans (hlv tr htr).1) dX7_root_47 ?_
        refine lv_aload_n hx hbc dX7_root_50 rfl (lv_at hl 0 rfl) ?_
        refine wc_Sv (na := 3) (f := (fM (182 + 24 * tr + 0))) (As := [.ref (ad (0)), .int (nI (lv tr)), .ref (ad (182 + 24 * tr + 0))]) (rest := []) hx hbc hml hg hown w (EC_ok al) hE (w.1.sub (tys' := tyM cy) [0, 1, 2] rfl) (sub4A hM_D (by omega) (by omega) (skD_t _ _ (by omega) (by omega))) (k_digestRoot l D cy (fun z9 => ad (fM (182 + 24 * tr + 0) z9)) al (sM T9 (182 + 24 * tr + 0)) (lv tr) (by omega)) wk_412 wk_1 wk_410 wk_411 ⟨by decide, by decide, by decide⟩ ⟨by rw [hRf]; decide, by rw [hRl]; decide⟩ rfl hl.1 rfl (Nat.le_of_ble_eq_true rfl) dX7_root_51 ⟨Nat.zero_le _, Nat.zero_le _⟩ (fun S9 hp H locs w => ?_)
        have ho9 : rtO T9 (mgS T9 S9) (lv tr) (182 + 24 * tr + 0) := ⟨(oth.rf T9).mg S9, hp.2.1, hp.2.2.1, hp.2.2.2⟩
        have w : WB D (tyC cy) 322 cy ad skD A s (mgS T9 S9) H locs := w _ (sub4T hM_D (by omega) (skD_t _ _ (by omega) (by omega)) (fun k hk => (if_pos hk).symm) (fun k hk => (if_pos hk).symm) (Eq.trans (if_neg (by omega)) (hp.1 3 (by decide)).2.symm) (fun i hi _ => ⟨if_neg (by omega), if_neg (by omega), rfl⟩))
        obtain ⟨T10, eT10⟩ : ∃ z, z = mgS T9 S9 := ⟨_, rfl⟩
        rw [← eT10] at w ho9
        refine lv_aload_n hx hbc dX7_root_54 rfl (lv_at hl 1 rfl) ?_
        refine wb_gr (t := 31) hx hbc hg hown w inG_X7 57 (by decide) rfl rfl 5 (by decide) rfl wk_210 dX7_root_55 ?_
        refine lv_iconst (v := nI (0)) hx hbc dX7_root_58 (by decide) ?_
        refine lv_aload_n hx hbc dX7_root_59 rfl (lv_at hl 1 rfl) ?_
        refine wb_gr (t := 0) hx hbc hg hown w inG_X7 57 (by decide) rfl rfl 2 (by decide) rfl wk_207 dX7_root_60 ?_
        refine wb_gi (v := nI (rtQ)) hx hbc hg hown w inG_X2 0 (by decide) rfl rfl 4 (by decide) rfl wk_60 ho9.2.2.2 dX7_root_63 ?_
        refine lv_aload_n hx hbc dX7_root_66 rfl (lv_at hl 1 rfl) ?_
        refine wb_gr (t := 0) hx hbc hg hown w inG_X7 57 (by decide) rfl rfl 2 (by decide) rfl wk_207 dX7_root_67 ?_
        refine wc_Vi (na := 3) (f := fDA) (As := [.int (nI (0)), .int (nI (rtQ)), .ref (ad (0))]) (rest := []) hx hbc hml hg hown w (EC_ok al) hE w.1 lieDA.A 31 (by decide) rfl rfl (k_shelfAdd l D cy (fun z9 => ad (fDA z9)) al (pul T10 fDA) (nI (0)) rtQ d ((congrFun (ho9.1 31 (by decide)).1 5).trans ((congrFun (hcl 31 (by decide) (by omega)).1 5).trans hd)) (by omega)) wk_328 wk_5 wk_413 wk_326 wk_327 ⟨by decide, by decide, by decide⟩ ⟨by rw [hRf]; decide, by rw [hRl]; decide⟩ rfl hl.1 rfl (Nat.le_of_ble_eq_true rfl) dX7_root_70 ⟨Nat.zero_le _, Nat.zero_le _⟩ (fun r S9 hp H locs w => ?_)
        obtain ⟨hr9, hp⟩ := hp
        subst hr9
        subst hp
        have w : WB D (tyC cy) 322 cy ad skD A s (psh T10 fiDA (adS (pul T10 fDA) (nI (0)) d rtQ)) H locs := w _ (lieDA.T _)
        exact hend _ (psh T10 fiDA (adS (pul T10 fDA) (nI (0)) d rtQ)) _ _ _ _ (Or.inr (Or.inr ⟨tr, 182 + 24 * tr + 0, T9, T10, htr, rfl, hd3, rfl, (by omega), hcl, htop, ho9, rfl⟩)) rfl w dX7_root_73
      · skip
        have hli := lieTc tr htr
        refine wc_Vr (na := 1) (f := (fTc tr)) (As := [.ref (ad (0))]) (rest := []) hx hbc hml hg hown w (EC_ok al) hE w.1 hli.A (38 + 3 * tr) (by omega) (skD_T _ (by omega)) rfl (k_climb l D cy (fun z9 => ad (fTc tr z9)) al (pul S (fTc tr)) (lv tr) (f tr) hlt h0 (hlv tr htr).1 (fun a ha k hk => (by show S.2.1 (fTc tr (6 + a)) k = _; rw [fTc_r]; exact hf tr htr a ha k hk))) wk_404 wk_8 wk_401 wk_402 wk_403 ⟨by decide, by decide, by decide⟩ ⟨by rw [hRf]; decide, by rw [hRl]; decide⟩ rfl hl.1 rfl (Nat.le_of_ble_eq_true rfl) dX7_root_33 ⟨Nat.zero_le _, Nat.zero_le _⟩ (fun r S9 hp H locs w => ?_)
        obtain ⟨s9, hs9, hr9, hcT, htp, hlr⟩ := hp
        subst hr9
        have w : WB D (tyC cy) 322 cy ad skD A s (psh S (fiTc tr) S9) H locs := w _ (hli.T _)
        refine lv_ra (y := 182 + 24 * tr + s9) (fTc_r tr s9) ?_
        have hcl : clO S (psh S (fiTc tr) S9) tr (lv tr) := clO_of htr hlt hcT
        have htop : tpP ((psh S (fiTc tr) S9).2.1 (182 + 24 * tr + s9)) (lv tr) (topF kC wC0 4 (lv tr) (f tr)) := ⟨fun h => absurd h (by omega), fun _ k hk => (by rw [cl_row htr hs9]; exact htp k hk)⟩
        have hL := cl_lv (S := S) htr hlt hlr
        obtain ⟨T9, eT9⟩ : ∃ z, z = psh S (fiTc tr) S9 := ⟨_, rfl⟩
        rw [← eT9] at w hcl htop hL
        refine lv_astore_n (lv' := [(2, .ref (ad (182 + 24 * tr + s9))), (0, .ref (ad (57))), (1, .int (nI (tr)))]) hx hbc dX7_root_36 rfl hl (by decide) rfl (fun ls hl => ?_)
        refine lv_aload_n hx hbc dX7_root_37 rfl (lv_at hl 1 rfl) ?_
        refine wb_gr (t := 0) hx hbc hg hown w inG_X7 57 (by decide) rfl rfl 2 (by decide) rfl wk_207 dX7_root_38 ?_
        refine lv_aload_n hx hbc dX7_root_41 rfl (lv_at hl 1 rfl) ?_
        refine wb_gr (t := 37) hx hbc hg hown w inG_X7 57 (by decide) rfl rfl 6 (by decide) rfl wk_211 dX7_root_42 ?_
        refine lv_iload_n hx hbc dX7_root_45 rfl (lv_at hl 2 rfl) ?_
        refine wb_aald (k := tr) (t := 38 + 3 * tr) hx hbc w 37 (by decide) rfl (by decide) 4 rfl rfl (by omega) (by decide) rfl dX7_root_46 ?_
        refine wb_gi (v := nI (lv tr)) hx hbc hg hown w inG_X6 (38 + 3 * tr) (by omega) (skD_T _ (by omega)) rfl 2 (by decide) rfl wk_197 ((congrFun (hcl (38 + 3 * tr) (by omega) (by omega)).1 2).trans (hlv tr htr).1) dX7_root_47 ?_
        refine lv_aload_n hx hbc dX7_root_50 rfl (lv_at hl 0 rfl) ?_
        refine wc_Sv (na := 3) (f := (fM (182 + 24 * tr + s9))) (As := [.ref (ad (0)), .int (nI (lv tr)), .ref (ad (182 + 24 * tr + s9))]) (rest := []) hx hbc hml hg hown w (EC_ok al) hE (w.1.sub (tys' := tyM cy) [0, 1, 2] rfl) (sub4A hM_D (by omega) (by omega) (skD_t _ _ (by omega) (by omega))) (k_digestRoot l D cy (fun z9 => ad (fM (182 + 24 * tr + s9) z9)) al (sM T9 (182 + 24 * tr + s9)) (lv tr) (by omega)) wk_412 wk_1 wk_410 wk_411 ⟨by decide, by decide, by decide⟩ ⟨by rw [hRf]; decide, by rw [hRl]; decide⟩ rfl hl.1 rfl (Nat.le_of_ble_eq_true rfl) dX7_root_51 ⟨Nat.zero_le _, Nat.zero_le _⟩ (fun S9 hp H locs w => ?_)
        have ho9 : rtO T9 (mgS T9 S9) (lv tr) (182 + 24 * tr + s9) := ⟨(oth.rf T9).mg S9, hp.2.1, hp.2.2.1, hp.2.2.2⟩
        have w : WB D (tyC cy) 322 cy ad skD A s (mgS T9 S9) H locs := w _ (sub4T hM_D (by omega) (skD_t _ _ (by omega) (by omega)) (fun k hk => (if_pos hk).symm) (fun k hk => (if_pos hk).symm) (Eq.trans (if_neg (by omega)) (hp.1 3 (by decide)).2.symm) (fun i hi _ => ⟨if_neg (by omega), if_neg (by omega), rfl⟩))
        obtain ⟨T10, eT10⟩ : ∃ z, z = mgS T9 S9 := ⟨_, rfl⟩
        rw [← eT10] at w ho9
        refine lv_aload_n hx hbc dX7_root_54 rfl (lv_at hl 1 rfl) ?_
        refine wb_gr (t := 31) hx hbc hg hown w inG_X7 57 (by decide) rfl rfl 5 (by decide) rfl wk_210 dX7_root_55 ?_
        refine lv_iconst (v := nI (0)) hx hbc dX7_root_58 (by decide) ?_
        refine lv_aload_n hx hbc dX7_root_59 rfl (lv_at hl 1 rfl) ?_
        refine wb_gr (t := 0) hx hbc hg hown w inG_X7 57 (by decide) rfl rfl 2 (by decide) rfl wk_207 dX7_root_60 ?_
        refine wb_gi (v := nI (rtQ)) hx hbc hg hown w inG_X2 0 (by decide) rfl rfl 4 (by decide) rfl wk_60 ho9.2.2.2 dX7_root_63 ?_
        refine lv_aload_n hx hbc dX7_root_66 rfl (lv_at hl 1 rfl) ?_
        refine wb_gr (t := 0) hx hbc hg hown w inG_X7 57 (by decide) rfl rfl 2 (by decide) rfl wk_207 dX7_root_67 ?_
        refine wc_Vi (na := 3) (f := fDA) (As := [.int (nI (0)), .int (nI (rtQ)), .ref (ad (0))]) (rest := []) hx hbc hml hg hown w (EC_ok al) hE w.1 lieDA.A 31 (by decide) rfl rfl (k_shelfAdd l D cy (fun z9 => ad (fDA z9)) al (pul T10 fDA) (nI (0)) rtQ d ((congrFun (ho9.1 31 (by decide)).1 5).trans ((congrFun (hcl 31 (by decide) (by omega)).1 5).trans hd)) (by omega)) wk_328 wk_5 wk_413 wk_326 wk_327 ⟨by decide, by decide, by decide⟩ ⟨by rw [hRf]; decide, by rw [hRl]; decide⟩ rfl hl.1 rfl (Nat.le_of_ble_eq_true rfl) dX7_root_70 ⟨Nat.zero_le _, Nat.zero_le _⟩ (fun r S9 hp H locs w => ?_)
        obtain ⟨hr9, hp⟩ := hp
        subst hr9
        subst hp
        have w : WB D (tyC cy) 322 cy ad skD A s (psh T10 fiDA (adS (pul T10 fDA) (nI (0)) d rtQ)) H locs := w _ (lieDA.T _)
        exact hend _ (psh T10 fiDA (adS (pul T10 fDA) (nI (0)) d rtQ)) _ _ _ _ (Or.inr (Or.inr ⟨tr, 182 + 24 * tr + s9, T9, T10, htr, rfl, hd3, rfl, (by omega), hcl, htop, ho9, rfl⟩)) rfl w dX7_root_73
    · refine lv_bipush (v := (-103)) hx hbc dX7_root_20 (by decide) ?_
      exact hend _ (S) _ _ _ _ (Or.inr (Or.inl ⟨tr, htr, rfl, (by have := full_1 c_17; omega), rfl, rfl⟩)) rfl w dX7_root_22
  · refine lv_bipush (v := (-102)) hx hbc dX7_root_7 (by decide) ?_
    exact hend _ (S) _ _ _ _ (Or.inl ⟨hsF_oor c_4 (by decide), rfl, rfl⟩) rfl w dX7_root_9
set_option maxHeartbeats 1000000 in
set_option maxRecDepth 100000 in
theorem k_D_prove (l : Launch) (D : va_G) (cy : Nat → ClassId) (ad al : Nat → Nat) (S : wS) (a b : Int32) (lv : Nat → Nat) (hlv : ∀ j, j < 4 → S.1 (38 + 3 * j) 2 = nI (lv j) ∧ lv j ≤ 12) (f : Nat → Nat → Nat → Int32) (hf : ∀ tr, tr < 4 → ∀ a, a < lv tr → ∀ k, k < 32 → S.2.1 (182 + 24 * tr + a) k = sbH (f tr a) k) : CtI l yX7_prove (Cond.code yX7_prove cX7_prove 3 (some .int) :: wsG) 7 170 [.ref (ad (57)), .int (a), .int (b)] D (tyC cy) 322 cy ad skD (EC al) (S) (fun r S' => (oor a 4 ∧ r = (-102) ∧ S' = S) ∨ (∃ tr, tr < 4 ∧ a = nI tr ∧ oor b (lv tr) ∧ r = (-101) ∧ S' = S) ∨ (∃ tr lf T9 X, tr < 4 ∧ a = nI tr ∧ lf < lv tr ∧ b = nI lf ∧ r = nI (pvL kC wC0 4 (lv tr) lf (f tr)).length ∧ clO S T9 tr (lv tr) ∧ GP (pul T9 (fPg tr)) X (pvL kC wC0 4 (lv tr) lf (f tr)) ∧ S' = psh T9 (fiPg tr) X)) := by
  refine CtI_of (by decide) (Nat.le_of_ble_eq_true rfl) ?_
  intro p e s m args below meth c A ls R Q hB hRf hRl hend
  obtain ⟨hx, hbc, hr, hg, hown, hml, hlk, w, hE, hl⟩ := hB
  have hl : lv_has ls 3 [(0, .ref (ad (57))), (1, .int (a)), (2, .int (b))] := hl
  refine lv_iload_n hx hbc dX7_prove_0 rfl (lv_at hl 1 rfl) ?_
  refine wb_Si (na := 1) (As := [.int (a)]) (rest := []) hx hbc hml hg hown w E0_ok trivial (w.1.sub (tys' := tyM cy) [0, 1, 2] rfl) Sub.none (k_isTree l D cy ad al (S) a) wk_371 wk_1 wk_369 wk_370 ⟨by decide, by decide, by decide⟩ ⟨by rw [hRf]; decide, by rw [hRl]; decide⟩ rfl hl.1 rfl (Nat.le_of_ble_eq_true rfl) dX7_prove_1 ⟨Nat.zero_le _, Nat.zero_le _⟩ (fun r S9 H locs hp w => ?_)
  subst hp
  refine lv_if_ne (tgt := 10) hx hbc dX7_prove_4 (by decide) (fun c_4 => ?_) (fun c_4 => ?_)
  · obtain ⟨tr, htr, rfl⟩ := hsF_nz c_4 (by decide)
    have hlt := (hlv tr htr).2
    refine lv_aload_n hx hbc dX7_prove_10 rfl (lv_at hl 0 rfl) ?_
    refine wb_gr (t := 37) hx hbc hg hown w inG_X7 57 (by decide) rfl rfl 6 (by decide) rfl wk_211 dX7_prove_11 ?_
    refine lv_iload_n hx hbc dX7_prove_14 rfl (lv_at hl 1 rfl) ?_
    refine wb_aald (k := tr) (t := 38 + 3 * tr) hx hbc w 37 (by decide) rfl (by decide) 4 rfl rfl (by omega) (by decide) rfl dX7_prove_15 ?_
    refine lv_iload_n hx hbc dX7_prove_16 rfl (lv_at hl 2 rfl) ?_
    have hli := lie_tr tr (by omega)
    refine wc_Vi (na := 1) (f := (fTr tr)) (As := [.int (b)]) (rest := []) hx hbc hml hg hown w (EC_ok al) hE (w.1.sub (tys' := tyM cy) [0, 1, 2] rfl) hli.A (38 + 3 * tr) (by omega) (skD_T _ (by omega)) rfl (k_thas l D cy (fun z9 => ad (fTr tr z9)) al (pul S (fTr tr)) b (lv tr) (hlv tr htr).1) wk_396 wk_8 wk_393 wk_394 wk_395 ⟨by decide, by decide, by decide⟩ ⟨by rw [hRf]; decide, by rw [hRl]; decide⟩ rfl hl.1 rfl (Nat.le_of_ble_eq_true rfl) dX7_prove_17 ⟨Nat.zero_le _, Nat.zero_le _⟩ (fun r S9 hp H locs w => ?_)
    obtain ⟨hr9, hp⟩ := hp
    subst hr9
    subst hp
    have w : WB D (tyC cy) 322 cy ad skD A s (S) H locs := w _ hli.id
    refine lv_if_ne (tgt := 26) hx hbc dX7_prove_20 (by decide) (fun c_20 => ?_) (fun c_20 => ?_)
    · obtain ⟨lf, hlf, rfl⟩ := hsF_nz c_20 (by omega)
      have h0 : 0 < lv tr := by omega
      refine lv_aload_n hx hbc dX7_prove_26 rfl (lv_at hl 0 rfl) ?_
      refine wb_gr (t := 37) hx hbc hg hown w inG_X7 57 (by decide) rfl rfl 6 (by decide) rfl wk_211 dX7_prove_27 ?_
      refine lv_iload_n hx hbc dX7_prove_30 rfl (lv_at hl 1 rfl) ?_
      refine wb_aald (k := tr) (t := 38 + 3 * tr) hx hbc w 37 (by decide) rfl (by decide) 4 rfl rfl (by omega) (by decide) rfl dX7_prove_31 ?_
      refine lv_aload_n hx hbc dX7_prove_32 rfl (lv_at hl 0 rfl) ?_
      refine wb_gr (t := 0) hx hbc hg hown w inG_X7 57 (by decide) rfl rfl 2 (by decide) rfl wk_207 dX7_prove_33 ?_
      have hli := lieTc tr htr
      refine wc_Vr (na := 1) (f := (fTc tr)) (As := [.ref (ad (0))]) (rest := []) hx hbc hml hg hown w (EC_ok al) hE w.1 hli.A (38 + 3 * tr) (by omega) (skD_T _ (by omega)) rfl (k_climb l D cy (fun z9 => ad (fTc tr z9)) al (pul S (fTc tr)) (lv tr) (f tr) hlt h0 (hlv tr htr).1 (fun a ha k hk => (by show S.2.1 (fTc tr (6 + a)) k = _; rw [fTc_r]; exact hf tr htr a ha k hk))) wk_404 wk_8 wk_401 wk_402 wk_403 ⟨by decide, by decide, by decide⟩ ⟨by rw [hRf]; decide, by rw [hRl]; decide⟩ rfl hl.1 rfl (Nat.le_of_ble_eq_true rfl) dX7_prove_36 ⟨Nat.zero_le _, Nat.zero_le _⟩ (fun r S9 hp H locs w => ?_)
      obtain ⟨s9, hs9, hr9, hcT, htp, hlr⟩ := hp
      subst hr9
      have w : WB D (tyC cy) 322 cy ad skD A s (psh S (fiTc tr) S9) H locs := w _ (hli.T _)
      refine lv_ra (y := 182 + 24 * tr + s9) (fTc_r tr s9) ?_
      have hcl : clO S (psh S (fiTc tr) S9) tr (lv tr) := clO_of htr hlt hcT
      have htop : tpP ((psh S (fiTc tr) S9).2.1 (182 + 24 * tr + s9)) (lv tr) (topF kC wC0 4 (lv tr) (f tr)) := ⟨fun h => absurd h (by omega), fun _ k hk => (by rw [cl_row htr hs9]; exact htp k hk)⟩
      have hL := cl_lv (S := S) htr hlt hlr
      obtain ⟨T9, eT9⟩ : ∃ z, z = psh S (fiTc tr) S9 := ⟨_, rfl⟩
      rw [← eT9] at w hcl htop hL
      refine lv_pop hx hbc dX7_prove_39 rfl ?_
      refine lv_aload_n hx hbc dX7_prove_40 rfl (lv_at hl 0 rfl) ?_
      refine wb_gr (t := 50) hx hbc hg hown w inG_X7 57 (by decide) rfl rfl 7 (by decide) rfl wk_212 dX7_prove_41 ?_
      refine lv_aload_n hx hbc dX7_prove_44 rfl (lv_at hl 0 rfl) ?_
      refine wb_gr (t := 37) hx hbc hg hown w inG_X7 57 (by decide) rfl rfl 6 (by decide) rfl wk_211 dX7_prove_45 ?_
      refine lv_iload_n hx hbc dX7_prove_48 rfl (lv_at hl 1 rfl) ?_
      refine wb_aald (k := tr) (t := 38 + 3 * tr) hx hbc w 37 (by decide) rfl (by decide) 4 rfl rfl (by omega) (by decide) rfl dX7_prove_49 ?_
      refine lv_iload_n hx hbc dX7_prove_50 rfl (lv_at hl 2 rfl) ?_
      refine wc_Vv (na := 2) (f := (fPg tr)) (As := [.ref (ad (38 + 3 * tr)), .int (nI (lf))]) (rest := []) hx hbc hml hg hown w (EC_ok al) hE w.1 (liePg tr htr).A 50 (by decide) rfl rfl (k_gather l D cy (fun z9 => ad (fPg tr z9)) al (pul T9 (fPg tr)) (lv tr) lf (f tr) hlt (by omega) ((congrFun (hcl (38 + 3 * tr) (by omega) (by omega)).1 2).trans (hlv tr htr).1) (pg_lv hL)) wk_425 wk_6 wk_422 wk_423 wk_424 ⟨by decide, by decide, by decide⟩ ⟨by rw [hRf]; decide, by rw [hRl]; decide⟩ rfl hl.1 rfl (Nat.le_of_ble_eq_true rfl) dX7_prove_51 ⟨Nat.zero_le _, Nat.zero_le _⟩ (fun S9 hp H locs w => ?_)
      have w : WB D (tyC cy) 322 cy ad skD A s (psh T9 (fiPg tr) S9) H locs := w _ ((liePg tr htr).T _)
      refine lv_aload_n hx hbc dX7_prove_54 rfl (lv_at hl 0 rfl) ?_
      refine wb_gr (t := 50) hx hbc hg hown w inG_X7 57 (by decide) rfl rfl 7 (by decide) rfl wk_212 dX7_prove_55 ?_
      refine wb_gi (v := nI ((pvL kC wC0 4 (lv tr) lf (f tr)).length)) hx hbc hg hown w inG_X3 50 (by decide) rfl rfl 1 (by decide) rfl wk_148 hp.1 dX7_prove_58 ?_
      exact hend _ (psh T9 (fiPg tr) S9) _ _ _ _ (Or.inr (Or.inr ⟨tr, lf, T9, _, htr, rfl, hlf, rfl, rfl, hcl, hp, rfl⟩)) rfl w dX7_prove_61
    · refine lv_bipush (v := (-101)) hx hbc dX7_prove_23 (by decide) ?_
      exact hend _ (S) _ _ _ _ (Or.inr (Or.inl ⟨tr, htr, rfl, hsF_oor c_20 (by omega), rfl, rfl⟩)) rfl w dX7_prove_25
  · refine lv_bipush (v := (-102)) hx hbc dX7_prove_7 (by decide) ?_
    exact hend _ (S) _ _ _ _ (Or.inl ⟨hsF_oor c_4 (by decide), rfl, rfl⟩) rfl w dX7_prove_9
set_option maxHeartbeats 1000000 in
set_option maxRecDepth 100000 in
theorem k_D_check (l : Launch) (D : va_G) (cy : Nat → ClassId) (ad al : Nat → Nat) (S : wS) (gd gn gi gk : Int32) (d : Nat) (hd : S.1 31 5 = nI d) (hd2 : d ≤ 60) (t : Nat) (ht : S.1 58 1 = nI t) (ht2 : t ≤ 200) (pv : Nat) (hpv : S.1 50 1 = nI pv) (hpv2 : pv ≤ 4) (pf : Nat → Nat → Int32) (hpf : ∀ u, u < pv → ∀ k, k < 32 → S.2.1 (278 + u) k = sbH (pf u) k) : CtI l yX7_check (Cond.code yX7_check cX7_check 5 (some .int) :: wsG) 7 173 [.ref (ad (57)), .int (gd), .int (gn), .int (gi), .int (gk)] D (tyC cy) 322 cy ad skD (EC al) (S) (fun r S' => (oor gd d ∧ r = (-101) ∧ S' = S) ∨ (∃ e, e < d ∧ gd = nI e ∧ (oo1 gn 12 ∨ (∃ n, 1 ≤ n ∧ n ≤ 12 ∧ gn = nI n ∧ oor gi n) ∨ (oor gk 8 ∨ 40 < t)) ∧ r = (-102) ∧ S' = S) ∨ (∃ e n i kd, (e < d ∧ gd = nI e ∧ 1 ≤ n ∧ n ≤ 12 ∧ gn = nI n ∧ i < n ∧ gi = nI i ∧ kd < 8 ∧ gk = nI kd ∧ t ≤ 40) ∧ (¬ dueF 4 n i = pv ∨ ¬ l32 (S.2.1 34 e) = 32) ∧ r = nI 0 ∧ S' = S) ∨ (∃ e n i kd, (e < d ∧ gd = nI e ∧ 1 ≤ n ∧ n ≤ 12 ∧ gn = nI n ∧ i < n ∧ gi = nI i ∧ kd < 8 ∧ gk = nI kd ∧ t ≤ 40) ∧ dueF 4 n i = pv ∧ l32 (S.2.1 34 e) = 32 ∧ ∃ (c1 : Nat → Int32) (T2 T11 : wS), ckF kC wC0 pf pv 4 n i 0 (lfD kd t (S.2.1 59)) = some (pv, c1) ∧ (∀ k, k < 32 → T2.2.1 56 k = sbH c1 k) ∧ wr1 S T11 56 (rtH n (T2.2.1 56)) ∧ (((∀ q, q < 32 → T11.2.1 56 q = T11.2.1 (62 + e) q) ∧ r = nI 1) ∨ ((∃ q, q < 32 ∧ ¬ T11.2.1 56 q = T11.2.1 (62 + e) q) ∧ r = nI 0)) ∧ S' = T11)) := by
  refine CtI_of (by decide) (Nat.le_of_ble_eq_true rfl) ?_
  intro p e s m args below meth c A ls R Q hB hRf hRl hend
  obtain ⟨hx, hbc, hr, hg, hown, hml, hlk, w, hE, hl⟩ := hB
  have hl : lv_has ls 5 [(0, .ref (ad (57))), (1, .int (gd)), (2, .int (gn)), (3, .int (gi)), (4, .int (gk))] := hl
  refine lv_aload_n hx hbc dX7_check_0 rfl (lv_at hl 0 rfl) ?_
  refine wb_gr (t := 31) hx hbc hg hown w inG_X7 57 (by decide) rfl rfl 5 (by decide) rfl wk_210 dX7_check_1 ?_
  refine lv_iload_n hx hbc dX7_check_4 rfl (lv_at hl 1 rfl) ?_
  refine wc_Vi (na := 1) (f := (fun z9 => z9 + 31)) (As := [.int (gd)]) (rest := []) hx hbc hml hg hown w (EC_ok al) hE (w.1.sub (tys' := tyM cy) [0, 1, 2] rfl) lie_sh.A 31 (by decide) rfl rfl (k_shas l D cy (fun z9 => ad (z9 + 31)) al (pul S (fun z9 => z9 + 31)) gd d hd) wk_356 wk_5 wk_353 wk_354 wk_355 ⟨by decide, by decide, by decide⟩ ⟨by rw [hRf]; decide, by rw [hRl]; decide⟩ rfl hl.1 rfl (Nat.le_of_ble_eq_true rfl) dX7_check_5 ⟨Nat.zero_le _, Nat.zero_le _⟩ (fun r S9 hp H locs w => ?_)
  obtain ⟨hr9, hp⟩ := hp
  subst hr9
  subst hp
  have w : WB D (tyC cy) 322 cy ad skD A s (S) H locs := w _ lie_sh.id
  refine lv_if_ne (tgt := 14) hx hbc dX7_check_8 (by decide) (fun c_8 => ?_) (fun c_8 => ?_)
  · obtain ⟨e9, he9, rfl⟩ := hsF_nz c_8 (by omega)
    refine lv_iload_n hx hbc dX7_check_14 rfl (lv_at hl 2 rfl) ?_
    refine lv_iconst (v := nI (1)) hx hbc dX7_check_15 (by decide) ?_
    refine lv_icmp_lt (tgt := 43) hx hbc dX7_check_16 (by decide) (fun c_16 => ?_) (fun c_16 => ?_)
    · refine lv_bipush (v := (-102)) hx hbc dX7_check_43 (by decide) ?_
      exact hend _ (S) _ _ _ _ (Or.inr (Or.inl ⟨e9, he9, rfl, Or.inl (oo1_n c_16 (by decide)), rfl, rfl⟩)) rfl w dX7_check_45
    · refine lv_iload_n hx hbc dX7_check_19 rfl (lv_at hl 2 rfl) ?_
      refine lv_bipush (v := nI (12)) hx hbc dX7_check_20 (by decide) ?_
      refine lv_icmp_gt (tgt := 43) hx hbc dX7_check_22 (by decide) (fun c_22 => ?_) (fun c_22 => ?_)
      · refine lv_bipush (v := (-102)) hx hbc dX7_check_43 (by decide) ?_
        exact hend _ (S) _ _ _ _ (Or.inr (Or.inl ⟨e9, he9, rfl, Or.inl (oo1_g (Int32.not_le.mpr c_22) (by decide)), rfl, rfl⟩)) rfl w dX7_check_45
      · obtain ⟨n, hn1, hn, rfl⟩ := rg_1n c_16 (Int32.not_lt.mp c_22) (by decide)
        refine lv_iload_n hx hbc dX7_check_25 rfl (lv_at hl 3 rfl) ?_
        refine lv_if_lt (tgt := 43) hx hbc dX7_check_26 (by decide) (fun c_26 => ?_) (fun c_26 => ?_)
        · refine lv_bipush (v := (-102)) hx hbc dX7_check_43 (by decide) ?_
          exact hend _ (S) _ _ _ _ (Or.inr (Or.inl ⟨e9, he9, rfl, Or.inr (Or.inl ⟨n, hn1, hn, rfl, oor_n c_26 (by omega)⟩), rfl, rfl⟩)) rfl w dX7_check_45
        · refine lv_iload_n hx hbc dX7_check_29 rfl (lv_at hl 3 rfl) ?_
          refine lv_iload_n hx hbc dX7_check_30 rfl (lv_at hl 2 rfl) ?_
          refine lv_icmp_ge (tgt := 43) hx hbc dX7_check_31 (by decide) (fun c_31 => ?_) (fun c_31 => ?_)
          · refine lv_bipush (v := (-102)) hx hbc dX7_check_43 (by decide) ?_
            exact hend _ (S) _ _ _ _ (Or.inr (Or.inl ⟨e9, he9, rfl, Or.inr (Or.inl ⟨n, hn1, hn, rfl, oor_g (Int32.not_lt.mpr c_31) (by omega)⟩), rfl, rfl⟩)) rfl w dX7_check_45
          · obtain ⟨i, hi, rfl⟩ := rg_in c_26 (Int32.not_le.mp c_31) (by omega)
            refine lv_aload_n hx hbc dX7_check_34 rfl (lv_at hl 0 rfl) ?_
            refine lv_iload hx hbc dX7_check_35 (lv_at hl 4 rfl) ?_
            refine wb_Vi (na := 1) (As := [.int (gk)]) (rest := []) hx hbc hml hg hown w (EC_ok al) hE w.1 Sub.self 57 (by decide) rfl rfl (k_D_isLeaf l D cy ad al (S) gk t ht ht2) wk_375 wk_1 wk_372 wk_374 ws_4 ⟨by decide, by decide, by decide⟩ ⟨by rw [hRf]; decide, by rw [hRl]; decide⟩ rfl hl.1 rfl (Nat.le_of_ble_eq_true rfl) dX7_check_37 ⟨Nat.zero_le _, Nat.zero_le _⟩ (fun r S9 H locs hp w => ?_)
            rcases hp with ⟨rfl, ⟨kd, hkd, rfl⟩, ht40, hS9⟩ | ⟨rfl, hbad, hS9⟩
            · rw [hS9] at w
              have w : WB D (tyC cy) 322 cy ad skD A s (S) H locs := w
              refine lv_if_ne (tgt := 46) hx hbc dX7_check_40 (by decide) (fun c_40 => ?_) (fun c_40 => ?_)
              · refine lv_aload_n hx hbc dX7_check_46 rfl (lv_at hl 0 rfl) ?_
                refine wb_gr (t := 50) hx hbc hg hown w inG_X7 57 (by decide) rfl rfl 7 (by decide) rfl wk_212 dX7_check_47 ?_
                refine wb_gi (v := nI (pv)) hx hbc hg hown w inG_X3 50 (by decide) rfl rfl 1 (by decide) rfl wk_148 hpv dX7_check_50 ?_
                refine lv_iload_n hx hbc dX7_check_53 rfl (lv_at hl 2 rfl) ?_
                refine lv_iload_n hx hbc dX7_check_54 rfl (lv_at hl 3 rfl) ?_
                refine wb_Si (na := 2) (As := [.int (nI (n)), .int (nI (i))]) (rest := [.int (nI (pv))]) hx hbc hml hg hown w E0_ok trivial (w.1.sub (tys' := tyM cy) [0, 1, 2] rfl) Sub.none (k_due l D cy ad al (S) n i (by omega) (by omega)) wk_437 wk_6 wk_435 wk_436 ⟨by decide, by decide, by decide⟩ ⟨by rw [hRf]; decide, by rw [hRl]; decide⟩ rfl hl.1 rfl (Nat.le_of_ble_eq_true rfl) dX7_check_55 ⟨Nat.zero_le _, Nat.zero_le _⟩ (fun r S9 H locs hp w => ?_)
                subst hp
                have hdg := dueF_g 4 n i
                refine n_cmp_ne (tgt := 78) (by omega) (by omega) hx hbc dX7_check_58 (by decide) (fun c_58 => ?_) (fun c_58 => ?_)
                · refine lv_iconst (v := nI (0)) hx hbc dX7_check_78 (by decide) ?_
                  exact hend _ (S) _ _ _ _ (Or.inr (Or.inr (Or.inl ⟨e9, n, i, kd, ⟨he9, rfl, hn1, hn, rfl, hi, rfl, hkd, rfl, ht40⟩, Or.inl (fun h => c_58 h.symm), rfl, rfl⟩))) rfl w dX7_check_79
                · refine lv_aload_n hx hbc dX7_check_61 rfl (lv_at hl 0 rfl) ?_
                  refine wb_gr (t := 31) hx hbc hg hown w inG_X7 57 (by decide) rfl rfl 5 (by decide) rfl wk_210 dX7_check_62 ?_
                  refine wb_gr (t := 34) hx hbc hg hown w inG_X4 31 (by decide) rfl rfl 2 (by decide) rfl wk_117 dX7_check_65 ?_
                  refine lv_iload_n hx hbc dX7_check_68 rfl (lv_at hl 1 rfl) ?_
                  refine wb_iald (k := e9) (v := (S.2.1 34) e9) hx hbc w 34 (by decide) rfl 0 rfl rfl (by omega) (by decide) rfl dX7_check_69 ?_
                  refine wb_Si (na := 1) (As := [.int ((S.2.1 34) e9)]) (rest := []) hx hbc hml hg hown w E0_ok trivial (w.1.sub (tys' := tyM cy) [0, 1, 2] rfl) Sub.none (k_bytesOf l D cy ad al (S) ((S.2.1 34) e9)) wk_331 wk_1 wk_357 wk_330 ⟨by decide, by decide, by decide⟩ ⟨by rw [hRf]; decide, by rw [hRl]; decide⟩ rfl hl.1 rfl (Nat.le_of_ble_eq_true rfl) dX7_check_70 ⟨Nat.zero_le _, Nat.zero_le _⟩ (fun r S9 H locs hp w => ?_)
                  subst hp
                  have hl32_0 := l32_in ((S.2.1 34) e9)
                  refine lv_bipush (v := nI (32)) hx hbc dX7_check_73 (by decide) ?_
                  refine n_cmp_eq (tgt := 80) (by omega) (by omega) hx hbc dX7_check_75 (by decide) (fun c_75 => ?_) (fun c_75 => ?_)
                  · refine lv_aload_n hx hbc dX7_check_80 rfl (lv_at hl 0 rfl) ?_
                    refine wb_gr (t := 0) hx hbc hg hown w inG_X7 57 (by decide) rfl rfl 2 (by decide) rfl wk_207 dX7_check_81 ?_
                    refine lv_iload hx hbc dX7_check_84 (lv_at hl 4 rfl) ?_
                    refine lv_aload_n hx hbc dX7_check_86 rfl (lv_at hl 0 rfl) ?_
                    refine wb_gr (t := 58) hx hbc hg hown w inG_X7 57 (by decide) rfl rfl 0 (by decide) rfl wk_205 dX7_check_87 ?_
                    refine lv_aload_n hx hbc dX7_check_90 rfl (lv_at hl 0 rfl) ?_
                    refine wb_gr (t := 56) hx hbc hg hown w inG_X7 57 (by decide) rfl rfl 9 (by decide) rfl wk_214 dX7_check_91 ?_
                    have hli := lieLf (56) (by omega) (by omega) rfl
                    refine wc_Sv (na := 4) (f := (fLf (56))) (As := [.ref (ad (0)), .int (nI (kd)), .ref (ad (58)), .ref (ad (56))]) (rest := []) hx hbc hml hg hown w (EC_ok al) hE (w.1.sub (tys' := tyM cy) [0, 1, 2] rfl) hli.A (k_digestLeaf l D cy (fun z9 => ad (fLf (56) z9)) al (pul S (fLf (56))) kd t (by omega) (show S.1 58 1 = nI t from ht) (by omega)) wk_382 wk_1 wk_380 wk_381 ⟨by decide, by decide, by decide⟩ ⟨by rw [hRf]; decide, by rw [hRl]; decide⟩ rfl hl.1 rfl (Nat.le_of_ble_eq_true rfl) dX7_check_94 ⟨Nat.zero_le _, Nat.zero_le _⟩ (fun S9 hp H locs w => ?_)
                    have hw9 : wr1 S (psh S (fiLf (56)) S9) (56) (lfD kd t (S.2.1 59)) := by have e59 : S.2.1 59 = S.2.1 59 := rfl; rw [← e59]; have h8 := wr1_of (ct := 5) hli (fun k hk hk2 => (by rcases (show k = 3 ∨ k = 4 ∨ k = 5 by omega) with rfl | rfl | rfl <;> simp only [fLf] <;> omega)) (fun k hk => (by rcases (show k = 0 ∨ k = 1 ∨ k = 2 by omega) with rfl | rfl | rfl <;> rfl)) ⟨by decide, by decide⟩ hp; exact h8
                    have w : WB D (tyC cy) 322 cy ad skD A s (psh S (fiLf (56)) S9) H locs := w _ (hli.T _)
                    obtain ⟨T_1, eT_1⟩ : ∃ z, z = psh S (fiLf (56)) S9 := ⟨_, rfl⟩
                    rw [← eT_1] at w hw9
                    have hw1 := hw9
                    refine lv_aload_n hx hbc dX7_check_97 rfl (lv_at hl 0 rfl) ?_
                    refine wb_gr (t := 50) hx hbc hg hown w inG_X7 57 (by decide) rfl rfl 7 (by decide) rfl wk_212 dX7_check_98 ?_
                    refine lv_aload_n hx hbc dX7_check_101 rfl (lv_at hl 0 rfl) ?_
                    refine wb_gr (t := 0) hx hbc hg hown w inG_X7 57 (by decide) rfl rfl 2 (by decide) rfl wk_207 dX7_check_102 ?_
                    refine lv_iload_n hx hbc dX7_check_105 rfl (lv_at hl 2 rfl) ?_
                    refine lv_iload_n hx hbc dX7_check_106 rfl (lv_at hl 3 rfl) ?_
                    refine lv_aload_n hx hbc dX7_check_107 rfl (lv_at hl 0 rfl) ?_
                    refine wb_gr (t := 56) hx hbc hg hown w inG_X7 57 (by decide) rfl rfl 9 (by decide) rfl wk_214 dX7_check_108 ?_
                    refine wc_Vv (na := 4) (f := fPf) (As := [.ref (ad (0)), .int (nI (n)), .int (nI (i)), .ref (ad (56))]) (rest := []) hx hbc hml hg hown w (EC_ok al) hE w.1 liePf.A 50 (by decide) rfl rfl (k_follow l D cy (fun z9 => ad (fPf z9)) al (pul T_1 fPf) n i pv pf (lfD kd t (S.2.1 59)) (by omega) hi hpv2 (by omega) (fun u hu k hk => (by show T_1.2.1 (fPf (6 + u)) k = _; rw [fPf_6 (by omega), (hw1.1 (278 + u) (by omega) (by omega)).2]; exact hpf u hu k hk)) hw1.2) wk_441 wk_6 wk_438 wk_439 wk_440 ⟨by decide, by decide, by decide⟩ ⟨by rw [hRf]; decide, by rw [hRl]; decide⟩ rfl hl.1 rfl (Nat.le_of_ble_eq_true rfl) dX7_check_111 ⟨Nat.zero_le _, Nat.zero_le _⟩ (fun S9 hp H locs w => ?_)
                    obtain ⟨c1, hck, hp⟩ := hp
                    have hw2 : wr1 T_1 (psh T_1 fiPf S9) 56 c1 := by have h8 := wr1_of (ct := 5) liePf (fun k hk hk2 => (by rcases (show k = 3 ∨ k = 4 ∨ k = 5 ∨ k = 6 ∨ k = 7 ∨ k = 8 ∨ k = 9 by omega) with rfl | rfl | rfl | rfl | rfl | rfl | rfl <;> decide)) (fun k hk => (by rcases (show k = 0 ∨ k = 1 ∨ k = 2 by omega) with rfl | rfl | rfl <;> rfl)) ⟨by decide, by decide⟩ hp; exact h8
                    have w : WB D (tyC cy) 322 cy ad skD A s (psh T_1 fiPf S9) H locs := w _ (liePf.T _)
                    obtain ⟨T_2, eT_2⟩ : ∃ z, z = psh T_1 fiPf S9 := ⟨_, rfl⟩
                    rw [← eT_2] at w hw2
                    refine lv_aload_n hx hbc dX7_check_114 rfl (lv_at hl 0 rfl) ?_
                    refine wb_gr (t := 0) hx hbc hg hown w inG_X7 57 (by decide) rfl rfl 2 (by decide) rfl wk_207 dX7_check_115 ?_
                    refine lv_iload_n hx hbc dX7_check_118 rfl (lv_at hl 2 rfl) ?_
                    refine lv_aload_n hx hbc dX7_check_119 rfl (lv_at hl 0 rfl) ?_
                    refine wb_gr (t := 56) hx hbc hg hown w inG_X7 57 (by decide) rfl rfl 9 (by decide) rfl wk_214 dX7_check_120 ?_
                    refine wc_Sv (na := 3) (f := (fM (56))) (As := [.ref (ad (0)), .int (nI (n)), .ref (ad (56))]) (rest := []) hx hbc hml hg hown w (EC_ok al) hE (w.1.sub (tys' := tyM cy) [0, 1, 2] rfl) (sub4A hM_D (by omega) (by omega) rfl) (k_digestRoot l D cy (fun z9 => ad (fM (56) z9)) al (sM T_2 (56)) n (by omega)) wk_412 wk_1 wk_410 wk_411 ⟨by decide, by decide, by decide⟩ ⟨by rw [hRf]; decide, by rw [hRl]; decide⟩ rfl hl.1 rfl (Nat.le_of_ble_eq_true rfl) dX7_check_123 ⟨Nat.zero_le _, Nat.zero_le _⟩ (fun S9 hp H locs w => ?_)
                    have ho9 : rtO T_2 (mgS T_2 S9) n (56) := ⟨(oth.rf T_2).mg S9, hp.2.1, hp.2.2.1, hp.2.2.2⟩
                    have w : WB D (tyC cy) 322 cy ad skD A s (mgS T_2 S9) H locs := w _ (sub4T hM_D (by omega) rfl (fun k hk => (if_pos hk).symm) (fun k hk => (if_pos hk).symm) (hp.1 3 (by decide)).2.symm (fun i hi _ => ⟨if_neg (by omega), if_neg (by omega), rfl⟩))
                    obtain ⟨T10, eT10⟩ : ∃ z, z = mgS T_2 S9 := ⟨_, rfl⟩
                    rw [← eT10] at w ho9
                    refine lv_aload_n hx hbc dX7_check_126 rfl (lv_at hl 0 rfl) ?_
                    refine wb_gr (t := 0) hx hbc hg hown w inG_X7 57 (by decide) rfl rfl 2 (by decide) rfl wk_207 dX7_check_127 ?_
                    refine lv_aload_n hx hbc dX7_check_130 rfl (lv_at hl 0 rfl) ?_
                    refine wb_gr (t := 56) hx hbc hg hown w inG_X7 57 (by decide) rfl rfl 9 (by decide) rfl wk_214 dX7_check_131 ?_
                    refine lv_bipush (v := nI (32)) hx hbc dX7_check_134 (by decide) ?_
                    refine wc_Vv (na := 2) (f := (fM 56)) (As := [.ref (ad (56)), .int (nI (32))]) (rest := []) hx hbc hml hg hown w (EC_ok al) hE (w.1.sub (tys' := tyM cy) [0, 1, 2] rfl) (sub4A hM_D (by decide) (by decide) (g := fun _ => none) rfl) 0 (by decide) rfl rfl (k_mwrite l D cy (fun k => ad (fM 56 k)) al (sM (T10) 56) 32 (by decide) 32 (by omega) (by omega)) wk_306 wk_3 wk_388 wk_304 wk_305 ⟨by decide, by decide, by decide⟩ ⟨by rw [hRf]; decide, by rw [hRl]; decide⟩ rfl hl.1 rfl (Nat.le_of_ble_eq_true rfl) dX7_check_136 ⟨Nat.zero_le _, Nat.zero_le _⟩ (fun S9 hp H locs w => ?_)
                    subst hp
                    have w : WB D (tyC cy) 322 cy ad skD A s (sB T10 56 (cps (T10.2.1 56) (sbH (T10.2.1 1)) 32)) H locs := w _ (sub4T hM_D (by decide) (g := fun _ => none) rfl (fun k hk => (by rcases (show k = 0 ∨ k = 1 ∨ k = 2 by omega) with rfl | rfl | rfl <;> rfl)) (fun k hk => (by rcases (show k = 0 ∨ k = 1 ∨ k = 2 by omega) with rfl | rfl | rfl <;> rfl)) rfl (fun i hi hc => ⟨rfl, by simp [sB, va_up, hc], rfl⟩))
                    have hw4 : wr1 S (sB T10 56 (cps (T10.2.1 56) (sbH (T10.2.1 1)) 32)) 56 (rtH n (T_2.2.1 56)) := (hw1.tr hw2).tr ⟨fun j hj hc => ⟨(ho9.1 j hj).1, (show va_up T10.2.1 56 _ j = _ by rw [va_up_ne _ _ hc]; exact (ho9.1 j hj).2)⟩, fun k hk => (show cps _ _ 32 k = _ by rw [cps_at, if_pos hk]; exact sbH_cg ho9.2.1 k hk)⟩
                    obtain ⟨T11, eT11⟩ : ∃ z, z = sB T10 56 (cps (T10.2.1 56) (sbH (T10.2.1 1)) 32) := ⟨_, rfl⟩
                    rw [← eT11] at w hw4
                    refine lv_aload_n hx hbc dX7_check_139 rfl (lv_at hl 0 rfl) ?_
                    refine wb_gr (t := 56) hx hbc hg hown w inG_X7 57 (by decide) rfl rfl 9 (by decide) rfl wk_214 dX7_check_140 ?_
                    refine lv_aload_n hx hbc dX7_check_143 rfl (lv_at hl 0 rfl) ?_
                    refine wb_gr (t := 31) hx hbc hg hown w inG_X7 57 (by decide) rfl rfl 5 (by decide) rfl wk_210 dX7_check_144 ?_
                    refine wb_gr (t := 32) hx hbc hg hown w inG_X4 31 (by decide) rfl rfl 0 (by decide) rfl wk_114 dX7_check_147 ?_
                    refine lv_iload_n hx hbc dX7_check_150 rfl (lv_at hl 1 rfl) ?_
                    refine wb_aaldA (k := e9) (t := 62 + e9) hx hbc w 32 (by decide) rfl (by decide) 5 rfl rfl (by omega) (by decide) rfl dX7_check_151 ?_
                    refine lv_bipush (v := nI (32)) hx hbc dX7_check_152 (by decide) ?_
                    have hli : Lie 322 skD 2 (skB2 32 32) (f2 (56) (62 + e9)) (fi2 (56) (62 + e9)) := lie_2 (by omega) (by omega) (by omega) rfl (skD_b _ (by omega))
                    refine wc_Si (na := 3) (f := (f2 (56) (62 + e9))) (As := [.ref (ad (56)), .ref (ad (62 + e9)), .int (nI (32))]) (rest := []) hx hbc hml hg hown w (EC_ok al) hE (w.1.sub (tys' := tyM cy) [0, 1, 2] rfl) hli.A (k_alike l D cy (fun z9 => ad (f2 (56) (62 + e9) z9)) al (pul T11 (f2 (56) (62 + e9))) 32 32 32 (by decide) (by decide) (by omega) (by omega)) wk_364 wk_1 wk_362 wk_363 ⟨by decide, by decide, by decide⟩ ⟨by rw [hRf]; decide, by rw [hRl]; decide⟩ rfl hl.1 rfl (Nat.le_of_ble_eq_true rfl) dX7_check_154 ⟨Nat.zero_le _, Nat.zero_le _⟩ (fun r S9 hp H locs w => ?_)
                    obtain rfl : S9 = pul T11 (f2 (56) (62 + e9)) := by rcases hp with ⟨_, _, h9⟩ | ⟨_, _, h9⟩ <;> exact h9
                    have w : WB D (tyC cy) 322 cy ad skD A s (T11) H locs := w _ hli.id
                    rcases hp with ⟨rfl, hal, _⟩ | ⟨rfl, hal, _⟩
                    · skip
                      refine lv_if_eq (tgt := 164) hx hbc dX7_check_157 (by decide) (fun c_157 => ?_) (fun c_157 => ?_)
                      · exact absurd c_157 (by decide)
                      · refine lv_iconst (v := nI (1)) hx hbc dX7_check_160 (by decide) ?_
                        refine lv_goto (tgt := 165) hx hbc dX7_check_161 (by decide) ?_
                        exact hend _ (T11) _ _ _ _ (Or.inr (Or.inr (Or.inr ⟨e9, n, i, kd, ⟨he9, rfl, hn1, hn, rfl, hi, rfl, hkd, rfl, ht40⟩, (by omega), (by omega), c1, T_2, T11, hck, hw2.2, hw4, Or.inl ⟨hal, rfl⟩, rfl⟩))) rfl w dX7_check_165
                    · skip
                      refine lv_if_eq (tgt := 164) hx hbc dX7_check_157 (by decide) (fun c_157 => ?_) (fun c_157 => ?_)
                      · refine lv_iconst (v := nI (0)) hx hbc dX7_check_164 (by decide) ?_
                        exact hend _ (T11) _ _ _ _ (Or.inr (Or.inr (Or.inr ⟨e9, n, i, kd, ⟨he9, rfl, hn1, hn, rfl, hi, rfl, hkd, rfl, ht40⟩, (by omega), (by omega), c1, T_2, T11, hck, hw2.2, hw4, Or.inr ⟨hal, rfl⟩, rfl⟩))) rfl w dX7_check_165
                      · exact absurd c_157 (by decide)
                  · refine lv_iconst (v := nI (0)) hx hbc dX7_check_78 (by decide) ?_
                    exact hend _ (S) _ _ _ _ (Or.inr (Or.inr (Or.inl ⟨e9, n, i, kd, ⟨he9, rfl, hn1, hn, rfl, hi, rfl, hkd, rfl, ht40⟩, Or.inr (fun h => c_75 (by rw [h])), rfl, rfl⟩))) rfl w dX7_check_79
              · exact absurd c_40 (by decide)
            · rw [hS9] at w
              have w : WB D (tyC cy) 322 cy ad skD A s (S) H locs := w
              refine lv_if_ne (tgt := 46) hx hbc dX7_check_40 (by decide) (fun c_40 => ?_) (fun c_40 => ?_)
              · exact absurd c_40 (by decide)
              · refine lv_bipush (v := (-102)) hx hbc dX7_check_43 (by decide) ?_
                exact hend _ (S) _ _ _ _ (Or.inr (Or.inl ⟨e9, he9, rfl, Or.inr (Or.inr hbad), rfl, rfl⟩)) rfl w dX7_check_45
  · refine lv_bipush (v := (-101)) hx hbc dX7_check_11 (by decide) ?_
    exact hend _ (S) _ _ _ _ (Or.inl ⟨hsF_oor c_8 (by omega), rfl, rfl⟩) rfl w dX7_check_13
