set_option maxHeartbeats 4000000 in
set_option maxRecDepth 100000 in
theorem k_gfin01 (l : Launch) (D : va_G) (cy : Nat → ClassId) (ad al : Nat → Nat) (S : wS) (h0 g : Nat → Int32) (c9 bl d : Nat) (hI : MI S h0 g c9) (hC : S.1 0 3 = nI c9) (hbl : S.1 3 6 = nI bl) (hd : S.1 8 5 = nI d) (hd2 : d < 60) (x : Int32) (hsrt : S.1 3 4 = x) (hx2 : ¬ x = nI 2) : CtI l yX1_finish (Cond.code yX1_finish cX1_finish 2 (some .int) :: wsG) 5 122 [.ref (ad (3)), .ref (ad (8))] D (tyC cy) 134 cy ad skMf (EC al) (S) (fun r S' => r = nI d ∧ finP S x d (bl + padL c9 / 64) (shaC kC h0 g c9) (shaW kC h0 g c9) S') := by
  refine CtI_of (by decide) (Nat.le_of_ble_eq_true rfl) ?_
  intro p e s m args below meth c A ls R Q hB hRf hRl hend
  obtain ⟨hx, hbc, hr, hg, hown, hml, hlk, w, hE, hl⟩ := hB
  have hl : lv_has ls 2 [(0, .ref (ad (3))), (1, .ref (ad (8)))] := hl
  have hO := mfo.rf S
  refine lv_aload_n hx hbc dX1_finish_0 rfl (lv_at hl 0 rfl) ?_
  refine wb_gr (t := 0) hx hbc hg hown w inG_X1 3 (by decide) rfl rfl 0 (by decide) rfl wk_79 dX1_finish_1 ?_
  refine wc_Vv (na := 0) (f := id) (As := []) (rest := []) hx hbc hml hg hown w (EC_ok al) hE (w.1.sub (tys' := tyM cy) [0, 1, 2] rfl) (sub3A hM_mf (by decide)) 0 (by decide) rfl rfl (k_mfinish l D cy ad al (S) h0 g c9 hI hC) wk_301 wk_3 wk_298 wk_299 wk_300 ⟨by decide, by decide, by decide⟩ ⟨by rw [hRf]; decide, by rw [hRl]; decide⟩ rfl hl.1 rfl (Nat.le_of_ble_eq_true rfl) dX1_finish_4 ⟨Nat.zero_le _, Nat.zero_le _⟩ (fun S9 hp H locs w => ?_)
  have w : WB D (tyC cy) 134 cy ad skMf A s (mgS S S9) H locs := w _ (sub3T hM_mf _)
  have hB6 : (mgS S S9).1 3 6 = nI bl := hbl
  have hI : MI (mgS S S9) h0 (padM g c9) (padL c9) := mg_MI hp.1
  have hC : (mgS S S9).1 0 3 = nI (c9) := hp.2
  have hO := hO.mg S9
  obtain ⟨S_1, eS_1⟩ : ∃ z, z = mgS S S9 := ⟨_, rfl⟩
  rw [← eS_1] at w hI hC hO hB6
  have hF := hI.fin
  refine lv_aload_n hx hbc dX1_finish_7 rfl (lv_at hl 0 rfl) ?_
  refine lv_dup hx hbc dX1_finish_8 rfl ?_
  refine wb_gi (v := nI (bl)) hx hbc hg hown w inG_X1 3 (by decide) rfl rfl 6 (by decide) rfl wk_86 hB6 dX1_finish_9 ?_
  refine lv_aload_n hx hbc dX1_finish_12 rfl (lv_at hl 0 rfl) ?_
  refine wb_gr (t := 0) hx hbc hg hown w inG_X1 3 (by decide) rfl rfl 0 (by decide) rfl wk_79 dX1_finish_13 ?_
  refine wb_gi (v := nI (padL c9 / 64)) hx hbc hg hown w inG_X2 0 (by decide) rfl rfl 4 (by decide) rfl wk_59 hI.2.1 dX1_finish_16 ?_
  refine n_iadd hx hbc dX1_finish_19 ?_
  refine wb_pi (v := nI (bl + (padL c9 / 64))) hx hbc hg hown w inG_X1 tyX1 tyX1_ok nmX1 3 (by decide) rfl rfl 6 (by decide) rfl wk_86 rfl rfl rfl rfl dX1_finish_20 (fun H locs w => ?_)
  refine lv_aload_n hx hbc dX1_finish_23 rfl (lv_at hl 0 rfl) ?_
  refine wb_gi (v := x) hx hbc hg hown w inG_X1 3 (by decide) rfl rfl 4 (by decide) rfl wk_83 ((hO.2.1 4 (by decide)).trans hsrt) dX1_finish_24 ?_
  refine lv_iconst (v := nI (2)) hx hbc dX1_finish_27 (by decide) ?_
  refine lv_icmp_ne (tgt := 86) hx hbc dX1_finish_28 (by decide) (fun c_28 => ?_) (fun c_28 => ?_)
  · refine lv_aload_n hx hbc dX1_finish_86 rfl (lv_at hl 1 rfl) ?_
    refine lv_aload_n hx hbc dX1_finish_87 rfl (lv_at hl 0 rfl) ?_
    refine wb_gi (v := x) hx hbc hg hown w inG_X1 3 (by decide) rfl rfl 4 (by decide) rfl wk_83 ((hO.2.1 4 (by decide)).trans hsrt) dX1_finish_88 ?_
    refine lv_aload_n hx hbc dX1_finish_91 rfl (lv_at hl 0 rfl) ?_
    refine wb_gi (v := nI (bl + (padL c9 / 64))) hx hbc hg hown w inG_X1 3 (by decide) rfl rfl 6 (by decide) rfl wk_86 rfl dX1_finish_92 ?_
    refine lv_aload_n hx hbc dX1_finish_95 rfl (lv_at hl 0 rfl) ?_
    refine wb_gr (t := 0) hx hbc hg hown w inG_X1 3 (by decide) rfl rfl 0 (by decide) rfl wk_79 dX1_finish_96 ?_
    refine wc_Vi (na := 3) (f := fSA) (As := [.int (x), .int (nI (bl + (padL c9 / 64))), .ref (ad (0))]) (rest := []) hx hbc hml hg hown w (EC_ok al) hE w.1 lie_SA.A 8 (by decide) rfl rfl (k_shelfAdd l D cy (fun k => ad (fSA k)) al (pul (sI S_1 3 6 (nI (bl + (padL c9 / 64)))) fSA) x (bl + (padL c9 / 64)) d ((congrFun (hO.1 8 (by decide)) 5).trans hd) hd2) wk_328 wk_5 wk_325 wk_326 wk_327 ⟨by decide, by decide, by decide⟩ ⟨by rw [hRf]; decide, by rw [hRl]; decide⟩ rfl hl.1 rfl (Nat.le_of_ble_eq_true rfl) dX1_finish_99 ⟨Nat.zero_le _, Nat.zero_le _⟩ (fun r S9 hp H locs w => ?_)
    obtain ⟨hr9, hp⟩ := hp
    subst hr9
    subst hp
    have w : WB D (tyC cy) 134 cy ad skMf A s (psh (sI S_1 3 6 (nI (bl + (padL c9 / 64)))) fiSA (adS (pul (sI S_1 3 6 (nI (bl + (padL c9 / 64)))) fSA) x d (bl + (padL c9 / 64)))) H locs := w _ (lie_SA.T _)
    exact hend _ (psh (sI S_1 3 6 (nI (bl + (padL c9 / 64)))) fiSA (adS (pul (sI S_1 3 6 (nI (bl + (padL c9 / 64)))) fSA) x d (bl + (padL c9 / 64)))) _ _ _ _ ⟨rfl, (sI S_1 3 6 (nI (bl + (padL c9 / 64)))), hO.b _, hF.1, hF.2.1, rfl⟩ rfl w dX1_finish_102
  · exact absurd c_28 hx2
set_option maxHeartbeats 4000000 in
set_option maxRecDepth 100000 in
theorem k_gfin2 (l : Launch) (D : va_G) (cy : Nat → ClassId) (ad al : Nat → Nat) (S : wS) (h0 g : Nat → Int32) (c9 bl d : Nat) (hI : MI S h0 g c9) (hC : S.1 0 3 = nI c9) (hbl : S.1 3 6 = nI bl) (hd : S.1 8 5 = nI d) (hd2 : d < 60) (hsrt : S.1 3 4 = nI 2) : CtI l yX1_finish (Cond.code yX1_finish cX1_finish 2 (some .int) :: wsG) 6 141 [.ref (ad (3)), .ref (ad (8))] D (tyC cy) 134 cy ad skMf (EC al) (S) (fun r S' => r = nI d ∧ finP S (nI 2) d (bl + padL c9 / 64 + padL (64 + 32) / 64) (shaC kC wC0 (okG (S.2.1 4) (shaC kC h0 g c9)) (64 + 32)) (shaW kC wC0 (okG (S.2.1 4) (shaC kC h0 g c9)) (64 + 32)) S') := by
  refine CtI_of (by decide) (Nat.le_of_ble_eq_true rfl) ?_
  intro p e s m args below meth c A ls R Q hB hRf hRl hend
  obtain ⟨hx, hbc, hr, hg, hown, hml, hlk, w, hE, hl⟩ := hB
  have hl : lv_has ls 2 [(0, .ref (ad (3))), (1, .ref (ad (8)))] := hl
  have hO := mfo.rf S
  refine lv_aload_n hx hbc dX1_finish_0 rfl (lv_at hl 0 rfl) ?_
  refine wb_gr (t := 0) hx hbc hg hown w inG_X1 3 (by decide) rfl rfl 0 (by decide) rfl wk_79 dX1_finish_1 ?_
  refine wc_Vv (na := 0) (f := id) (As := []) (rest := []) hx hbc hml hg hown w (EC_ok al) hE (w.1.sub (tys' := tyM cy) [0, 1, 2] rfl) (sub3A hM_mf (by decide)) 0 (by decide) rfl rfl (k_mfinish l D cy ad al (S) h0 g c9 hI hC) wk_301 wk_3 wk_298 wk_299 wk_300 ⟨by decide, by decide, by decide⟩ ⟨by rw [hRf]; decide, by rw [hRl]; decide⟩ rfl hl.1 rfl (Nat.le_of_ble_eq_true rfl) dX1_finish_4 ⟨Nat.zero_le _, Nat.zero_le _⟩ (fun S9 hp H locs w => ?_)
  have w : WB D (tyC cy) 134 cy ad skMf A s (mgS S S9) H locs := w _ (sub3T hM_mf _)
  have hB6 : (mgS S S9).1 3 6 = nI bl := hbl
  have hI : MI (mgS S S9) h0 (padM g c9) (padL c9) := mg_MI hp.1
  have hC : (mgS S S9).1 0 3 = nI (c9) := hp.2
  have hO := hO.mg S9
  obtain ⟨S_1, eS_1⟩ : ∃ z, z = mgS S S9 := ⟨_, rfl⟩
  rw [← eS_1] at w hI hC hO hB6
  have hF := hI.fin
  refine lv_aload_n hx hbc dX1_finish_7 rfl (lv_at hl 0 rfl) ?_
  refine lv_dup hx hbc dX1_finish_8 rfl ?_
  refine wb_gi (v := nI (bl)) hx hbc hg hown w inG_X1 3 (by decide) rfl rfl 6 (by decide) rfl wk_86 hB6 dX1_finish_9 ?_
  refine lv_aload_n hx hbc dX1_finish_12 rfl (lv_at hl 0 rfl) ?_
  refine wb_gr (t := 0) hx hbc hg hown w inG_X1 3 (by decide) rfl rfl 0 (by decide) rfl wk_79 dX1_finish_13 ?_
  refine wb_gi (v := nI (padL c9 / 64)) hx hbc hg hown w inG_X2 0 (by decide) rfl rfl 4 (by decide) rfl wk_59 hI.2.1 dX1_finish_16 ?_
  refine n_iadd hx hbc dX1_finish_19 ?_
  refine wb_pi (v := nI (bl + (padL c9 / 64))) hx hbc hg hown w inG_X1 tyX1 tyX1_ok nmX1 3 (by decide) rfl rfl 6 (by decide) rfl wk_86 rfl rfl rfl rfl dX1_finish_20 (fun H locs w => ?_)
  refine lv_aload_n hx hbc dX1_finish_23 rfl (lv_at hl 0 rfl) ?_
  refine wb_gi (v := nI (2)) hx hbc hg hown w inG_X1 3 (by decide) rfl rfl 4 (by decide) rfl wk_83 ((hO.2.1 4 (by decide)).trans hsrt) dX1_finish_24 ?_
  refine lv_iconst (v := nI (2)) hx hbc dX1_finish_27 (by decide) ?_
  refine n_cmp_ne (tgt := 86) (by omega) (by omega) hx hbc dX1_finish_28 (by decide) (fun c_28 => ?_) (fun c_28 => ?_)
  · exact absurd c_28 (by decide)
  · refine lv_aload_n hx hbc dX1_finish_31 rfl (lv_at hl 0 rfl) ?_
    refine wb_gr (t := 0) hx hbc hg hown w inG_X1 3 (by decide) rfl rfl 0 (by decide) rfl wk_79 dX1_finish_32 ?_
    refine lv_aload_n hx hbc dX1_finish_35 rfl (lv_at hl 0 rfl) ?_
    refine wb_gr (t := 5) hx hbc hg hown w inG_X1 3 (by decide) rfl rfl 2 (by decide) rfl wk_81 dX1_finish_36 ?_
    refine lv_bipush (v := nI (32)) hx hbc dX1_finish_39 (by decide) ?_
    refine wc_Vv (na := 2) (f := (fM 5)) (As := [.ref (ad (5)), .int (nI (32))]) (rest := []) hx hbc hml hg hown w (EC_ok al) hE (w.1.sub (tys' := tyM cy) [0, 1, 2] rfl) (sub4A hM_mf (by decide) (by decide) (g := fun _ => none) rfl) 0 (by decide) rfl rfl (k_mwrite l D cy (fun k => ad (fM 5 k)) al (sM (sI S_1 3 6 (nI (bl + (padL c9 / 64)))) 5) 32 (by decide) 32 (by omega) (by omega)) wk_306 wk_3 wk_303 wk_304 wk_305 ⟨by decide, by decide, by decide⟩ ⟨by rw [hRf]; decide, by rw [hRl]; decide⟩ rfl hl.1 rfl (Nat.le_of_ble_eq_true rfl) dX1_finish_41 ⟨Nat.zero_le _, Nat.zero_le _⟩ (fun S9 hp H locs w => ?_)
    subst hp
    have w : WB D (tyC cy) 134 cy ad skMf A s (sB (sI S_1 3 6 (nI (bl + (padL c9 / 64)))) 5 (cps ((sI S_1 3 6 (nI (bl + (padL c9 / 64)))).2.1 5) (sbH ((sI S_1 3 6 (nI (bl + (padL c9 / 64)))).2.1 1)) 32)) H locs := w _ (sub4T hM_mf (by decide) (g := fun _ => none) rfl (fun k hk => (by rcases (show k = 0 ∨ k = 1 ∨ k = 2 by omega) with rfl | rfl | rfl <;> rfl)) (fun k hk => (by rcases (show k = 0 ∨ k = 1 ∨ k = 2 by omega) with rfl | rfl | rfl <;> rfl)) rfl (fun i hi hc => ⟨rfl, by simp [sB, va_up, hc], rfl⟩))
    have hO : mfo S (sB (sI S_1 3 6 (nI (bl + (padL c9 / 64)))) 5 (cps ((sI S_1 3 6 (nI (bl + (padL c9 / 64)))).2.1 5) (sbH ((sI S_1 3 6 (nI (bl + (padL c9 / 64)))).2.1 1)) 32)) := (hO.b _).w _
    refine lv_aload_n hx hbc dX1_finish_44 rfl (lv_at hl 0 rfl) ?_
    refine lv_bipush (v := nI (92)) hx hbc dX1_finish_45 (by decide) ?_
    refine wc_Vv (na := 1) (f := id) (As := [.int (nI (92))]) (rest := []) hx hbc hml hg hown w (EC_ok al) hE (w.1.sub (tys' := tyM cy) [0, 1, 2] rfl) lie_Mg.A 3 (by decide) rfl rfl (k_gbeginLocked l D cy (fun k => ad (id k)) al (pul (sB (sI S_1 3 6 (nI (bl + (padL c9 / 64)))) 5 (cps ((sI S_1 3 6 (nI (bl + (padL c9 / 64)))).2.1 5) (sbH ((sI S_1 3 6 (nI (bl + (padL c9 / 64)))).2.1 1)) 32)) id) (okG (S.2.1 4) (shaC kC h0 g c9)) 92 (fun k hk => (by rw [okG, if_pos hk]; exact congrArg (fun z => (z ^^^ nI 92) &&& nI 255) (congrFun (hO.2.2 4 (by decide) (by decide)) k)))) wk_310 wk_4 wk_307 wk_309 ws_3 ⟨by decide, by decide, by decide⟩ ⟨by rw [hRf]; decide, by rw [hRl]; decide⟩ rfl hl.1 rfl (Nat.le_of_ble_eq_true rfl) dX1_finish_47 ⟨Nat.zero_le _, Nat.zero_le _⟩ (fun S9 hp H locs w => ?_)
    have w : WB D (tyC cy) 134 cy ad skMf A s (psh (sB (sI S_1 3 6 (nI (bl + (padL c9 / 64)))) 5 (cps ((sI S_1 3 6 (nI (bl + (padL c9 / 64)))).2.1 5) (sbH ((sI S_1 3 6 (nI (bl + (padL c9 / 64)))).2.1 1)) 32)) fi8 S9) H locs := w _ (lie_Mg.T _)
    have hI : MI (psh (sB (sI S_1 3 6 (nI (bl + (padL c9 / 64)))) 5 (cps ((sI S_1 3 6 (nI (bl + (padL c9 / 64)))).2.1 5) (sbH ((sI S_1 3 6 (nI (bl + (padL c9 / 64)))).2.1 1)) 32)) fi8 S9) wC0 (okG (S.2.1 4) (shaC kC h0 g c9)) 64 := hp.2.1
    have hC : (psh (sB (sI S_1 3 6 (nI (bl + (padL c9 / 64)))) 5 (cps ((sI S_1 3 6 (nI (bl + (padL c9 / 64)))).2.1 5) (sbH ((sI S_1 3 6 (nI (bl + (padL c9 / 64)))).2.1 1)) 32)) fi8 S9).1 0 3 = nI 64 := hp.2.2
    have hB6 : (psh (sB (sI S_1 3 6 (nI (bl + (padL c9 / 64)))) 5 (cps ((sI S_1 3 6 (nI (bl + (padL c9 / 64)))).2.1 5) (sbH ((sI S_1 3 6 (nI (bl + (padL c9 / 64)))).2.1 1)) 32)) fi8 S9).1 3 6 = nI (bl + padL c9 / 64) := congrFun (hp.1 3 (by decide)).1 6
    have hN : ∀ k, k < 32 → (psh (sB (sI S_1 3 6 (nI (bl + (padL c9 / 64)))) 5 (cps ((sI S_1 3 6 (nI (bl + (padL c9 / 64)))).2.1 5) (sbH ((sI S_1 3 6 (nI (bl + (padL c9 / 64)))).2.1 1)) 32)) fi8 S9).2.1 5 k = sbH (shaC kC h0 g c9) k := fun k hk => (congrFun (hp.1 5 (by decide)).2 k).trans (show cps _ _ 32 k = _ by rw [cps_at, if_pos hk]; exact sbH_cg hF.1 k hk)
    have hO := hO.p hp.1
    obtain ⟨S_2, eS_2⟩ : ∃ z, z = psh (sB (sI S_1 3 6 (nI (bl + (padL c9 / 64)))) 5 (cps ((sI S_1 3 6 (nI (bl + (padL c9 / 64)))).2.1 5) (sbH ((sI S_1 3 6 (nI (bl + (padL c9 / 64)))).2.1 1)) 32)) fi8 S9 := ⟨_, rfl⟩
    rw [← eS_2] at w hI hC hO hB6 hN
    refine lv_aload_n hx hbc dX1_finish_50 rfl (lv_at hl 0 rfl) ?_
    refine wb_gr (t := 0) hx hbc hg hown w inG_X1 3 (by decide) rfl rfl 0 (by decide) rfl wk_79 dX1_finish_51 ?_
    refine lv_aload_n hx hbc dX1_finish_54 rfl (lv_at hl 0 rfl) ?_
    refine wb_gr (t := 5) hx hbc hg hown w inG_X1 3 (by decide) rfl rfl 2 (by decide) rfl wk_81 dX1_finish_55 ?_
    refine lv_bipush (v := nI (32)) hx hbc dX1_finish_58 (by decide) ?_
    refine wc_Vv (na := 2) (f := (fM 5)) (As := [.ref (ad (5)), .int (nI (32))]) (rest := []) hx hbc hml hg hown w (EC_ok al) hE (w.1.sub (tys' := tyM cy) [0, 1, 2] rfl) (sub4A hM_mf (by decide) (by decide) (g := fun _ => none) rfl) 0 (by decide) rfl rfl (k_mtake l D cy (fun k => ad (fM 5 k)) al (sM (S_2) 5) 32 (by decide) 32 (by omega) wC0 (okG (S.2.1 4) (shaC kC h0 g c9)) 64 64 hI (fun k hk => (by rw [okG, if_neg (by omega)]; exact congrArg (fun z => z &&& nI 255) ((hN k hk).trans (congrArg (sbH (shaC kC h0 g c9)) (by omega))))) hC) wk_280 wk_3 wk_277 wk_278 wk_279 ⟨by decide, by decide, by decide⟩ ⟨by rw [hRf]; decide, by rw [hRl]; decide⟩ rfl hl.1 rfl (Nat.le_of_ble_eq_true rfl) dX1_finish_60 ⟨Nat.zero_le _, Nat.zero_le _⟩ (fun S9 hp H locs w => ?_)
    have w : WB D (tyC cy) 134 cy ad skMf A s (mgS S_2 S9) H locs := w _ (sub4T hM_mf (by decide) (g := fun _ => none) rfl (fun k hk => (if_pos hk).symm) (fun k hk => (if_pos hk).symm) hp.2.2.symm (fun i hi _ => ⟨if_neg (by omega), if_neg (by omega), rfl⟩))
    have hB6 : (mgS S_2 S9).1 3 6 = nI (bl + padL c9 / 64) := hB6
    have hI : MI (mgS S_2 S9) wC0 (okG (S.2.1 4) (shaC kC h0 g c9)) (64 + 32) := mg_MI hp.1
    have hC : (mgS S_2 S9).1 0 3 = nI (64 + 32) := hp.2.1
    have hO := hO.mg S9
    obtain ⟨S_3, eS_3⟩ : ∃ z, z = mgS S_2 S9 := ⟨_, rfl⟩
    rw [← eS_3] at w hI hC hO hB6
    refine lv_aload_n hx hbc dX1_finish_63 rfl (lv_at hl 0 rfl) ?_
    refine wb_gr (t := 0) hx hbc hg hown w inG_X1 3 (by decide) rfl rfl 0 (by decide) rfl wk_79 dX1_finish_64 ?_
    refine wc_Vv (na := 0) (f := id) (As := []) (rest := []) hx hbc hml hg hown w (EC_ok al) hE (w.1.sub (tys' := tyM cy) [0, 1, 2] rfl) (sub3A hM_mf (by decide)) 0 (by decide) rfl rfl (k_mfinish l D cy ad al (S_3) wC0 (okG (S.2.1 4) (shaC kC h0 g c9)) (64 + 32) hI hC) wk_301 wk_3 wk_298 wk_299 wk_300 ⟨by decide, by decide, by decide⟩ ⟨by rw [hRf]; decide, by rw [hRl]; decide⟩ rfl hl.1 rfl (Nat.le_of_ble_eq_true rfl) dX1_finish_67 ⟨Nat.zero_le _, Nat.zero_le _⟩ (fun S9 hp H locs w => ?_)
    have w : WB D (tyC cy) 134 cy ad skMf A s (mgS S_3 S9) H locs := w _ (sub3T hM_mf _)
    have hB6 : (mgS S_3 S9).1 3 6 = nI (bl + padL c9 / 64) := hB6
    have hI : MI (mgS S_3 S9) wC0 (padM (okG (S.2.1 4) (shaC kC h0 g c9)) (64 + 32)) (padL (64 + 32)) := mg_MI hp.1
    have hC : (mgS S_3 S9).1 0 3 = nI (64 + 32) := hp.2
    have hO := hO.mg S9
    obtain ⟨S_4, eS_4⟩ : ∃ z, z = mgS S_3 S9 := ⟨_, rfl⟩
    rw [← eS_4] at w hI hC hO hB6
    have hF := hI.fin
    refine lv_aload_n hx hbc dX1_finish_70 rfl (lv_at hl 0 rfl) ?_
    refine lv_dup hx hbc dX1_finish_71 rfl ?_
    refine wb_gi (v := nI (bl + padL c9 / 64)) hx hbc hg hown w inG_X1 3 (by decide) rfl rfl 6 (by decide) rfl wk_86 hB6 dX1_finish_72 ?_
    refine lv_aload_n hx hbc dX1_finish_75 rfl (lv_at hl 0 rfl) ?_
    refine wb_gr (t := 0) hx hbc hg hown w inG_X1 3 (by decide) rfl rfl 0 (by decide) rfl wk_79 dX1_finish_76 ?_
    refine wb_gi (v := nI (padL (64 + 32) / 64)) hx hbc hg hown w inG_X2 0 (by decide) rfl rfl 4 (by decide) rfl wk_59 hI.2.1 dX1_finish_79 ?_
    refine n_iadd hx hbc dX1_finish_82 ?_
    refine wb_pi (v := nI ((bl + padL c9 / 64) + (padL (64 + 32) / 64))) hx hbc hg hown w inG_X1 tyX1 tyX1_ok nmX1 3 (by decide) rfl rfl 6 (by decide) rfl wk_86 rfl rfl rfl rfl dX1_finish_83 (fun H locs w => ?_)
    refine lv_aload_n hx hbc dX1_finish_86 rfl (lv_at hl 1 rfl) ?_
    refine lv_aload_n hx hbc dX1_finish_87 rfl (lv_at hl 0 rfl) ?_
    refine wb_gi (v := nI (2)) hx hbc hg hown w inG_X1 3 (by decide) rfl rfl 4 (by decide) rfl wk_83 ((hO.2.1 4 (by decide)).trans hsrt) dX1_finish_88 ?_
    refine lv_aload_n hx hbc dX1_finish_91 rfl (lv_at hl 0 rfl) ?_
    refine wb_gi (v := nI ((bl + padL c9 / 64) + (padL (64 + 32) / 64))) hx hbc hg hown w inG_X1 3 (by decide) rfl rfl 6 (by decide) rfl wk_86 rfl dX1_finish_92 ?_
    refine lv_aload_n hx hbc dX1_finish_95 rfl (lv_at hl 0 rfl) ?_
    refine wb_gr (t := 0) hx hbc hg hown w inG_X1 3 (by decide) rfl rfl 0 (by decide) rfl wk_79 dX1_finish_96 ?_
    refine wc_Vi (na := 3) (f := fSA) (As := [.int (nI (2)), .int (nI ((bl + padL c9 / 64) + (padL (64 + 32) / 64))), .ref (ad (0))]) (rest := []) hx hbc hml hg hown w (EC_ok al) hE w.1 lie_SA.A 8 (by decide) rfl rfl (k_shelfAdd l D cy (fun k => ad (fSA k)) al (pul (sI S_4 3 6 (nI ((bl + padL c9 / 64) + (padL (64 + 32) / 64)))) fSA) (nI (2)) ((bl + padL c9 / 64) + (padL (64 + 32) / 64)) d ((congrFun (hO.1 8 (by decide)) 5).trans hd) hd2) wk_328 wk_5 wk_325 wk_326 wk_327 ⟨by decide, by decide, by decide⟩ ⟨by rw [hRf]; decide, by rw [hRl]; decide⟩ rfl hl.1 rfl (Nat.le_of_ble_eq_true rfl) dX1_finish_99 ⟨Nat.zero_le _, Nat.zero_le _⟩ (fun r S9 hp H locs w => ?_)
    obtain ⟨hr9, hp⟩ := hp
    subst hr9
    subst hp
    have w : WB D (tyC cy) 134 cy ad skMf A s (psh (sI S_4 3 6 (nI ((bl + padL c9 / 64) + (padL (64 + 32) / 64)))) fiSA (adS (pul (sI S_4 3 6 (nI ((bl + padL c9 / 64) + (padL (64 + 32) / 64)))) fSA) (nI (2)) d ((bl + padL c9 / 64) + (padL (64 + 32) / 64)))) H locs := w _ (lie_SA.T _)
    exact hend _ (psh (sI S_4 3 6 (nI ((bl + padL c9 / 64) + (padL (64 + 32) / 64)))) fiSA (adS (pul (sI S_4 3 6 (nI ((bl + padL c9 / 64) + (padL (64 + 32) / 64)))) fSA) (nI (2)) d ((bl + padL c9 / 64) + (padL (64 + 32) / 64)))) _ _ _ _ ⟨rfl, (sI S_4 3 6 (nI ((bl + padL c9 / 64) + (padL (64 + 32) / 64)))), hO.b _, hF.1, hF.2.1, rfl⟩ rfl w dX1_finish_102
