set_option maxHeartbeats 1000000 in
set_option maxRecDepth 100000 in
theorem k_D_digest (l : Launch) (D : va_G) (cy : Nat → ClassId) (ad al : Nat → Nat) (S : wS) (x : Int32) (t : Nat) (ht : S.1 58 1 = nI t) (ht2 : t ≤ 200) (d : Nat) (hd : S.1 31 5 = nI d) (hd2 : d ≤ 60) (ks : Nat) (hks : S.1 60 1 = nI ks) (hks2 : ks ≤ 200) (hkf : ∀ i, fits .byte (.int (S.2.1 61 i)) = true) : CtI l yX7_digest (Cond.code yX7_digest cX7_digest 2 (some .int) :: wsG) 7 165 [.ref (ad (57)), .int (x)] D (tyC cy) 322 cy ad skD (EC al) (S) (fun r S' => (oor x 3 ∧ r = (-102) ∧ S' = S) ∨ (∃ k, k ≤ 2 ∧ x = nI k ∧ d = 60 ∧ r = (-103) ∧ S' = S) ∨ (∃ (k : Nat) (U : wS) (lk : Nat → Int32) (bl : Nat), k ≤ 2 ∧ x = nI k ∧ d < 60 ∧ r = nI d ∧ ((k ≠ 2 ∧ bl = 0) ∨ (k = 2 ∧ lk = lk0 ks (S.2.1 61) ∧ bl = lkQ ks)) ∧ bgO S U 0 ∧ fin9 (sI U 58 1 (nI 0)) 0 k lk (ext (fun _ => 0) 0 (S.2.1 59)) bl (0 + t) d S')) := by
  refine CtI_of (by decide) (Nat.le_of_ble_eq_true rfl) ?_
  intro p e s m args below meth c A ls R Q hB hRf hRl hend
  obtain ⟨hx, hbc, hr, hg, hown, hml, hlk, w, hE, hl⟩ := hB
  have hl : lv_has ls 2 [(0, .ref (ad (57))), (1, .int (x))] := hl
  refine lv_iload_n hx hbc dX7_digest_0 rfl (lv_at hl 1 rfl) ?_
  refine wb_Si (na := 1) (As := [.int (x)]) (rest := []) hx hbc hml hg hown w E0_ok trivial (w.1.sub (tys' := tyM cy) [0, 1, 2] rfl) Sub.none (k_isSort l D cy ad al (S) x) wk_253 wk_1 wk_251 wk_252 ⟨by decide, by decide, by decide⟩ ⟨by rw [hRf]; decide, by rw [hRl]; decide⟩ rfl hl.1 rfl (Nat.le_of_ble_eq_true rfl) dX7_digest_1 ⟨Nat.zero_le _, Nat.zero_le _⟩ (fun r S9 H locs hp w => ?_)
  subst hp
  refine lv_if_ne (tgt := 10) hx hbc dX7_digest_4 (by decide) (fun c_4 => ?_) (fun c_4 => ?_)
  · obtain ⟨k, hk, rfl⟩ := inF_nzb c_4 (by decide)
    refine lv_aload_n hx hbc dX7_digest_10 rfl (lv_at hl 0 rfl) ?_
    refine wb_gr (t := 31) hx hbc hg hown w inG_X7 57 (by decide) rfl rfl 5 (by decide) rfl wk_210 dX7_digest_11 ?_
    refine wc_Vi (na := 0) (f := (fun z9 => z9 + 31)) (As := []) (rest := []) hx hbc hml hg hown w (EC_ok al) hE (w.1.sub (tys' := tyM cy) [0, 1, 2] rfl) lie_sh.A 31 (by decide) rfl rfl (k_sfull l D cy (fun z9 => ad (z9 + 31)) al (pul S (fun z9 => z9 + 31)) d hd hd2) wk_257 wk_5 wk_254 wk_255 wk_256 ⟨by decide, by decide, by decide⟩ ⟨by rw [hRf]; decide, by rw [hRl]; decide⟩ rfl hl.1 rfl (Nat.le_of_ble_eq_true rfl) dX7_digest_14 ⟨Nat.zero_le _, Nat.zero_le _⟩ (fun r S9 hp H locs w => ?_)
    obtain ⟨hr9, hp⟩ := hp
    subst hr9
    subst hp
    have w : WB D (tyC cy) 322 cy ad skD A s (S) H locs := w _ lie_sh.id
    refine lv_if_eq (tgt := 23) hx hbc dX7_digest_17 (by decide) (fun c_17 => ?_) (fun c_17 => ?_)
    · have hd3 := full_0 c_17
      rcases (show k = 0 ∨ k = 1 ∨ k = 2 by omega) with rfl | rfl | rfl
      · skip
        refine lv_aload_n hx hbc dX7_digest_23 rfl (lv_at hl 0 rfl) ?_
        refine wb_gr (t := 15) hx hbc hg hown w inG_X7 57 (by decide) rfl rfl 3 (by decide) rfl wk_208 dX7_digest_24 ?_
        refine lv_iload_n hx hbc dX7_digest_27 rfl (lv_at hl 1 rfl) ?_
        refine lv_aload_n hx hbc dX7_digest_28 rfl (lv_at hl 0 rfl) ?_
        refine wb_gr (t := 60) hx hbc hg hown w inG_X7 57 (by decide) rfl rfl 1 (by decide) rfl wk_206 dX7_digest_29 ?_
        refine wc_Vv (na := 2) (f := (fMg 0 60)) (As := [.int (nI (0)), .ref (ad (60))]) (rest := []) hx hbc hml hg hown w (EC_ok al) hE (w.1.sub (tys' := tyM cy) [0, 1, 2] rfl) (lieMg 0 60 (by omega) (Or.inr rfl)).A 15 (by decide) rfl rfl (k_gbegin0 l D cy (fun z9 => ad (fMg 0 60 z9)) al (pul S (fMg 0 60))) wk_261 wk_4 wk_258 wk_259 wk_260 ⟨by decide, by decide, by decide⟩ ⟨by rw [hRf]; decide, by rw [hRl]; decide⟩ rfl hl.1 rfl (Nat.le_of_ble_eq_true rfl) dX7_digest_32 ⟨Nat.zero_le _, Nat.zero_le _⟩ (fun S9 hp H locs w => ?_)
        subst hp
        have hb9 := bg01 (pul S (fMg 0 60)) 0 wC0 (fun _ => 0) (fun _ => 0) rfl (by decide)
        have w : WB D (tyC cy) 322 cy ad skD A s (psh S (fiMg 0 60) (mgS (bgB (pul S (fMg 0 60)) 0) (mbg (bgB (pul S (fMg 0 60)) 0) wC0))) H locs := w _ ((lieMg 0 60 (by omega) (Or.inr rfl)).T _)
        have hpu := mg_push (S := S) (m := 0) (b := 60) (by omega) (Or.inr rfl) hb9.2.1 hb9.2.2
        have hbo : bgO S (psh S (fiMg 0 60) (mgS (bgB (pul S (fMg 0 60)) 0) (mbg (bgB (pul S (fMg 0 60)) 0) wC0))) 0 := hpu.1
        have hMO : MO (pul (psh S (fiMg 0 60) (mgS (bgB (pul S (fMg 0 60)) 0) (mbg (bgB (pul S (fMg 0 60)) 0) wC0))) (fMg 0 58)) 0 (fun _ => 0) 0 (fun _ => 0) 0 := hb9.1.sm (hpu.2 58)
        obtain ⟨U1, eU1⟩ : ∃ z, z = psh S (fiMg 0 60) (mgS (bgB (pul S (fMg 0 60)) 0) (mbg (bgB (pul S (fMg 0 60)) 0) wC0)) := ⟨_, rfl⟩
        rw [← eU1] at w hbo hMO
        refine lv_aload_n hx hbc dX7_digest_35 rfl (lv_at hl 0 rfl) ?_
        refine wb_gr (t := 15) hx hbc hg hown w inG_X7 57 (by decide) rfl rfl 3 (by decide) rfl wk_208 dX7_digest_36 ?_
        refine lv_aload_n hx hbc dX7_digest_39 rfl (lv_at hl 0 rfl) ?_
        refine wb_gr (t := 58) hx hbc hg hown w inG_X7 57 (by decide) rfl rfl 0 (by decide) rfl wk_205 dX7_digest_40 ?_
        obtain ⟨h9, G9, c9, hI9, hC9, hby9, hbk9⟩ := hMO.take_pre t (U1.2.1 59)
        refine wc_Vv (na := 1) (f := (fMg 0 58)) (As := [.ref (ad (58))]) (rest := []) hx hbc hml hg hown w (EC_ok al) hE (w.1.sub (tys' := tyM cy) [0, 1, 2] rfl) (lieMg 0 58 (by omega) (Or.inl rfl)).A 15 (by decide) rfl rfl (k_gtake l D cy (fun z9 => ad (fMg 0 58 z9)) al (pul U1 (fMg 0 58)) h9 G9 c9 t 0 hI9 hC9 (show U1.1 58 1 = nI t from ((congrFun (hbo.1 58 (by omega) (by omega)).1 1).trans ht)) ht2 hMO.2.2.1 hby9) wk_320 wk_4 wk_317 wk_318 wk_319 ⟨by decide, by decide, by decide⟩ ⟨by rw [hRf]; decide, by rw [hRl]; decide⟩ rfl hl.1 rfl (Nat.le_of_ble_eq_true rfl) dX7_digest_43 ⟨Nat.zero_le _, Nat.zero_le _⟩ (fun S9 hp H locs w => ?_)
        obtain ⟨T8, hoT, hMT, hCT, hp⟩ := hp
        have hMO2 := hbk9 T8 S9 hoT hMT hCT hp
        have w : WB D (tyC cy) 322 cy ad skD A s (psh U1 (fiMg 0 58) S9) H locs := w _ ((lieMg 0 58 (by omega) (Or.inl rfl)).T _)
        have hpu := mg_push (S := U1) (m := 0) (b := 58) (X := S9) (by omega) (Or.inl rfl) (fun i hi => (by rw [hp]; refine ⟨?_, (hoT i (by omega)).2⟩; show va_up T8.1 3 _ i = _; rw [va_up_ne _ _ (by omega)]; exact (hoT i (by omega)).1)) (by rw [hp]; exact congrFun (hoT 3 (by decide)).1 3)
        have hbo2 : bgO S (psh U1 (fiMg 0 58) S9) 0 := hbo.tr hpu.1
        have hMO2 : MO (pul (psh U1 (fiMg 0 58) S9) (fMg 0 58)) 0 (fun _ => 0) 0 (ext (fun _ => 0) 0 (U1.2.1 59)) (0 + t) := hMO2.sm (hpu.2 58)
        obtain ⟨U2, eU2⟩ : ∃ z, z = psh U1 (fiMg 0 58) S9 := ⟨_, rfl⟩
        rw [← eU2] at w hbo2 hMO2
        rw [(hbo.1 59 (by omega) (by omega)).2] at hMO2
        refine lv_aload_n hx hbc dX7_digest_46 rfl (lv_at hl 0 rfl) ?_
        refine wb_gr (t := 58) hx hbc hg hown w inG_X7 57 (by decide) rfl rfl 0 (by decide) rfl wk_205 dX7_digest_47 ?_
        refine lv_iconst (v := nI (0)) hx hbc dX7_digest_50 (by decide) ?_
        refine wb_pi (v := nI (0)) hx hbc hg hown w inG_X0 tyX0 tyX0_ok nmX0 58 (by decide) rfl rfl 1 (by decide) rfl wk_38 rfl rfl rfl rfl dX7_digest_51 (fun H locs w => ?_)
        have hMO3 : MO (pul (sI U2 58 1 (nI (0))) (fMg 0 58)) 0 (fun _ => 0) 0 (ext (fun _ => 0) 0 (S.2.1 59)) (0 + t) := hMO2
        refine lv_aload_n hx hbc dX7_digest_54 rfl (lv_at hl 0 rfl) ?_
        refine wb_gr (t := 15) hx hbc hg hown w inG_X7 57 (by decide) rfl rfl 3 (by decide) rfl wk_208 dX7_digest_55 ?_
        refine lv_aload_n hx hbc dX7_digest_58 rfl (lv_at hl 0 rfl) ?_
        refine wb_gr (t := 31) hx hbc hg hown w inG_X7 57 (by decide) rfl rfl 5 (by decide) rfl wk_210 dX7_digest_59 ?_
        have hF9 := hMO3.f
        have hk2 := hF9.2.2.2.resolve_right (fun h => absurd h.1 (by decide))
        refine wc_Vi (na := 1) (f := (fMf 0)) (As := [.ref (ad (31))]) (rest := []) hx hbc hml hg hown w (EC_ok al) hE w.1 (lieMf 0 (by omega)).A 15 (by decide) rfl rfl (k_gfin01 l D cy (fun z9 => ad (fMf 0 z9)) al (pul (sI U2 58 1 (nI (0))) (fMf 0)) (hB 0) (ext (fun _ => 0) 0 (S.2.1 59)) (0 + t) 0 d hk2.2.1 hk2.2.2 hF9.2.1 ((congrFun (hbo2.1 31 (by omega) (by omega)).1 5).trans hd) (by omega) (nI 0) hF9.1 (by decide)) wk_324 wk_4 wk_321 wk_322 wk_323 ⟨by decide, by decide, by decide⟩ ⟨by rw [hRf]; decide, by rw [hRl]; decide⟩ rfl hl.1 rfl (Nat.le_of_ble_eq_true rfl) dX7_digest_62 ⟨Nat.zero_le _, Nat.zero_le _⟩ (fun r S9 hp H locs w => ?_)
        obtain ⟨hr9, hp⟩ := hp
        subst hr9
        have hfi := fin9_01 (lk := (fun _ => 0)) hk2.1 hp
        have w : WB D (tyC cy) 322 cy ad skD A s (psh (sI U2 58 1 (nI (0))) (fiMf 0) S9) H locs := w _ ((lieMf 0 (by omega)).T _)
        exact hend _ (psh (sI U2 58 1 (nI (0))) (fiMf 0) S9) _ _ _ _ (Or.inr (Or.inr ⟨0, U2, (fun _ => 0), 0, (by decide), rfl, hd3, rfl, Or.inl ⟨by decide, rfl⟩, hbo2, hfi⟩)) rfl w dX7_digest_65
      · skip
        refine lv_aload_n hx hbc dX7_digest_23 rfl (lv_at hl 0 rfl) ?_
        refine wb_gr (t := 15) hx hbc hg hown w inG_X7 57 (by decide) rfl rfl 3 (by decide) rfl wk_208 dX7_digest_24 ?_
        refine lv_iload_n hx hbc dX7_digest_27 rfl (lv_at hl 1 rfl) ?_
        refine lv_aload_n hx hbc dX7_digest_28 rfl (lv_at hl 0 rfl) ?_
        refine wb_gr (t := 60) hx hbc hg hown w inG_X7 57 (by decide) rfl rfl 1 (by decide) rfl wk_206 dX7_digest_29 ?_
        refine wc_Vv (na := 2) (f := (fMg 0 60)) (As := [.int (nI (1)), .ref (ad (60))]) (rest := []) hx hbc hml hg hown w (EC_ok al) hE (w.1.sub (tys' := tyM cy) [0, 1, 2] rfl) (lieMg 0 60 (by omega) (Or.inr rfl)).A 15 (by decide) rfl rfl (k_gbegin1 l D cy (fun z9 => ad (fMg 0 60 z9)) al (pul S (fMg 0 60))) wk_261 wk_4 wk_258 wk_259 wk_260 ⟨by decide, by decide, by decide⟩ ⟨by rw [hRf]; decide, by rw [hRl]; decide⟩ rfl hl.1 rfl (Nat.le_of_ble_eq_true rfl) dX7_digest_32 ⟨Nat.zero_le _, Nat.zero_le _⟩ (fun S9 hp H locs w => ?_)
        subst hp
        have hb9 := bg01 (pul S (fMg 0 60)) 1 nC0 (fun _ => 0) (fun _ => 0) rfl (by decide)
        have w : WB D (tyC cy) 322 cy ad skD A s (psh S (fiMg 0 60) (mgS (bgB (pul S (fMg 0 60)) 1) (mbg (bgB (pul S (fMg 0 60)) 1) nC0))) H locs := w _ ((lieMg 0 60 (by omega) (Or.inr rfl)).T _)
        have hpu := mg_push (S := S) (m := 0) (b := 60) (by omega) (Or.inr rfl) hb9.2.1 hb9.2.2
        have hbo : bgO S (psh S (fiMg 0 60) (mgS (bgB (pul S (fMg 0 60)) 1) (mbg (bgB (pul S (fMg 0 60)) 1) nC0))) 0 := hpu.1
        have hMO : MO (pul (psh S (fiMg 0 60) (mgS (bgB (pul S (fMg 0 60)) 1) (mbg (bgB (pul S (fMg 0 60)) 1) nC0))) (fMg 0 58)) 1 (fun _ => 0) 0 (fun _ => 0) 0 := hb9.1.sm (hpu.2 58)
        obtain ⟨U1, eU1⟩ : ∃ z, z = psh S (fiMg 0 60) (mgS (bgB (pul S (fMg 0 60)) 1) (mbg (bgB (pul S (fMg 0 60)) 1) nC0)) := ⟨_, rfl⟩
        rw [← eU1] at w hbo hMO
        refine lv_aload_n hx hbc dX7_digest_35 rfl (lv_at hl 0 rfl) ?_
        refine wb_gr (t := 15) hx hbc hg hown w inG_X7 57 (by decide) rfl rfl 3 (by decide) rfl wk_208 dX7_digest_36 ?_
        refine lv_aload_n hx hbc dX7_digest_39 rfl (lv_at hl 0 rfl) ?_
        refine wb_gr (t := 58) hx hbc hg hown w inG_X7 57 (by decide) rfl rfl 0 (by decide) rfl wk_205 dX7_digest_40 ?_
        obtain ⟨h9, G9, c9, hI9, hC9, hby9, hbk9⟩ := hMO.take_pre t (U1.2.1 59)
        refine wc_Vv (na := 1) (f := (fMg 0 58)) (As := [.ref (ad (58))]) (rest := []) hx hbc hml hg hown w (EC_ok al) hE (w.1.sub (tys' := tyM cy) [0, 1, 2] rfl) (lieMg 0 58 (by omega) (Or.inl rfl)).A 15 (by decide) rfl rfl (k_gtake l D cy (fun z9 => ad (fMg 0 58 z9)) al (pul U1 (fMg 0 58)) h9 G9 c9 t 0 hI9 hC9 (show U1.1 58 1 = nI t from ((congrFun (hbo.1 58 (by omega) (by omega)).1 1).trans ht)) ht2 hMO.2.2.1 hby9) wk_320 wk_4 wk_317 wk_318 wk_319 ⟨by decide, by decide, by decide⟩ ⟨by rw [hRf]; decide, by rw [hRl]; decide⟩ rfl hl.1 rfl (Nat.le_of_ble_eq_true rfl) dX7_digest_43 ⟨Nat.zero_le _, Nat.zero_le _⟩ (fun S9 hp H locs w => ?_)
        obtain ⟨T8, hoT, hMT, hCT, hp⟩ := hp
        have hMO2 := hbk9 T8 S9 hoT hMT hCT hp
        have w : WB D (tyC cy) 322 cy ad skD A s (psh U1 (fiMg 0 58) S9) H locs := w _ ((lieMg 0 58 (by omega) (Or.inl rfl)).T _)
        have hpu := mg_push (S := U1) (m := 0) (b := 58) (X := S9) (by omega) (Or.inl rfl) (fun i hi => (by rw [hp]; refine ⟨?_, (hoT i (by omega)).2⟩; show va_up T8.1 3 _ i = _; rw [va_up_ne _ _ (by omega)]; exact (hoT i (by omega)).1)) (by rw [hp]; exact congrFun (hoT 3 (by decide)).1 3)
        have hbo2 : bgO S (psh U1 (fiMg 0 58) S9) 0 := hbo.tr hpu.1
        have hMO2 : MO (pul (psh U1 (fiMg 0 58) S9) (fMg 0 58)) 1 (fun _ => 0) 0 (ext (fun _ => 0) 0 (U1.2.1 59)) (0 + t) := hMO2.sm (hpu.2 58)
        obtain ⟨U2, eU2⟩ : ∃ z, z = psh U1 (fiMg 0 58) S9 := ⟨_, rfl⟩
        rw [← eU2] at w hbo2 hMO2
        rw [(hbo.1 59 (by omega) (by omega)).2] at hMO2
        refine lv_aload_n hx hbc dX7_digest_46 rfl (lv_at hl 0 rfl) ?_
        refine wb_gr (t := 58) hx hbc hg hown w inG_X7 57 (by decide) rfl rfl 0 (by decide) rfl wk_205 dX7_digest_47 ?_
        refine lv_iconst (v := nI (0)) hx hbc dX7_digest_50 (by decide) ?_
        refine wb_pi (v := nI (0)) hx hbc hg hown w inG_X0 tyX0 tyX0_ok nmX0 58 (by decide) rfl rfl 1 (by decide) rfl wk_38 rfl rfl rfl rfl dX7_digest_51 (fun H locs w => ?_)
        have hMO3 : MO (pul (sI U2 58 1 (nI (0))) (fMg 0 58)) 1 (fun _ => 0) 0 (ext (fun _ => 0) 0 (S.2.1 59)) (0 + t) := hMO2
        refine lv_aload_n hx hbc dX7_digest_54 rfl (lv_at hl 0 rfl) ?_
        refine wb_gr (t := 15) hx hbc hg hown w inG_X7 57 (by decide) rfl rfl 3 (by decide) rfl wk_208 dX7_digest_55 ?_
        refine lv_aload_n hx hbc dX7_digest_58 rfl (lv_at hl 0 rfl) ?_
        refine wb_gr (t := 31) hx hbc hg hown w inG_X7 57 (by decide) rfl rfl 5 (by decide) rfl wk_210 dX7_digest_59 ?_
        have hF9 := hMO3.f
        have hk2 := hF9.2.2.2.resolve_right (fun h => absurd h.1 (by decide))
        refine wc_Vi (na := 1) (f := (fMf 0)) (As := [.ref (ad (31))]) (rest := []) hx hbc hml hg hown w (EC_ok al) hE w.1 (lieMf 0 (by omega)).A 15 (by decide) rfl rfl (k_gfin01 l D cy (fun z9 => ad (fMf 0 z9)) al (pul (sI U2 58 1 (nI (0))) (fMf 0)) (hB 1) (ext (fun _ => 0) 0 (S.2.1 59)) (0 + t) 0 d hk2.2.1 hk2.2.2 hF9.2.1 ((congrFun (hbo2.1 31 (by omega) (by omega)).1 5).trans hd) (by omega) (nI 1) hF9.1 (by decide)) wk_324 wk_4 wk_321 wk_322 wk_323 ⟨by decide, by decide, by decide⟩ ⟨by rw [hRf]; decide, by rw [hRl]; decide⟩ rfl hl.1 rfl (Nat.le_of_ble_eq_true rfl) dX7_digest_62 ⟨Nat.zero_le _, Nat.zero_le _⟩ (fun r S9 hp H locs w => ?_)
        obtain ⟨hr9, hp⟩ := hp
        subst hr9
        have hfi := fin9_01 (lk := (fun _ => 0)) hk2.1 hp
        have w : WB D (tyC cy) 322 cy ad skD A s (psh (sI U2 58 1 (nI (0))) (fiMf 0) S9) H locs := w _ ((lieMf 0 (by omega)).T _)
        exact hend _ (psh (sI U2 58 1 (nI (0))) (fiMf 0) S9) _ _ _ _ (Or.inr (Or.inr ⟨1, U2, (fun _ => 0), 0, (by decide), rfl, hd3, rfl, Or.inl ⟨by decide, rfl⟩, hbo2, hfi⟩)) rfl w dX7_digest_65
      · skip
        refine lv_aload_n hx hbc dX7_digest_23 rfl (lv_at hl 0 rfl) ?_
        refine wb_gr (t := 15) hx hbc hg hown w inG_X7 57 (by decide) rfl rfl 3 (by decide) rfl wk_208 dX7_digest_24 ?_
        refine lv_iload_n hx hbc dX7_digest_27 rfl (lv_at hl 1 rfl) ?_
        refine lv_aload_n hx hbc dX7_digest_28 rfl (lv_at hl 0 rfl) ?_
        refine wb_gr (t := 60) hx hbc hg hown w inG_X7 57 (by decide) rfl rfl 1 (by decide) rfl wk_206 dX7_digest_29 ?_
        refine wc_Vv (na := 2) (f := (fMg 0 60)) (As := [.int (nI (2)), .ref (ad (60))]) (rest := []) hx hbc hml hg hown w (EC_ok al) hE (w.1.sub (tys' := tyM cy) [0, 1, 2] rfl) (lieMg 0 60 (by omega) (Or.inr rfl)).A 15 (by decide) rfl rfl (k_gbegin2 l D cy (fun z9 => ad (fMg 0 60 z9)) al (pul S (fMg 0 60)) ks hks hks2 hkf) wk_261 wk_4 wk_258 wk_259 wk_260 ⟨by decide, by decide, by decide⟩ ⟨by rw [hRf]; decide, by rw [hRl]; decide⟩ rfl hl.1 rfl (Nat.le_of_ble_eq_true rfl) dX7_digest_32 ⟨Nat.zero_le _, Nat.zero_le _⟩ (fun S9 hp H locs w => ?_)
        have hb9 := bg2 (fun _ => 0) hp
        have w : WB D (tyC cy) 322 cy ad skD A s (psh S (fiMg 0 60) S9) H locs := w _ ((lieMg 0 60 (by omega) (Or.inr rfl)).T _)
        have hpu := mg_push (S := S) (m := 0) (b := 60) (by omega) (Or.inr rfl) hb9.2.1 hb9.2.2
        have hbo : bgO S (psh S (fiMg 0 60) S9) 0 := hpu.1
        have hMO : MO (pul (psh S (fiMg 0 60) S9) (fMg 0 58)) 2 (lk0 ks (S.2.1 61)) (lkQ ks) (fun _ => 0) 0 := hb9.1.sm (hpu.2 58)
        obtain ⟨U1, eU1⟩ : ∃ z, z = psh S (fiMg 0 60) S9 := ⟨_, rfl⟩
        rw [← eU1] at w hbo hMO
        refine lv_aload_n hx hbc dX7_digest_35 rfl (lv_at hl 0 rfl) ?_
        refine wb_gr (t := 15) hx hbc hg hown w inG_X7 57 (by decide) rfl rfl 3 (by decide) rfl wk_208 dX7_digest_36 ?_
        refine lv_aload_n hx hbc dX7_digest_39 rfl (lv_at hl 0 rfl) ?_
        refine wb_gr (t := 58) hx hbc hg hown w inG_X7 57 (by decide) rfl rfl 0 (by decide) rfl wk_205 dX7_digest_40 ?_
        obtain ⟨h9, G9, c9, hI9, hC9, hby9, hbk9⟩ := hMO.take_pre t (U1.2.1 59)
        refine wc_Vv (na := 1) (f := (fMg 0 58)) (As := [.ref (ad (58))]) (rest := []) hx hbc hml hg hown w (EC_ok al) hE (w.1.sub (tys' := tyM cy) [0, 1, 2] rfl) (lieMg 0 58 (by omega) (Or.inl rfl)).A 15 (by decide) rfl rfl (k_gtake l D cy (fun z9 => ad (fMg 0 58 z9)) al (pul U1 (fMg 0 58)) h9 G9 c9 t 0 hI9 hC9 (show U1.1 58 1 = nI t from ((congrFun (hbo.1 58 (by omega) (by omega)).1 1).trans ht)) ht2 hMO.2.2.1 hby9) wk_320 wk_4 wk_317 wk_318 wk_319 ⟨by decide, by decide, by decide⟩ ⟨by rw [hRf]; decide, by rw [hRl]; decide⟩ rfl hl.1 rfl (Nat.le_of_ble_eq_true rfl) dX7_digest_43 ⟨Nat.zero_le _, Nat.zero_le _⟩ (fun S9 hp H locs w => ?_)
        obtain ⟨T8, hoT, hMT, hCT, hp⟩ := hp
        have hMO2 := hbk9 T8 S9 hoT hMT hCT hp
        have w : WB D (tyC cy) 322 cy ad skD A s (psh U1 (fiMg 0 58) S9) H locs := w _ ((lieMg 0 58 (by omega) (Or.inl rfl)).T _)
        have hpu := mg_push (S := U1) (m := 0) (b := 58) (X := S9) (by omega) (Or.inl rfl) (fun i hi => (by rw [hp]; refine ⟨?_, (hoT i (by omega)).2⟩; show va_up T8.1 3 _ i = _; rw [va_up_ne _ _ (by omega)]; exact (hoT i (by omega)).1)) (by rw [hp]; exact congrFun (hoT 3 (by decide)).1 3)
        have hbo2 : bgO S (psh U1 (fiMg 0 58) S9) 0 := hbo.tr hpu.1
        have hMO2 : MO (pul (psh U1 (fiMg 0 58) S9) (fMg 0 58)) 2 (lk0 ks (S.2.1 61)) (lkQ ks) (ext (fun _ => 0) 0 (U1.2.1 59)) (0 + t) := hMO2.sm (hpu.2 58)
        obtain ⟨U2, eU2⟩ : ∃ z, z = psh U1 (fiMg 0 58) S9 := ⟨_, rfl⟩
        rw [← eU2] at w hbo2 hMO2
        rw [(hbo.1 59 (by omega) (by omega)).2] at hMO2
        refine lv_aload_n hx hbc dX7_digest_46 rfl (lv_at hl 0 rfl) ?_
        refine wb_gr (t := 58) hx hbc hg hown w inG_X7 57 (by decide) rfl rfl 0 (by decide) rfl wk_205 dX7_digest_47 ?_
        refine lv_iconst (v := nI (0)) hx hbc dX7_digest_50 (by decide) ?_
        refine wb_pi (v := nI (0)) hx hbc hg hown w inG_X0 tyX0 tyX0_ok nmX0 58 (by decide) rfl rfl 1 (by decide) rfl wk_38 rfl rfl rfl rfl dX7_digest_51 (fun H locs w => ?_)
        have hMO3 : MO (pul (sI U2 58 1 (nI (0))) (fMg 0 58)) 2 (lk0 ks (S.2.1 61)) (lkQ ks) (ext (fun _ => 0) 0 (S.2.1 59)) (0 + t) := hMO2
        refine lv_aload_n hx hbc dX7_digest_54 rfl (lv_at hl 0 rfl) ?_
        refine wb_gr (t := 15) hx hbc hg hown w inG_X7 57 (by decide) rfl rfl 3 (by decide) rfl wk_208 dX7_digest_55 ?_
        refine lv_aload_n hx hbc dX7_digest_58 rfl (lv_at hl 0 rfl) ?_
        refine wb_gr (t := 31) hx hbc hg hown w inG_X7 57 (by decide) rfl rfl 5 (by decide) rfl wk_210 dX7_digest_59 ?_
        have hF9 := hMO3.f
        have hk2 := hF9.2.2.2.resolve_left (fun h => h.1 (by rfl))
        refine wc_Vi (na := 1) (f := (fMf 0)) (As := [.ref (ad (31))]) (rest := []) hx hbc hml hg hown w (EC_ok al) hE w.1 (lieMf 0 (by omega)).A 15 (by decide) rfl rfl (k_gfin2 l D cy (fun z9 => ad (fMf 0 z9)) al (pul (sI U2 58 1 (nI (0))) (fMf 0)) wC0 (kyG (lk0 ks (S.2.1 61)) (ext (fun _ => 0) 0 (S.2.1 59))) (64 + (0 + t)) (lkQ ks) d hk2.2.1 hk2.2.2.1 hF9.2.1 ((congrFun (hbo2.1 31 (by omega) (by omega)).1 5).trans hd) (by omega) (hF9.1.trans (by rfl))) wk_324 wk_4 wk_321 wk_322 wk_323 ⟨by decide, by decide, by decide⟩ ⟨by rw [hRf]; decide, by rw [hRl]; decide⟩ rfl hl.1 rfl (Nat.le_of_ble_eq_true rfl) dX7_digest_62 ⟨Nat.zero_le _, Nat.zero_le _⟩ (fun r S9 hp H locs w => ?_)
        obtain ⟨hr9, hp⟩ := hp
        subst hr9
        have hfi := fin9_2 hk2.2.2.2 hp
        have w : WB D (tyC cy) 322 cy ad skD A s (psh (sI U2 58 1 (nI (0))) (fiMf 0) S9) H locs := w _ ((lieMf 0 (by omega)).T _)
        exact hend _ (psh (sI U2 58 1 (nI (0))) (fiMf 0) S9) _ _ _ _ (Or.inr (Or.inr ⟨2, U2, (lk0 ks (S.2.1 61)), (lkQ ks), (by decide), rfl, hd3, rfl, Or.inr ⟨rfl, rfl, rfl⟩, hbo2, hfi⟩)) rfl w dX7_digest_65
    · refine lv_bipush (v := (-103)) hx hbc dX7_digest_20 (by decide) ?_
      exact hend _ (S) _ _ _ _ (Or.inr (Or.inl ⟨k, hk, rfl, (by have := full_1 c_17; omega), rfl, rfl⟩)) rfl w dX7_digest_22
  · refine lv_bipush (v := (-102)) hx hbc dX7_digest_7 (by decide) ?_
    exact hend _ (S) _ _ _ _ (Or.inl ⟨inF_oor c_4 (by decide), rfl, rfl⟩) rfl w dX7_digest_9
set_option maxHeartbeats 1000000 in
set_option maxRecDepth 100000 in
theorem k_D_open (l : Launch) (D : va_G) (cy : Nat → ClassId) (ad al : Nat → Nat) (S : wS) (s0 x : Int32) (hop : ∀ j, j < 4 → S.1 (15 + 3 * (j + 1)) 3 = nI 0 ∨ S.1 (15 + 3 * (j + 1)) 3 = nI 1) (ks : Nat) (hks : S.1 60 1 = nI ks) (hks2 : ks ≤ 200) (hkf : ∀ i, fits .byte (.int (S.2.1 61 i)) = true) : CtI l yX7_open (Cond.code yX7_open cX7_open 3 (some .int) :: wsG) 7 165 [.ref (ad (57)), .int (s0), .int (x)] D (tyC cy) 322 cy ad skD (EC al) (S) (fun r S' => ((oor s0 4 ∨ oor x 3) ∧ r = (-102) ∧ S' = S) ∨ (∃ j k, j < 4 ∧ k ≤ 2 ∧ s0 = nI j ∧ x = nI k ∧ S.1 (15 + 3 * (j + 1)) 3 = nI 1 ∧ r = (-104) ∧ S' = S) ∨ (∃ (j k : Nat) (U : wS) (lk : Nat → Int32) (bl : Nat), j < 4 ∧ k ≤ 2 ∧ s0 = nI j ∧ x = nI k ∧ S.1 (15 + 3 * (j + 1)) 3 = nI 0 ∧ r = nI 1 ∧ ((k ≠ 2 ∧ bl = 0) ∨ (k = 2 ∧ lk = lk0 ks (S.2.1 61) ∧ bl = lkQ ks)) ∧ bgO S U (j + 1) ∧ MO (pul U (fMg (j + 1) 58)) k lk bl (fun _ => 0) 0 ∧ S' = sI U (15 + 3 * (j + 1)) 3 (nI 1))) := by
  refine CtI_of (by decide) (Nat.le_of_ble_eq_true rfl) ?_
  intro p e s m args below meth c A ls R Q hB hRf hRl hend
  obtain ⟨hx, hbc, hr, hg, hown, hml, hlk, w, hE, hl⟩ := hB
  have hl : lv_has ls 3 [(0, .ref (ad (57))), (1, .int (s0)), (2, .int (x))] := hl
  refine lv_iload_n hx hbc dX7_open_0 rfl (lv_at hl 1 rfl) ?_
  refine wb_Si (na := 1) (As := [.int (s0)]) (rest := []) hx hbc hml hg hown w E0_ok trivial (w.1.sub (tys' := tyM cy) [0, 1, 2] rfl) Sub.none (k_isStream l D cy ad al (S) s0) wk_340 wk_1 wk_338 wk_339 ⟨by decide, by decide, by decide⟩ ⟨by rw [hRf]; decide, by rw [hRl]; decide⟩ rfl hl.1 rfl (Nat.le_of_ble_eq_true rfl) dX7_open_1 ⟨Nat.zero_le _, Nat.zero_le _⟩ (fun r S9 H locs hp w => ?_)
  subst hp
  refine lv_if_eq (tgt := 14) hx hbc dX7_open_4 (by decide) (fun c_4 => ?_) (fun c_4 => ?_)
  · refine lv_bipush (v := (-102)) hx hbc dX7_open_14 (by decide) ?_
    exact hend _ (S) _ _ _ _ (Or.inl ⟨Or.inl (hsF_oor c_4 (by decide)), rfl, rfl⟩) rfl w dX7_open_16
  · obtain ⟨j, hj, rfl⟩ := hsF_nz c_4 (by decide)
    refine lv_iload_n hx hbc dX7_open_7 rfl (lv_at hl 2 rfl) ?_
    refine wb_Si (na := 1) (As := [.int (x)]) (rest := []) hx hbc hml hg hown w E0_ok trivial (w.1.sub (tys' := tyM cy) [0, 1, 2] rfl) Sub.none (k_isSort l D cy ad al (S) x) wk_253 wk_1 wk_251 wk_252 ⟨by decide, by decide, by decide⟩ ⟨by rw [hRf]; decide, by rw [hRl]; decide⟩ rfl hl.1 rfl (Nat.le_of_ble_eq_true rfl) dX7_open_8 ⟨Nat.zero_le _, Nat.zero_le _⟩ (fun r S9 H locs hp w => ?_)
    subst hp
    refine lv_if_ne (tgt := 17) hx hbc dX7_open_11 (by decide) (fun c_11 => ?_) (fun c_11 => ?_)
    · obtain ⟨k, hk, rfl⟩ := inF_nzb c_11 (by decide)
      rcases hop j hj with ho | ho
      · skip
        refine lv_aload_n hx hbc dX7_open_17 rfl (lv_at hl 0 rfl) ?_
        refine wb_gr (t := 30) hx hbc hg hown w inG_X7 57 (by decide) rfl rfl 4 (by decide) rfl wk_209 dX7_open_18 ?_
        refine lv_iload_n hx hbc dX7_open_21 rfl (lv_at hl 1 rfl) ?_
        refine wb_aald (k := j) (t := 15 + 3 * (j + 1)) hx hbc w 30 (by decide) rfl (by decide) 3 rfl rfl (by omega) (by decide) rfl dX7_open_22 ?_
        refine wb_gi (v := nI (0)) hx hbc hg hown w inG_X1 (15 + 3 * (j + 1)) (by omega) (skD_M _ (by omega)) rfl 3 (by decide) rfl wk_82 ho dX7_open_23 ?_
        refine lv_if_eq (tgt := 32) hx hbc dX7_open_26 (by decide) (fun c_26 => ?_) (fun c_26 => ?_)
        · rcases (show k = 0 ∨ k = 1 ∨ k = 2 by omega) with rfl | rfl | rfl
          · skip
            refine lv_aload_n hx hbc dX7_open_32 rfl (lv_at hl 0 rfl) ?_
            refine wb_gr (t := 30) hx hbc hg hown w inG_X7 57 (by decide) rfl rfl 4 (by decide) rfl wk_209 dX7_open_33 ?_
            refine lv_iload_n hx hbc dX7_open_36 rfl (lv_at hl 1 rfl) ?_
            refine wb_aald (k := j) (t := 15 + 3 * (j + 1)) hx hbc w 30 (by decide) rfl (by decide) 3 rfl rfl (by omega) (by decide) rfl dX7_open_37 ?_
            refine lv_iload_n hx hbc dX7_open_38 rfl (lv_at hl 2 rfl) ?_
            refine lv_aload_n hx hbc dX7_open_39 rfl (lv_at hl 0 rfl) ?_
            refine wb_gr (t := 60) hx hbc hg hown w inG_X7 57 (by decide) rfl rfl 1 (by decide) rfl wk_206 dX7_open_40 ?_
            refine wc_Vv (na := 2) (f := (fMg (j + 1) 60)) (As := [.int (nI (0)), .ref (ad (60))]) (rest := []) hx hbc hml hg hown w (EC_ok al) hE (w.1.sub (tys' := tyM cy) [0, 1, 2] rfl) (lieMg (j + 1) 60 (by omega) (Or.inr rfl)).A (15 + 3 * (j + 1)) (by omega) (skD_M _ (by omega)) rfl (k_gbegin0 l D cy (fun z9 => ad (fMg (j + 1) 60 z9)) al (pul S (fMg (j + 1) 60))) wk_261 wk_4 wk_258 wk_259 wk_260 ⟨by decide, by decide, by decide⟩ ⟨by rw [hRf]; decide, by rw [hRl]; decide⟩ rfl hl.1 rfl (Nat.le_of_ble_eq_true rfl) dX7_open_43 ⟨Nat.zero_le _, Nat.zero_le _⟩ (fun S9 hp H locs w => ?_)
            subst hp
            have hb9 := bg01 (pul S (fMg (j + 1) 60)) 0 wC0 (fun _ => 0) (fun _ => 0) rfl (by decide)
            have w : WB D (tyC cy) 322 cy ad skD A s (psh S (fiMg (j + 1) 60) (mgS (bgB (pul S (fMg (j + 1) 60)) 0) (mbg (bgB (pul S (fMg (j + 1) 60)) 0) wC0))) H locs := w _ ((lieMg (j + 1) 60 (by omega) (Or.inr rfl)).T _)
            have hpu := mg_push (S := S) (m := (j + 1)) (b := 60) (by omega) (Or.inr rfl) hb9.2.1 hb9.2.2
            have hbo : bgO S (psh S (fiMg (j + 1) 60) (mgS (bgB (pul S (fMg (j + 1) 60)) 0) (mbg (bgB (pul S (fMg (j + 1) 60)) 0) wC0))) (j + 1) := hpu.1
            have hMO : MO (pul (psh S (fiMg (j + 1) 60) (mgS (bgB (pul S (fMg (j + 1) 60)) 0) (mbg (bgB (pul S (fMg (j + 1) 60)) 0) wC0))) (fMg (j + 1) 58)) 0 (fun _ => 0) 0 (fun _ => 0) 0 := hb9.1.sm (hpu.2 58)
            obtain ⟨U1, eU1⟩ : ∃ z, z = psh S (fiMg (j + 1) 60) (mgS (bgB (pul S (fMg (j + 1) 60)) 0) (mbg (bgB (pul S (fMg (j + 1) 60)) 0) wC0)) := ⟨_, rfl⟩
            rw [← eU1] at w hbo hMO
            refine lv_aload_n hx hbc dX7_open_46 rfl (lv_at hl 0 rfl) ?_
            refine wb_gr (t := 30) hx hbc hg hown w inG_X7 57 (by decide) rfl rfl 4 (by decide) rfl wk_209 dX7_open_47 ?_
            refine lv_iload_n hx hbc dX7_open_50 rfl (lv_at hl 1 rfl) ?_
            refine wb_aald (k := j) (t := 15 + 3 * (j + 1)) hx hbc w 30 (by decide) rfl (by decide) 3 rfl rfl (by omega) (by decide) rfl dX7_open_51 ?_
            refine lv_iconst (v := nI (1)) hx hbc dX7_open_52 (by decide) ?_
            refine wb_pi (v := nI (1)) hx hbc hg hown w inG_X1 tyX1 tyX1_ok nmX1 (15 + 3 * (j + 1)) (by omega) (skD_M _ (by omega)) rfl 3 (by decide) rfl wk_82 rfl (by decide) (by decide) rfl dX7_open_53 (fun H locs w => ?_)
            refine lv_iconst (v := nI (1)) hx hbc dX7_open_56 (by decide) ?_
            exact hend _ (sI U1 (15 + 3 * (j + 1)) 3 (nI (1))) _ _ _ _ (Or.inr (Or.inr ⟨j, 0, U1, (fun _ => 0), 0, hj, (by decide), rfl, rfl, ho, rfl, Or.inl ⟨by decide, rfl⟩, hbo, hMO, rfl⟩)) rfl w dX7_open_57
          · skip
            refine lv_aload_n hx hbc dX7_open_32 rfl (lv_at hl 0 rfl) ?_
            refine wb_gr (t := 30) hx hbc hg hown w inG_X7 57 (by decide) rfl rfl 4 (by decide) rfl wk_209 dX7_open_33 ?_
            refine lv_iload_n hx hbc dX7_open_36 rfl (lv_at hl 1 rfl) ?_
            refine wb_aald (k := j) (t := 15 + 3 * (j + 1)) hx hbc w 30 (by decide) rfl (by decide) 3 rfl rfl (by omega) (by decide) rfl dX7_open_37 ?_
            refine lv_iload_n hx hbc dX7_open_38 rfl (lv_at hl 2 rfl) ?_
            refine lv_aload_n hx hbc dX7_open_39 rfl (lv_at hl 0 rfl) ?_
            refine wb_gr (t := 60) hx hbc hg hown w inG_X7 57 (by decide) rfl rfl 1 (by decide) rfl wk_206 dX7_open_40 ?_
            refine wc_Vv (na := 2) (f := (fMg (j + 1) 60)) (As := [.int (nI (1)), .ref (ad (60))]) (rest := []) hx hbc hml hg hown w (EC_ok al) hE (w.1.sub (tys' := tyM cy) [0, 1, 2] rfl) (lieMg (j + 1) 60 (by omega) (Or.inr rfl)).A (15 + 3 * (j + 1)) (by omega) (skD_M _ (by omega)) rfl (k_gbegin1 l D cy (fun z9 => ad (fMg (j + 1) 60 z9)) al (pul S (fMg (j + 1) 60))) wk_261 wk_4 wk_258 wk_259 wk_260 ⟨by decide, by decide, by decide⟩ ⟨by rw [hRf]; decide, by rw [hRl]; decide⟩ rfl hl.1 rfl (Nat.le_of_ble_eq_true rfl) dX7_open_43 ⟨Nat.zero_le _, Nat.zero_le _⟩ (fun S9 hp H locs w => ?_)
            subst hp
            have hb9 := bg01 (pul S (fMg (j + 1) 60)) 1 nC0 (fun _ => 0) (fun _ => 0) rfl (by decide)
            have w : WB D (tyC cy) 322 cy ad skD A s (psh S (fiMg (j + 1) 60) (mgS (bgB (pul S (fMg (j + 1) 60)) 1) (mbg (bgB (pul S (fMg (j + 1) 60)) 1) nC0))) H locs := w _ ((lieMg (j + 1) 60 (by omega) (Or.inr rfl)).T _)
            have hpu := mg_push (S := S) (m := (j + 1)) (b := 60) (by omega) (Or.inr rfl) hb9.2.1 hb9.2.2
            have hbo : bgO S (psh S (fiMg (j + 1) 60) (mgS (bgB (pul S (fMg (j + 1) 60)) 1) (mbg (bgB (pul S (fMg (j + 1) 60)) 1) nC0))) (j + 1) := hpu.1
            have hMO : MO (pul (psh S (fiMg (j + 1) 60) (mgS (bgB (pul S (fMg (j + 1) 60)) 1) (mbg (bgB (pul S (fMg (j + 1) 60)) 1) nC0))) (fMg (j + 1) 58)) 1 (fun _ => 0) 0 (fun _ => 0) 0 := hb9.1.sm (hpu.2 58)
            obtain ⟨U1, eU1⟩ : ∃ z, z = psh S (fiMg (j + 1) 60) (mgS (bgB (pul S (fMg (j + 1) 60)) 1) (mbg (bgB (pul S (fMg (j + 1) 60)) 1) nC0)) := ⟨_, rfl⟩
            rw [← eU1] at w hbo hMO
            refine lv_aload_n hx hbc dX7_open_46 rfl (lv_at hl 0 rfl) ?_
            refine wb_gr (t := 30) hx hbc hg hown w inG_X7 57 (by decide) rfl rfl 4 (by decide) rfl wk_209 dX7_open_47 ?_
            refine lv_iload_n hx hbc dX7_open_50 rfl (lv_at hl 1 rfl) ?_
            refine wb_aald (k := j) (t := 15 + 3 * (j + 1)) hx hbc w 30 (by decide) rfl (by decide) 3 rfl rfl (by omega) (by decide) rfl dX7_open_51 ?_
            refine lv_iconst (v := nI (1)) hx hbc dX7_open_52 (by decide) ?_
            refine wb_pi (v := nI (1)) hx hbc hg hown w inG_X1 tyX1 tyX1_ok nmX1 (15 + 3 * (j + 1)) (by omega) (skD_M _ (by omega)) rfl 3 (by decide) rfl wk_82 rfl (by decide) (by decide) rfl dX7_open_53 (fun H locs w => ?_)
            refine lv_iconst (v := nI (1)) hx hbc dX7_open_56 (by decide) ?_
            exact hend _ (sI U1 (15 + 3 * (j + 1)) 3 (nI (1))) _ _ _ _ (Or.inr (Or.inr ⟨j, 1, U1, (fun _ => 0), 0, hj, (by decide), rfl, rfl, ho, rfl, Or.inl ⟨by decide, rfl⟩, hbo, hMO, rfl⟩)) rfl w dX7_open_57
          · skip
            refine lv_aload_n hx hbc dX7_open_32 rfl (lv_at hl 0 rfl) ?_
            refine wb_gr (t := 30) hx hbc hg hown w inG_X7 57 (by decide) rfl rfl 4 (by decide) rfl wk_209 dX7_open_33 ?_
            refine lv_iload_n hx hbc dX7_open_36 rfl (lv_at hl 1 rfl) ?_
            refine wb_aald (k := j) (t := 15 + 3 * (j + 1)) hx hbc w 30 (by decide) rfl (by decide) 3 rfl rfl (by omega) (by decide) rfl dX7_open_37 ?_
            refine lv_iload_n hx hbc dX7_open_38 rfl (lv_at hl 2 rfl) ?_
            refine lv_aload_n hx hbc dX7_open_39 rfl (lv_at hl 0 rfl) ?_
            refine wb_gr (t := 60) hx hbc hg hown w inG_X7 57 (by decide) rfl rfl 1 (by decide) rfl wk_206 dX7_open_40 ?_
            refine wc_Vv (na := 2) (f := (fMg (j + 1) 60)) (As := [.int (nI (2)), .ref (ad (60))]) (rest := []) hx hbc hml hg hown w (EC_ok al) hE (w.1.sub (tys' := tyM cy) [0, 1, 2] rfl) (lieMg (j + 1) 60 (by omega) (Or.inr rfl)).A (15 + 3 * (j + 1)) (by omega) (skD_M _ (by omega)) rfl (k_gbegin2 l D cy (fun z9 => ad (fMg (j + 1) 60 z9)) al (pul S (fMg (j + 1) 60)) ks hks hks2 hkf) wk_261 wk_4 wk_258 wk_259 wk_260 ⟨by decide, by decide, by decide⟩ ⟨by rw [hRf]; decide, by rw [hRl]; decide⟩ rfl hl.1 rfl (Nat.le_of_ble_eq_true rfl) dX7_open_43 ⟨Nat.zero_le _, Nat.zero_le _⟩ (fun S9 hp H locs w => ?_)
            have hb9 := bg2 (fun _ => 0) hp
            have w : WB D (tyC cy) 322 cy ad skD A s (psh S (fiMg (j + 1) 60) S9) H locs := w _ ((lieMg (j + 1) 60 (by omega) (Or.inr rfl)).T _)
            have hpu := mg_push (S := S) (m := (j + 1)) (b := 60) (by omega) (Or.inr rfl) hb9.2.1 hb9.2.2
            have hbo : bgO S (psh S (fiMg (j + 1) 60) S9) (j + 1) := hpu.1
            have hMO : MO (pul (psh S (fiMg (j + 1) 60) S9) (fMg (j + 1) 58)) 2 (lk0 ks (S.2.1 61)) (lkQ ks) (fun _ => 0) 0 := hb9.1.sm (hpu.2 58)
            obtain ⟨U1, eU1⟩ : ∃ z, z = psh S (fiMg (j + 1) 60) S9 := ⟨_, rfl⟩
            rw [← eU1] at w hbo hMO
            refine lv_aload_n hx hbc dX7_open_46 rfl (lv_at hl 0 rfl) ?_
            refine wb_gr (t := 30) hx hbc hg hown w inG_X7 57 (by decide) rfl rfl 4 (by decide) rfl wk_209 dX7_open_47 ?_
            refine lv_iload_n hx hbc dX7_open_50 rfl (lv_at hl 1 rfl) ?_
            refine wb_aald (k := j) (t := 15 + 3 * (j + 1)) hx hbc w 30 (by decide) rfl (by decide) 3 rfl rfl (by omega) (by decide) rfl dX7_open_51 ?_
            refine lv_iconst (v := nI (1)) hx hbc dX7_open_52 (by decide) ?_
            refine wb_pi (v := nI (1)) hx hbc hg hown w inG_X1 tyX1 tyX1_ok nmX1 (15 + 3 * (j + 1)) (by omega) (skD_M _ (by omega)) rfl 3 (by decide) rfl wk_82 rfl (by decide) (by decide) rfl dX7_open_53 (fun H locs w => ?_)
            refine lv_iconst (v := nI (1)) hx hbc dX7_open_56 (by decide) ?_
            exact hend _ (sI U1 (15 + 3 * (j + 1)) 3 (nI (1))) _ _ _ _ (Or.inr (Or.inr ⟨j, 2, U1, (lk0 ks (S.2.1 61)), (lkQ ks), hj, (by decide), rfl, rfl, ho, rfl, Or.inr ⟨rfl, rfl, rfl⟩, hbo, hMO, rfl⟩)) rfl w dX7_open_57
        · exact absurd c_26 (by decide)
      · skip
        refine lv_aload_n hx hbc dX7_open_17 rfl (lv_at hl 0 rfl) ?_
        refine wb_gr (t := 30) hx hbc hg hown w inG_X7 57 (by decide) rfl rfl 4 (by decide) rfl wk_209 dX7_open_18 ?_
        refine lv_iload_n hx hbc dX7_open_21 rfl (lv_at hl 1 rfl) ?_
        refine wb_aald (k := j) (t := 15 + 3 * (j + 1)) hx hbc w 30 (by decide) rfl (by decide) 3 rfl rfl (by omega) (by decide) rfl dX7_open_22 ?_
        refine wb_gi (v := nI (1)) hx hbc hg hown w inG_X1 (15 + 3 * (j + 1)) (by omega) (skD_M _ (by omega)) rfl 3 (by decide) rfl wk_82 ho dX7_open_23 ?_
        refine lv_if_eq (tgt := 32) hx hbc dX7_open_26 (by decide) (fun c_26 => ?_) (fun c_26 => ?_)
        · exact absurd c_26 (by decide)
        · refine lv_bipush (v := (-104)) hx hbc dX7_open_29 (by decide) ?_
          exact hend _ (S) _ _ _ _ (Or.inr (Or.inl ⟨j, k, hj, hk, rfl, rfl, ho, rfl, rfl⟩)) rfl w dX7_open_31
    · refine lv_bipush (v := (-102)) hx hbc dX7_open_14 (by decide) ?_
      exact hend _ (S) _ _ _ _ (Or.inl ⟨Or.inr (inF_oor c_11 (by decide)), rfl, rfl⟩) rfl w dX7_open_16
set_option maxHeartbeats 1000000 in
set_option maxRecDepth 100000 in
theorem k_D_more (l : Launch) (D : va_G) (cy : Nat → ClassId) (ad al : Nat → Nat) (S : wS) (s0 : Int32) (t : Nat) (ht : S.1 58 1 = nI t) (ht2 : t ≤ 200) (so : Nat → Nat) (lk : Nat → Nat → Int32) (bl : Nat → Nat) (g : Nat → Nat → Int32) (n : Nat → Nat) (hst : ∀ j, j < 4 → stO S so lk bl g n j) : CtI l yX7_more (Cond.code yX7_more cX7_more 3 (some .int) :: wsG) 6 142 [.ref (ad (57)), .int (s0)] D (tyC cy) 322 cy ad skD (EC al) (S) (fun r S' => (oor s0 4 ∧ r = (-102) ∧ S' = S) ∨ (∃ j, j < 4 ∧ s0 = nI j ∧ S.1 (15 + 3 * (j + 1)) 3 = nI 0 ∧ r = (-104) ∧ S' = S) ∨ (∃ j, j < 4 ∧ s0 = nI j ∧ S.1 (15 + 3 * (j + 1)) 3 = nI 1 ∧ 2000 < n j + t ∧ r = (-103) ∧ S' = S) ∨ (∃ j U, j < 4 ∧ s0 = nI j ∧ S.1 (15 + 3 * (j + 1)) 3 = nI 1 ∧ n j + t ≤ 2000 ∧ r = nI (n j + t) ∧ bgO S U (j + 1) ∧ MO (pul U (fMg (j + 1) 58)) (so j) (lk j) (bl j) (ext (g j) (n j) (S.2.1 59)) (n j + t) ∧ S' = sI U 58 1 (nI 0))) := by
  refine CtI_of (by decide) (Nat.le_of_ble_eq_true rfl) ?_
  intro p e s m args below meth c A ls R Q hB hRf hRl hend
  obtain ⟨hx, hbc, hr, hg, hown, hml, hlk, w, hE, hl⟩ := hB
  have hl : lv_has ls 3 [(0, .ref (ad (57))), (1, .int (s0))] := hl
  refine lv_iload_n hx hbc dX7_more_0 rfl (lv_at hl 1 rfl) ?_
  refine wb_Si (na := 1) (As := [.int (s0)]) (rest := []) hx hbc hml hg hown w E0_ok trivial (w.1.sub (tys' := tyM cy) [0, 1, 2] rfl) Sub.none (k_isStream l D cy ad al (S) s0) wk_340 wk_1 wk_338 wk_339 ⟨by decide, by decide, by decide⟩ ⟨by rw [hRf]; decide, by rw [hRl]; decide⟩ rfl hl.1 rfl (Nat.le_of_ble_eq_true rfl) dX7_more_1 ⟨Nat.zero_le _, Nat.zero_le _⟩ (fun r S9 H locs hp w => ?_)
  subst hp
  refine lv_if_ne (tgt := 10) hx hbc dX7_more_4 (by decide) (fun c_4 => ?_) (fun c_4 => ?_)
  · obtain ⟨j, hj, rfl⟩ := hsF_nz c_4 (by decide)
    rcases hst j hj with ho | ⟨ho, hso, hn2, hMO⟩
    · skip
      refine lv_aload_n hx hbc dX7_more_10 rfl (lv_at hl 0 rfl) ?_
      refine wb_gr (t := 30) hx hbc hg hown w inG_X7 57 (by decide) rfl rfl 4 (by decide) rfl wk_209 dX7_more_11 ?_
      refine lv_iload_n hx hbc dX7_more_14 rfl (lv_at hl 1 rfl) ?_
      refine wb_aald (k := j) (t := 15 + 3 * (j + 1)) hx hbc w 30 (by decide) rfl (by decide) 3 rfl rfl (by omega) (by decide) rfl dX7_more_15 ?_
      refine lv_astore_n (lv' := [(2, .ref (ad (15 + 3 * (j + 1)))), (0, .ref (ad (57))), (1, .int (nI (j)))]) hx hbc dX7_more_16 rfl hl (by decide) rfl (fun ls hl => ?_)
      refine lv_aload_n hx hbc dX7_more_17 rfl (lv_at hl 0 rfl) ?_
      refine wb_gi (v := nI (0)) hx hbc hg hown w inG_X1 (15 + 3 * (j + 1)) (by omega) (skD_M _ (by omega)) rfl 3 (by decide) rfl wk_82 ho dX7_more_18 ?_
      refine lv_if_ne (tgt := 27) hx hbc dX7_more_21 (by decide) (fun c_21 => ?_) (fun c_21 => ?_)
      · exact absurd c_21 (by decide)
      · refine lv_bipush (v := (-104)) hx hbc dX7_more_24 (by decide) ?_
        exact hend _ (S) _ _ _ _ (Or.inr (Or.inl ⟨j, hj, rfl, ho, rfl, rfl⟩)) rfl w dX7_more_26
    · skip
      refine lv_aload_n hx hbc dX7_more_10 rfl (lv_at hl 0 rfl) ?_
      refine wb_gr (t := 30) hx hbc hg hown w inG_X7 57 (by decide) rfl rfl 4 (by decide) rfl wk_209 dX7_more_11 ?_
      refine lv_iload_n hx hbc dX7_more_14 rfl (lv_at hl 1 rfl) ?_
      refine wb_aald (k := j) (t := 15 + 3 * (j + 1)) hx hbc w 30 (by decide) rfl (by decide) 3 rfl rfl (by omega) (by decide) rfl dX7_more_15 ?_
      refine lv_astore_n (lv' := [(2, .ref (ad (15 + 3 * (j + 1)))), (0, .ref (ad (57))), (1, .int (nI (j)))]) hx hbc dX7_more_16 rfl hl (by decide) rfl (fun ls hl => ?_)
      refine lv_aload_n hx hbc dX7_more_17 rfl (lv_at hl 0 rfl) ?_
      refine wb_gi (v := nI (1)) hx hbc hg hown w inG_X1 (15 + 3 * (j + 1)) (by omega) (skD_M _ (by omega)) rfl 3 (by decide) rfl wk_82 ho dX7_more_18 ?_
      refine lv_if_ne (tgt := 27) hx hbc dX7_more_21 (by decide) (fun c_21 => ?_) (fun c_21 => ?_)
      · refine lv_aload_n hx hbc dX7_more_27 rfl (lv_at hl 1 rfl) ?_
        refine wb_gr (t := 58) hx hbc hg hown w inG_X7 57 (by decide) rfl rfl 0 (by decide) rfl wk_205 dX7_more_28 ?_
        refine wb_gi (v := nI (t)) hx hbc hg hown w inG_X0 58 (by decide) rfl rfl 1 (by decide) rfl wk_38 ht dX7_more_31 ?_
        refine lv_sipush (v := nI (2000)) hx hbc dX7_more_34 (by decide) ?_
        refine lv_aload_n hx hbc dX7_more_37 rfl (lv_at hl 0 rfl) ?_
        refine wb_gi (v := nI (n j)) hx hbc hg hown w inG_X1 (15 + 3 * (j + 1)) (by omega) (skD_M _ (by omega)) rfl 5 (by decide) rfl wk_85 hMO.2.2.1 dX7_more_38 ?_
        refine n_isub (by omega) hx hbc dX7_more_41 ?_
        refine n_cmp_le (tgt := 48) (by omega) (by omega) hx hbc dX7_more_42 (by decide) (fun c_42 => ?_) (fun c_42 => ?_)
        · refine lv_aload_n hx hbc dX7_more_48 rfl (lv_at hl 0 rfl) ?_
          refine lv_aload_n hx hbc dX7_more_49 rfl (lv_at hl 1 rfl) ?_
          refine wb_gr (t := 58) hx hbc hg hown w inG_X7 57 (by decide) rfl rfl 0 (by decide) rfl wk_205 dX7_more_50 ?_
          obtain ⟨h9, G9, c9, hI9, hC9, hby9, hbk9⟩ := hMO.take_pre t (S.2.1 59)
          refine wc_Vv (na := 1) (f := (fMg (j + 1) 58)) (As := [.ref (ad (58))]) (rest := []) hx hbc hml hg hown w (EC_ok al) hE (w.1.sub (tys' := tyM cy) [0, 1, 2] rfl) (lieMg (j + 1) 58 (by omega) (Or.inl rfl)).A (15 + 3 * (j + 1)) (by omega) (skD_M _ (by omega)) rfl (k_gtake l D cy (fun z9 => ad (fMg (j + 1) 58 z9)) al (pul S (fMg (j + 1) 58)) h9 G9 c9 t (n j) hI9 hC9 (show S.1 58 1 = nI t from ht) ht2 hMO.2.2.1 hby9) wk_320 wk_4 wk_317 wk_318 wk_319 ⟨by decide, by decide, by decide⟩ ⟨by rw [hRf]; decide, by rw [hRl]; decide⟩ rfl hl.1 rfl (Nat.le_of_ble_eq_true rfl) dX7_more_53 ⟨Nat.zero_le _, Nat.zero_le _⟩ (fun S9 hp H locs w => ?_)
          obtain ⟨T8, hoT, hMT, hCT, hp⟩ := hp
          have hMO2 := hbk9 T8 S9 hoT hMT hCT hp
          have w : WB D (tyC cy) 322 cy ad skD A s (psh S (fiMg (j + 1) 58) S9) H locs := w _ ((lieMg (j + 1) 58 (by omega) (Or.inl rfl)).T _)
          have hpu := mg_push (S := S) (m := (j + 1)) (b := 58) (X := S9) (by omega) (Or.inl rfl) (fun i hi => (by rw [hp]; refine ⟨?_, (hoT i (by omega)).2⟩; show va_up T8.1 3 _ i = _; rw [va_up_ne _ _ (by omega)]; exact (hoT i (by omega)).1)) (by rw [hp]; exact congrFun (hoT 3 (by decide)).1 3)
          have hbo2 : bgO S (psh S (fiMg (j + 1) 58) S9) (j + 1) := hpu.1
          have hMO2 : MO (pul (psh S (fiMg (j + 1) 58) S9) (fMg (j + 1) 58)) (so j) (lk j) (bl j) (ext (g j) (n j) (S.2.1 59)) ((n j) + t) := hMO2.sm (hpu.2 58)
          obtain ⟨U2, eU2⟩ : ∃ z, z = psh S (fiMg (j + 1) 58) S9 := ⟨_, rfl⟩
          rw [← eU2] at w hbo2 hMO2
          refine lv_aload_n hx hbc dX7_more_56 rfl (lv_at hl 1 rfl) ?_
          refine wb_gr (t := 58) hx hbc hg hown w inG_X7 57 (by decide) rfl rfl 0 (by decide) rfl wk_205 dX7_more_57 ?_
          refine lv_iconst (v := nI (0)) hx hbc dX7_more_60 (by decide) ?_
          refine wb_pi (v := nI (0)) hx hbc hg hown w inG_X0 tyX0 tyX0_ok nmX0 58 (by decide) rfl rfl 1 (by decide) rfl wk_38 rfl rfl rfl rfl dX7_more_61 (fun H locs w => ?_)
          refine lv_aload_n hx hbc dX7_more_64 rfl (lv_at hl 0 rfl) ?_
          refine wb_gi (v := nI (n j + t)) hx hbc hg hown w inG_X1 (15 + 3 * (j + 1)) (by omega) (skD_M _ (by omega)) rfl 5 (by decide) rfl wk_85 (Eq.trans (by simp only [sI, sB, va_up]; first | rfl | (repeat first | rw [if_pos rfl] | rw [if_neg (by omega)])) (show U2.1 (15 + 3 * (j + 1)) 5 = nI (n j + t) from hMO2.2.2.1)) dX7_more_65 ?_
          exact hend _ (sI U2 58 1 (nI (0))) _ _ _ _ (Or.inr (Or.inr (Or.inr ⟨j, U2, hj, rfl, ho, (by omega), rfl, hbo2, hMO2, rfl⟩))) rfl w dX7_more_68
        · refine lv_bipush (v := (-103)) hx hbc dX7_more_45 (by decide) ?_
          exact hend _ (S) _ _ _ _ (Or.inr (Or.inr (Or.inl ⟨j, hj, rfl, ho, (by omega), rfl, rfl⟩))) rfl w dX7_more_47
      · exact absurd c_21 (by decide)
  · refine lv_bipush (v := (-102)) hx hbc dX7_more_7 (by decide) ?_
    exact hend _ (S) _ _ _ _ (Or.inl ⟨hsF_oor c_4 (by decide), rfl, rfl⟩) rfl w dX7_more_9
set_option maxHeartbeats 1000000 in
set_option maxRecDepth 100000 in
theorem k_D_end (l : Launch) (D : va_G) (cy : Nat → ClassId) (ad al : Nat → Nat) (S : wS) (s0 : Int32) (d : Nat) (hd : S.1 31 5 = nI d) (hd2 : d ≤ 60) (so : Nat → Nat) (lk : Nat → Nat → Int32) (bl : Nat → Nat) (g : Nat → Nat → Int32) (n : Nat → Nat) (hst : ∀ j, j < 4 → stO S so lk bl g n j) : CtI l yX7_end (Cond.code yX7_end cX7_end 2 (some .int) :: wsG) 7 162 [.ref (ad (57)), .int (s0)] D (tyC cy) 322 cy ad skD (EC al) (S) (fun r S' => (oor s0 4 ∧ r = (-102) ∧ S' = S) ∨ (∃ j, j < 4 ∧ s0 = nI j ∧ S.1 (15 + 3 * (j + 1)) 3 = nI 0 ∧ r = (-104) ∧ S' = S) ∨ (∃ j, j < 4 ∧ s0 = nI j ∧ S.1 (15 + 3 * (j + 1)) 3 = nI 1 ∧ d = 60 ∧ r = (-103) ∧ S' = S) ∨ (∃ j, j < 4 ∧ s0 = nI j ∧ S.1 (15 + 3 * (j + 1)) 3 = nI 1 ∧ d < 60 ∧ r = nI d ∧ fin9 (sI S (15 + 3 * (j + 1)) 3 (nI (0))) (j + 1) (so j) (lk j) (g j) (bl j) (n j) d S')) := by
  refine CtI_of (by decide) (Nat.le_of_ble_eq_true rfl) ?_
  intro p e s m args below meth c A ls R Q hB hRf hRl hend
  obtain ⟨hx, hbc, hr, hg, hown, hml, hlk, w, hE, hl⟩ := hB
  have hl : lv_has ls 2 [(0, .ref (ad (57))), (1, .int (s0))] := hl
  refine lv_iload_n hx hbc dX7_end_0 rfl (lv_at hl 1 rfl) ?_
  refine wb_Si (na := 1) (As := [.int (s0)]) (rest := []) hx hbc hml hg hown w E0_ok trivial (w.1.sub (tys' := tyM cy) [0, 1, 2] rfl) Sub.none (k_isStream l D cy ad al (S) s0) wk_340 wk_1 wk_338 wk_339 ⟨by decide, by decide, by decide⟩ ⟨by rw [hRf]; decide, by rw [hRl]; decide⟩ rfl hl.1 rfl (Nat.le_of_ble_eq_true rfl) dX7_end_1 ⟨Nat.zero_le _, Nat.zero_le _⟩ (fun r S9 H locs hp w => ?_)
  subst hp
  refine lv_if_ne (tgt := 10) hx hbc dX7_end_4 (by decide) (fun c_4 => ?_) (fun c_4 => ?_)
  · obtain ⟨j, hj, rfl⟩ := hsF_nz c_4 (by decide)
    rcases hst j hj with ho | ⟨ho, hso, hn2, hMO⟩
    · skip
      refine lv_aload_n hx hbc dX7_end_10 rfl (lv_at hl 0 rfl) ?_
      refine wb_gr (t := 30) hx hbc hg hown w inG_X7 57 (by decide) rfl rfl 4 (by decide) rfl wk_209 dX7_end_11 ?_
      refine lv_iload_n hx hbc dX7_end_14 rfl (lv_at hl 1 rfl) ?_
      refine wb_aald (k := j) (t := 15 + 3 * (j + 1)) hx hbc w 30 (by decide) rfl (by decide) 3 rfl rfl (by omega) (by decide) rfl dX7_end_15 ?_
      refine wb_gi (v := nI (0)) hx hbc hg hown w inG_X1 (15 + 3 * (j + 1)) (by omega) (skD_M _ (by omega)) rfl 3 (by decide) rfl wk_82 ho dX7_end_16 ?_
      refine lv_if_ne (tgt := 25) hx hbc dX7_end_19 (by decide) (fun c_19 => ?_) (fun c_19 => ?_)
      · exact absurd c_19 (by decide)
      · refine lv_bipush (v := (-104)) hx hbc dX7_end_22 (by decide) ?_
        exact hend _ (S) _ _ _ _ (Or.inr (Or.inl ⟨j, hj, rfl, ho, rfl, rfl⟩)) rfl w dX7_end_24
    · skip
      refine lv_aload_n hx hbc dX7_end_10 rfl (lv_at hl 0 rfl) ?_
      refine wb_gr (t := 30) hx hbc hg hown w inG_X7 57 (by decide) rfl rfl 4 (by decide) rfl wk_209 dX7_end_11 ?_
      refine lv_iload_n hx hbc dX7_end_14 rfl (lv_at hl 1 rfl) ?_
      refine wb_aald (k := j) (t := 15 + 3 * (j + 1)) hx hbc w 30 (by decide) rfl (by decide) 3 rfl rfl (by omega) (by decide) rfl dX7_end_15 ?_
      refine wb_gi (v := nI (1)) hx hbc hg hown w inG_X1 (15 + 3 * (j + 1)) (by omega) (skD_M _ (by omega)) rfl 3 (by decide) rfl wk_82 ho dX7_end_16 ?_
      refine lv_if_ne (tgt := 25) hx hbc dX7_end_19 (by decide) (fun c_19 => ?_) (fun c_19 => ?_)
      · refine lv_aload_n hx hbc dX7_end_25 rfl (lv_at hl 0 rfl) ?_
        refine wb_gr (t := 31) hx hbc hg hown w inG_X7 57 (by decide) rfl rfl 5 (by decide) rfl wk_210 dX7_end_26 ?_
        refine wc_Vi (na := 0) (f := (fun z9 => z9 + 31)) (As := []) (rest := []) hx hbc hml hg hown w (EC_ok al) hE (w.1.sub (tys' := tyM cy) [0, 1, 2] rfl) lie_sh.A 31 (by decide) rfl rfl (k_sfull l D cy (fun z9 => ad (z9 + 31)) al (pul S (fun z9 => z9 + 31)) d hd hd2) wk_257 wk_5 wk_254 wk_255 wk_256 ⟨by decide, by decide, by decide⟩ ⟨by rw [hRf]; decide, by rw [hRl]; decide⟩ rfl hl.1 rfl (Nat.le_of_ble_eq_true rfl) dX7_end_29 ⟨Nat.zero_le _, Nat.zero_le _⟩ (fun r S9 hp H locs w => ?_)
        obtain ⟨hr9, hp⟩ := hp
        subst hr9
        subst hp
        have w : WB D (tyC cy) 322 cy ad skD A s (S) H locs := w _ lie_sh.id
        refine lv_if_eq (tgt := 38) hx hbc dX7_end_32 (by decide) (fun c_32 => ?_) (fun c_32 => ?_)
        · have hd3 := full_0 c_32
          refine lv_aload_n hx hbc dX7_end_38 rfl (lv_at hl 0 rfl) ?_
          refine wb_gr (t := 30) hx hbc hg hown w inG_X7 57 (by decide) rfl rfl 4 (by decide) rfl wk_209 dX7_end_39 ?_
          refine lv_iload_n hx hbc dX7_end_42 rfl (lv_at hl 1 rfl) ?_
          refine wb_aald (k := j) (t := 15 + 3 * (j + 1)) hx hbc w 30 (by decide) rfl (by decide) 3 rfl rfl (by omega) (by decide) rfl dX7_end_43 ?_
          refine lv_iconst (v := nI (0)) hx hbc dX7_end_44 (by decide) ?_
          refine wb_pi (v := nI (0)) hx hbc hg hown w inG_X1 tyX1 tyX1_ok nmX1 (15 + 3 * (j + 1)) (by omega) (skD_M _ (by omega)) rfl 3 (by decide) rfl wk_82 rfl (by decide) (by decide) rfl dX7_end_45 (fun H locs w => ?_)
          have hMO3 : MO (pul (sI S (15 + 3 * (j + 1)) 3 (nI (0))) (fMg (j + 1) 58)) (so j) (lk j) (bl j) (g j) (n j) := mo_cl hMO
          have hdU : (sI S (15 + 3 * (j + 1)) 3 (nI (0))).1 31 5 = nI d := (show va_up S.1 _ _ 31 5 = _ by rw [va_up_ne _ _ (by omega)]; exact hd)
          obtain ⟨U9, eU9⟩ : ∃ z, z = sI S (15 + 3 * (j + 1)) 3 (nI (0)) := ⟨_, rfl⟩
          rw [← eU9] at w hMO3 hdU
          rcases (show so j = 2 ∨ ¬ so j = 2 by omega) with hk9 | hk9
          · skip
            refine lv_aload_n hx hbc dX7_end_48 rfl (lv_at hl 0 rfl) ?_
            refine wb_gr (t := 30) hx hbc hg hown w inG_X7 57 (by decide) rfl rfl 4 (by decide) rfl wk_209 dX7_end_49 ?_
            refine lv_iload_n hx hbc dX7_end_52 rfl (lv_at hl 1 rfl) ?_
            refine wb_aald (k := j) (t := 15 + 3 * (j + 1)) hx hbc w 30 (by decide) rfl (by decide) 3 rfl rfl (by omega) (by decide) rfl dX7_end_53 ?_
            refine lv_aload_n hx hbc dX7_end_54 rfl (lv_at hl 0 rfl) ?_
            refine wb_gr (t := 31) hx hbc hg hown w inG_X7 57 (by decide) rfl rfl 5 (by decide) rfl wk_210 dX7_end_55 ?_
            have hF9 := hMO3.f
            have hk2 := hF9.2.2.2.resolve_left (fun h => h.1 (by first | exact hk9 | rw [hk9]))
            refine wc_Vi (na := 1) (f := (fMf (j + 1))) (As := [.ref (ad (31))]) (rest := []) hx hbc hml hg hown w (EC_ok al) hE w.1 (lieMf (j + 1) (by omega)).A (15 + 3 * (j + 1)) (by omega) (skD_M _ (by omega)) rfl (k_gfin2 l D cy (fun z9 => ad (fMf (j + 1) z9)) al (pul U9 (fMf (j + 1))) wC0 (kyG (lk j) (g j)) (64 + ((n j))) (bl j) d hk2.2.1 hk2.2.2.1 hF9.2.1 hdU (by omega) (hF9.1.trans (by first | exact hk9 | rw [hk9]))) wk_324 wk_4 wk_321 wk_322 wk_323 ⟨by decide, by decide, by decide⟩ ⟨by rw [hRf]; decide, by rw [hRl]; decide⟩ rfl hl.1 rfl (Nat.le_of_ble_eq_true rfl) dX7_end_58 ⟨Nat.zero_le _, Nat.zero_le _⟩ (fun r S9 hp H locs w => ?_)
            obtain ⟨hr9, hp⟩ := hp
            subst hr9
            have hfi := fin9_2 hk2.2.2.2 hp
            have w : WB D (tyC cy) 322 cy ad skD A s (psh U9 (fiMf (j + 1)) S9) H locs := w _ ((lieMf (j + 1) (by omega)).T _)
            exact hend _ (psh U9 (fiMf (j + 1)) S9) _ _ _ _ (Or.inr (Or.inr (Or.inr ⟨j, hj, rfl, ho, hd3, rfl, (by rw [← eU9]; rw [hk9]; exact hfi)⟩))) rfl w dX7_end_61
          · skip
            refine lv_aload_n hx hbc dX7_end_48 rfl (lv_at hl 0 rfl) ?_
            refine wb_gr (t := 30) hx hbc hg hown w inG_X7 57 (by decide) rfl rfl 4 (by decide) rfl wk_209 dX7_end_49 ?_
            refine lv_iload_n hx hbc dX7_end_52 rfl (lv_at hl 1 rfl) ?_
            refine wb_aald (k := j) (t := 15 + 3 * (j + 1)) hx hbc w 30 (by decide) rfl (by decide) 3 rfl rfl (by omega) (by decide) rfl dX7_end_53 ?_
            refine lv_aload_n hx hbc dX7_end_54 rfl (lv_at hl 0 rfl) ?_
            refine wb_gr (t := 31) hx hbc hg hown w inG_X7 57 (by decide) rfl rfl 5 (by decide) rfl wk_210 dX7_end_55 ?_
            have hF9 := hMO3.f
            have hk2 := hF9.2.2.2.resolve_right (fun h => hk9 h.1)
            refine wc_Vi (na := 1) (f := (fMf (j + 1))) (As := [.ref (ad (31))]) (rest := []) hx hbc hml hg hown w (EC_ok al) hE w.1 (lieMf (j + 1) (by omega)).A (15 + 3 * (j + 1)) (by omega) (skD_M _ (by omega)) rfl (k_gfin01 l D cy (fun z9 => ad (fMf (j + 1) z9)) al (pul U9 (fMf (j + 1))) (hB (so j)) (g j) ((n j)) (bl j) d hk2.2.1 hk2.2.2 hF9.2.1 hdU (by omega) (nI (so j)) hF9.1 (fun h => hk9 ((nI_eq (by omega) (by decide)).mp h))) wk_324 wk_4 wk_321 wk_322 wk_323 ⟨by decide, by decide, by decide⟩ ⟨by rw [hRf]; decide, by rw [hRl]; decide⟩ rfl hl.1 rfl (Nat.le_of_ble_eq_true rfl) dX7_end_58 ⟨Nat.zero_le _, Nat.zero_le _⟩ (fun r S9 hp H locs w => ?_)
            obtain ⟨hr9, hp⟩ := hp
            subst hr9
            have hfi := fin9_01 (lk := (lk j)) hk2.1 hp
            have w : WB D (tyC cy) 322 cy ad skD A s (psh U9 (fiMf (j + 1)) S9) H locs := w _ ((lieMf (j + 1) (by omega)).T _)
            exact hend _ (psh U9 (fiMf (j + 1)) S9) _ _ _ _ (Or.inr (Or.inr (Or.inr ⟨j, hj, rfl, ho, hd3, rfl, (by rw [← eU9]; exact hfi)⟩))) rfl w dX7_end_61
        · refine lv_bipush (v := (-103)) hx hbc dX7_end_35 (by decide) ?_
          exact hend _ (S) _ _ _ _ (Or.inr (Or.inr (Or.inl ⟨j, hj, rfl, ho, (by have := full_1 c_32; omega), rfl, rfl⟩))) rfl w dX7_end_37
      · exact absurd c_19 (by decide)
  · refine lv_bipush (v := (-102)) hx hbc dX7_end_7 (by decide) ?_
    exact hend _ (S) _ _ _ _ (Or.inl ⟨hsF_oor c_4 (by decide), rfl, rfl⟩) rfl w dX7_end_9
