theorem skL_lo {i : Nat} (h : i < 322) : skL i = skD i := if_pos h
set_option maxRecDepth 100000 in
theorem k_L_read (l : Launch) (D : va_G) (cy : Nat → ClassId) (ad al : Nat → Nat) (S : wS) (sx : Nat → Nat) (hlt : l.stackTraces = false) (g x i : Int32) (d : Nat) (hd : S.1 31 5 = nI d) (hd2 : d ≤ 60) : CtH l yL_read cL_read 6 [(0, 11, 14, 13)] 8 122 6 [.ref (ad 57), .int g, .int x, .int i, .ref (ad 353)] D (tyC cy) 354 cy ad skL (EX al sx) S (fun r S' => (r = nI 0 ∧ ∃ (v : Int64) (T : wS), (fun r S' => (oor g d ∧ r = (-101) ∧ S' = (pul S id)) ∨ (∃ e, e < d ∧ g = nI e ∧ oor x 5 ∧ r = (-102) ∧ S' = (pul S id)) ∨ (∃ e w k, e < d ∧ g = nI e ∧ w ≤ 4 ∧ x = nI w ∧ i = nI k ∧ k + wn w ≤ l32 ((pul S id).2.1 34 e) ∧ r = cvC w (rdS (fun q => (pul S id).2.1 (62 + e) (k + q)) (wn w)) ∧ S' = (pul S id))) v T ∧ S' = sJ (psh S fiC T) 353 (vp_updL (S.2.2 353) 0 v)) ∨ (r = nI 1 ∧ ∃ T, (fun E9 S' => E9 = rnA ∧ (∃ e w, e < d ∧ g = nI e ∧ w ≤ 4 ∧ x = nI w ∧ oor i (l32 ((pul S id).2.1 34 e) - wn w + 1)) ∧ S' = (pul S id)) rnA T ∧ S' = psh S fiC T)) := by
  refine CtH_of (by decide) (Nat.le_of_ble_eq_true rfl) ?_
  intro p e s m args below meth c A ls R Q hB htab hRf hRl hRc hRs hend
  obtain ⟨hx, hbc, hr, hg, hown, hml, hlk, w, hX, hl⟩ := hB
  have hl : lv_has ls 6 [(0, .ref (ad 57)), (1, .int g), (2, .int x), (3, .int i), (4, .ref (ad 353))] := hl
  refine lv_aload hx hbc dL_read_0 (lv_at hl 4 rfl) ?_
  refine lv_iconst (v := nI (0)) hx hbc dL_read_2 (by decide) ?_
  refine lv_aload_n hx hbc dL_read_3 rfl (lv_at hl 0 rfl) ?_
  refine lv_iload_n hx hbc dL_read_4 rfl (lv_at hl 1 rfl) ?_
  refine lv_iload_n hx hbc dL_read_5 rfl (lv_at hl 2 rfl) ?_
  refine lv_iload_n hx hbc dL_read_6 rfl (lv_at hl 3 rfl) ?_
  refine wc_Xl (na := 3) (f := id) (As := [.int g, .int x, .int i]) (rest := [.int (nI 0), .ref (ad 353)]) hx hbc hml hg hown w (EX_ok al sx) hX w.1 lieC.A 57 (by decide) ((skL_lo (by decide)).trans rfl) rfl (k_D_read l D cy (fun z9 => ad (id z9)) al (pul S id) sx hlt g x i d hd hd2) wk_567 wk_1 wk_564 wk_565 wk_566 ⟨by decide, by decide, by decide⟩ ⟨by rw [hRf]; decide, by rw [hRl]; decide⟩ rfl hl.1 rfl (Nat.le_of_ble_eq_true rfl) dL_read_7 ⟨by rw [hRc]; decide, by rw [hRs]; decide⟩ (fun E9 ce q9 T H locs hp w hce hcv hcl => ?_) (fun v T hp H locs w => ?_)
  · have w := w _ (lieC.T T)
    have hE9 : E9 = rnA := hp.1
    subst hE9
    refine vx_catch hown [] ⟨0, 11, 14, 13⟩ [] htab (fun z hz => absurd hz List.not_mem_nil) (by decide) (by decide) (hg _ wk_480) (va_Nw.use rfl hX.2.2.2.1.2) hce hcv hcl ?_
    refine lv_astore (lv' := [(5, .ref q9), (0, .ref (ad 57)), (1, .int g), (2, .int x), (3, .int i), (4, .ref (ad 353))]) hx hbc dL_read_14 hl (by decide) rfl (fun ls hl => ?_)
    refine lv_iconst (v := nI (1)) hx hbc dL_read_16 (by decide) ?_
    exact hend _ _ _ _ _ _ (Or.inr ⟨rfl, T, hp, rfl⟩) w dL_read_17
  · have w := w _ (lieC.T T)
    refine wb_last (k := 0) (f := S.2.2 353) hx hbc w 353 (by decide) skL_out 2 rfl rfl (by decide) (by decide) rfl rfl dL_read_10 (fun H locs w => ?_)
    refine lv_goto (tgt := 18) hx hbc dL_read_11 (by decide) ?_
    refine lv_iconst (v := nI (0)) hx hbc dL_read_18 (by decide) ?_
    exact hend _ _ _ _ _ _ (Or.inl ⟨rfl, v, T, hp, rfl⟩) w dL_read_19
set_option maxRecDepth 100000 in
theorem k_L_plan (l : Launch) (D : va_G) (cy : Nat → ClassId) (ad al : Nat → Nat) (S : wS) (sx : Nat → Nat) (hlt : l.stackTraces = false) (g x : Int32) (d : Nat) (hd : S.1 31 5 = nI d) (hd2 : d ≤ 60) : CtH l yL_plan cL_plan 5 [(0, 9, 12, 13)] 8 117 6 [.ref (ad 57), .int g, .int x, .ref (ad 353)] D (tyC cy) 354 cy ad skL (EX al sx) S (fun r S' => (r = nI 0 ∧ ∃ (v : Int64) (T : wS), (fun r S' => (oor g d ∧ r = (-101) ∧ S' = (pul S id)) ∨ (∃ e t, e < d ∧ g = nI e ∧ t < 64 ∧ x = nI t ∧ r = (schN (va_cpy ((pul S id).2.1 (122 + e)) ((pul S id).2.1 36) 0 0 16) 48 t).toInt64 ∧ S' = sB (pul S id) 36 (schN (va_cpy ((pul S id).2.1 (122 + e)) ((pul S id).2.1 36) 0 0 16) 48))) v T ∧ S' = sJ (psh S fiC T) 353 (vp_updL (S.2.2 353) 0 v)) ∨ (r = nI 1 ∧ ∃ T, (fun E9 S' => E9 = rnA ∧ (∃ e, e < d ∧ g = nI e) ∧ oor x 64 ∧ S' = (pul S id)) rnA T ∧ S' = psh S fiC T)) := by
  refine CtH_of (by decide) (Nat.le_of_ble_eq_true rfl) ?_
  intro p e s m args below meth c A ls R Q hB htab hRf hRl hRc hRs hend
  obtain ⟨hx, hbc, hr, hg, hown, hml, hlk, w, hX, hl⟩ := hB
  have hl : lv_has ls 5 [(0, .ref (ad 57)), (1, .int g), (2, .int x), (3, .ref (ad 353))] := hl
  refine lv_aload_n hx hbc dL_plan_0 rfl (lv_at hl 3 rfl) ?_
  refine lv_iconst (v := nI (0)) hx hbc dL_plan_1 (by decide) ?_
  refine lv_aload_n hx hbc dL_plan_2 rfl (lv_at hl 0 rfl) ?_
  refine lv_iload_n hx hbc dL_plan_3 rfl (lv_at hl 1 rfl) ?_
  refine lv_iload_n hx hbc dL_plan_4 rfl (lv_at hl 2 rfl) ?_
  refine wc_Xl (na := 2) (f := id) (As := [.int g, .int x]) (rest := [.int (nI 0), .ref (ad 353)]) hx hbc hml hg hown w (EX_ok al sx) hX w.1 lieC.A 57 (by decide) ((skL_lo (by decide)).trans rfl) rfl (k_D_plan l D cy (fun z9 => ad (id z9)) al (pul S id) sx hlt g x d hd hd2) wk_584 wk_1 wk_581 wk_582 wk_583 ⟨by decide, by decide, by decide⟩ ⟨by rw [hRf]; decide, by rw [hRl]; decide⟩ rfl hl.1 rfl (Nat.le_of_ble_eq_true rfl) dL_plan_5 ⟨by rw [hRc]; decide, by rw [hRs]; decide⟩ (fun E9 ce q9 T H locs hp w hce hcv hcl => ?_) (fun v T hp H locs w => ?_)
  · have w := w _ (lieC.T T)
    have hE9 : E9 = rnA := hp.1
    subst hE9
    refine vx_catch hown [] ⟨0, 9, 12, 13⟩ [] htab (fun z hz => absurd hz List.not_mem_nil) (by decide) (by decide) (hg _ wk_480) (va_Nw.use rfl hX.2.2.2.1.2) hce hcv hcl ?_
    refine lv_astore (lv' := [(4, .ref q9), (0, .ref (ad 57)), (1, .int g), (2, .int x), (3, .ref (ad 353))]) hx hbc dL_plan_12 hl (by decide) rfl (fun ls hl => ?_)
    refine lv_iconst (v := nI (1)) hx hbc dL_plan_14 (by decide) ?_
    exact hend _ _ _ _ _ _ (Or.inr ⟨rfl, T, hp, rfl⟩) w dL_plan_15
  · have w := w _ (lieC.T T)
    refine wb_last (k := 0) (f := S.2.2 353) hx hbc w 353 (by decide) skL_out 2 rfl rfl (by decide) (by decide) rfl rfl dL_plan_8 (fun H locs w => ?_)
    refine lv_goto (tgt := 16) hx hbc dL_plan_9 (by decide) ?_
    refine lv_iconst (v := nI (0)) hx hbc dL_plan_16 (by decide) ?_
    exact hend _ _ _ _ _ _ (Or.inl ⟨rfl, v, T, hp, rfl⟩) w dL_plan_17
set_option maxRecDepth 100000 in
theorem k_L_table (l : Launch) (D : va_G) (cy : Nat → ClassId) (ad al : Nat → Nat) (S : wS) (sx : Nat → Nat) (hlt : l.stackTraces = false) (x : Int32) : CtH l yL_table cL_table 4 [(0, 9, 12, 13)] 8 116 6 [.ref (ad 57), .int x, .ref (ad 353)] D (tyC cy) 354 cy ad skL (EX al sx) S (fun r S' => (r = nI 0 ∧ ∃ (v : Int32) (T : wS), (fun r S' => ∃ t, t < 64 ∧ x = nI t ∧ r = kC t ∧ S' = (pul S id)) v T ∧ S' = sJ (psh S fiC T) 353 (vp_updL (S.2.2 353) 0 (v.toInt64))) ∨ (r = nI 1 ∧ ∃ T, (fun E9 S' => E9 = rnA ∧ oor x 64 ∧ S' = (pul S id)) rnA T ∧ S' = psh S fiC T)) := by
  refine CtH_of (by decide) (Nat.le_of_ble_eq_true rfl) ?_
  intro p e s m args below meth c A ls R Q hB htab hRf hRl hRc hRs hend
  obtain ⟨hx, hbc, hr, hg, hown, hml, hlk, w, hX, hl⟩ := hB
  have hl : lv_has ls 4 [(0, .ref (ad 57)), (1, .int x), (2, .ref (ad 353))] := hl
  refine lv_aload_n hx hbc dL_table_0 rfl (lv_at hl 2 rfl) ?_
  refine lv_iconst (v := nI (0)) hx hbc dL_table_1 (by decide) ?_
  refine lv_aload_n hx hbc dL_table_2 rfl (lv_at hl 0 rfl) ?_
  refine lv_iload_n hx hbc dL_table_3 rfl (lv_at hl 1 rfl) ?_
  refine wc_Xi (na := 1) (f := id) (As := [.int x]) (rest := [.int (nI 0), .ref (ad 353)]) hx hbc hml hg hown w (EX_ok al sx) hX w.1 lieC.A 57 (by decide) ((skL_lo (by decide)).trans rfl) rfl (k_D_table l D cy (fun z9 => ad (id z9)) al (pul S id) sx hlt x) wk_597 wk_1 wk_594 wk_595 wk_596 ⟨by decide, by decide, by decide⟩ ⟨by rw [hRf]; decide, by rw [hRl]; decide⟩ rfl hl.1 rfl (Nat.le_of_ble_eq_true rfl) dL_table_4 ⟨by rw [hRc]; decide, by rw [hRs]; decide⟩ (fun E9 ce q9 T H locs hp w hce hcv hcl => ?_) (fun v T hp H locs w => ?_)
  · have w := w _ (lieC.T T)
    have hE9 : E9 = rnA := hp.1
    subst hE9
    refine vx_catch hown [] ⟨0, 9, 12, 13⟩ [] htab (fun z hz => absurd hz List.not_mem_nil) (by decide) (by decide) (hg _ wk_480) (va_Nw.use rfl hX.2.2.2.1.2) hce hcv hcl ?_
    refine lv_astore_n (lv' := [(3, .ref q9), (0, .ref (ad 57)), (1, .int x), (2, .ref (ad 353))]) hx hbc dL_table_12 rfl hl (by decide) rfl (fun ls hl => ?_)
    refine lv_iconst (v := nI (1)) hx hbc dL_table_13 (by decide) ?_
    exact hend _ _ _ _ _ _ (Or.inr ⟨rfl, T, hp, rfl⟩) w dL_table_14
  · have w := w _ (lieC.T T)
    refine lv_i2l hx hbc dL_table_7 rfl ?_
    refine wb_last (k := 0) (f := S.2.2 353) hx hbc w 353 (by decide) skL_out 2 rfl rfl (by decide) (by decide) rfl rfl dL_table_8 (fun H locs w => ?_)
    refine lv_goto (tgt := 15) hx hbc dL_table_9 (by decide) ?_
    refine lv_iconst (v := nI (0)) hx hbc dL_table_15 (by decide) ?_
    exact hend _ _ _ _ _ _ (Or.inl ⟨rfl, v, T, hp, rfl⟩) w dL_table_16
