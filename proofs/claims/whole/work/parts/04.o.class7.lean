set_option maxHeartbeats 4000000 in
set_option maxRecDepth 100000 in
theorem k_wordOfLast (l : Launch) (D : va_G) (cy : Nat → ClassId) (ad al : Nat → Nat) (S : wS) (e9 t : Nat) (he9 : e9 < 60) (ht : t < 64) : CtI l yX4_wordOfLast (Cond.code yX4_wordOfLast cX4_wordOfLast 3 (some .int) :: wsG) 2 46 [.ref (ad (0)), .int (nI (e9)), .int (nI (t))] D (tyC cy) 126 cy ad skSh (EC al) (S) (fun r S' => r = schN (va_cpy (S.2.1 (66 + e9)) (S.2.1 5) 0 0 16) 48 t ∧ S' = sB (sB S 5 (va_cpy (S.2.1 (66 + e9)) (S.2.1 5) 0 0 16)) 5 (schN (va_cpy (S.2.1 (66 + e9)) (S.2.1 5) 0 0 16) 48)) := by
  refine CtI_of (by decide) (Nat.le_of_ble_eq_true rfl) ?_
  intro p e s m args below meth c A ls R Q hB hRf hRl hend
  obtain ⟨hx, hbc, hr, hg, hown, hml, hlk, w, hE, hl⟩ := hB
  have hl : lv_has ls 3 [(0, .ref (ad (0))), (1, .int (nI (e9))), (2, .int (nI (t)))] := hl
  refine lv_aload_n hx hbc dX4_wordOfLast_0 rfl (lv_at hl 0 rfl) ?_
  refine wb_gr (t := 2) hx hbc hg hown w inG_X4 0 (by decide) rfl rfl 1 (by decide) rfl wk_115 dX4_wordOfLast_1 ?_
  refine lv_iload_n hx hbc dX4_wordOfLast_4 rfl (lv_at hl 1 rfl) ?_
  refine wb_aaldA (k := e9) (t := 66 + e9) hx hbc w 2 (by decide) rfl (by decide) 6 rfl rfl (by omega) (by decide) rfl dX4_wordOfLast_5 ?_
  refine lv_iconst (v := nI (0)) hx hbc dX4_wordOfLast_6 (by decide) ?_
  refine lv_aload_n hx hbc dX4_wordOfLast_7 rfl (lv_at hl 0 rfl) ?_
  refine wb_gr (t := 5) hx hbc hg hown w inG_X4 0 (by decide) rfl rfl 4 (by decide) rfl wk_120 dX4_wordOfLast_8 ?_
  refine lv_iconst (v := nI (0)) hx hbc dX4_wordOfLast_11 (by decide) ?_
  refine lv_bipush (v := nI (16)) hx hbc dX4_wordOfLast_12 (by decide) ?_
  refine wb_cpi (ty := .int) (f := S.2.1 5) (f0 := S.2.1 (66 + e9)) hx hbc (hml.trans hl.1.symm) hg hown wk_333 wk_246 wk_245 wk_10 w (66 + e9) (by omega) (skSh_l _) 5 (by decide) rfl (by decide) 0 rfl rfl (by omega) (by omega) (by decide) (by decide) rfl rfl (fun _ _ => rfl) (by rw [hRf]; decide) (by rw [hRl]; exact Nat.le_of_ble_eq_true rfl) dX4_wordOfLast_14 (fun H locs w => ?_)
  refine lv_aload_n hx hbc dX4_wordOfLast_17 rfl (lv_at hl 0 rfl) ?_
  refine wb_gr (t := 5) hx hbc hg hown w inG_X4 0 (by decide) rfl rfl 4 (by decide) rfl wk_120 dX4_wordOfLast_18 ?_
  refine wc_SNv (na := 1) (f := (fun k => k + 5)) (As := [.ref (ad (5))]) (rest := []) hx hbc hml hg hown w (EC_ok al) hE (w.1.sub (tys' := tyM cy) [0, 1, 2] rfl) (one_A (by decide) rfl (by decide) rfl) (k_spread l D cy (fun k => ad (k + 5)) al (shS (sB S 5 (va_cpy (S.2.1 (66 + e9)) (S.2.1 5) 0 0 16)) 5)) wk_291 wk_1 (hE.2.2.2.2.2 _ (List.mem_of_getElem? (i := 11) rfl)) wk_290 ⟨by decide, by decide, by decide⟩ ⟨by rw [hRf]; decide, by rw [hRl]; decide⟩ rfl hl.1 rfl (Nat.le_of_ble_eq_true rfl) dX4_wordOfLast_21 ⟨Nat.zero_le _, Nat.zero_le _⟩ (fun S9 hp H locs w => ?_)
  subst hp
  have w : WB D (tyC cy) 126 cy ad skSh A s (sB (sB S 5 (va_cpy (S.2.1 (66 + e9)) (S.2.1 5) 0 0 16)) 5 (schN (va_cpy (S.2.1 (66 + e9)) (S.2.1 5) 0 0 16) 48)) H locs := w _ (one_T rfl (by decide) rfl _)
  refine lv_aload_n hx hbc dX4_wordOfLast_24 rfl (lv_at hl 0 rfl) ?_
  refine wb_gr (t := 5) hx hbc hg hown w inG_X4 0 (by decide) rfl rfl 4 (by decide) rfl wk_120 dX4_wordOfLast_25 ?_
  refine lv_iload_n hx hbc dX4_wordOfLast_28 rfl (lv_at hl 2 rfl) ?_
  refine wb_iald (k := t) (v := (schN (va_cpy (S.2.1 (66 + e9)) (S.2.1 5) 0 0 16) 48) t) hx hbc w 5 (by decide) rfl 0 rfl rfl (by omega) (by decide) rfl dX4_wordOfLast_29 ?_
  exact hend _ _ _ _ _ _ ⟨rfl, rfl⟩ rfl w dX4_wordOfLast_30
