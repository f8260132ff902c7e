def adS (S : wS) (x : Int32) (d q : Nat) : wS := sI (sB (sB (sB (sB S 6 (upd (S.2.1 6) d x)) 7 (upd (S.2.1 7) d (nI (q)))) (9 + d) (cps ((sB (sB S 6 (upd (S.2.1 6) d x)) 7 (upd (S.2.1 7) d (nI (q)))).2.1 (9 + d)) (sbH ((sB (sB S 6 (upd (S.2.1 6) d x)) 7 (upd (S.2.1 7) d (nI (q)))).2.1 1)) (l32 x))) (69 + d) (va_cpy (S.2.1 2) (S.2.1 (69 + d)) 0 0 16)) 3 5 (nI (d + 1))
set_option maxHeartbeats 4000000 in
set_option maxRecDepth 100000 in
theorem k_shelfAdd (l : Launch) (D : va_G) (cy : Nat → ClassId) (ad al : Nat → Nat) (S : wS) (x : Int32) (q d : Nat) (hd : S.1 3 5 = nI d) (hd2 : d < 60) : CtI l yX4_add (Cond.code yX4_add cX4_add 5 (some .int) :: wsG) 1 26 [.ref (ad (3)), .int (x), .int (nI (q)), .ref (ad (0))] D (tyC cy) 129 cy ad skSA (EC al) (S) (fun r S' => r = nI d ∧ S' = adS S x d q) := by
  refine CtI_of (by decide) (Nat.le_of_ble_eq_true rfl) ?_
  intro p e s m args below meth c A ls R Q hB hRf hRl hend
  obtain ⟨hx, hbc, hr, hg, hown, hml, hlk, w, hE, hl⟩ := hB
  have hl : lv_has ls 5 [(0, .ref (ad (3))), (1, .int (x)), (2, .int (nI (q))), (3, .ref (ad (0)))] := hl
  refine lv_aload_n hx hbc dX4_add_0 rfl (lv_at hl 0 rfl) ?_
  refine wb_gi (v := nI (d)) hx hbc hg hown w inG_X4 3 (by decide) rfl rfl 5 (by decide) rfl wk_121 hd dX4_add_1 ?_
  refine lv_istore (lv' := [(4, .int (nI (d))), (0, .ref (ad (3))), (1, .int (x)), (2, .int (nI (q))), (3, .ref (ad (0)))]) hx hbc dX4_add_4 hl (by decide) rfl (fun ls hl => ?_)
  refine lv_aload_n hx hbc dX4_add_6 rfl (lv_at hl 1 rfl) ?_
  refine wb_gr (t := 6) hx hbc hg hown w inG_X4 3 (by decide) rfl rfl 2 (by decide) rfl wk_116 dX4_add_7 ?_
  refine lv_iload hx hbc dX4_add_10 (lv_at hl 0 rfl) ?_
  refine lv_iload_n hx hbc dX4_add_12 rfl (lv_at hl 2 rfl) ?_
  refine wb_iast (k := d) (f := S.2.1 6) hx hbc w 6 (by decide) rfl 0 rfl rfl (by omega) (by decide) rfl rfl dX4_add_13 (fun H locs w => ?_)
  refine lv_aload_n hx hbc dX4_add_14 rfl (lv_at hl 1 rfl) ?_
  refine wb_gr (t := 7) hx hbc hg hown w inG_X4 3 (by decide) rfl rfl 3 (by decide) rfl wk_118 dX4_add_15 ?_
  refine lv_iload hx hbc dX4_add_18 (lv_at hl 0 rfl) ?_
  refine lv_iload_n hx hbc dX4_add_20 rfl (lv_at hl 3 rfl) ?_
  refine wb_iast (k := d) (f := S.2.1 7) hx hbc w 7 (by decide) rfl 0 rfl rfl (by omega) (by decide) rfl rfl dX4_add_21 (fun H locs w => ?_)
  refine lv_aload_n hx hbc dX4_add_22 rfl (lv_at hl 4 rfl) ?_
  refine lv_aload_n hx hbc dX4_add_23 rfl (lv_at hl 1 rfl) ?_
  refine wb_gr (t := 4) hx hbc hg hown w inG_X4 3 (by decide) rfl rfl 0 (by decide) rfl wk_113 dX4_add_24 ?_
  refine lv_iload hx hbc dX4_add_27 (lv_at hl 0 rfl) ?_
  refine wb_aaldA (k := d) (t := 9 + d) hx hbc w 4 (by decide) rfl (by decide) 5 rfl rfl (by omega) (by decide) rfl dX4_add_29 ?_
  refine lv_iload_n hx hbc dX4_add_30 rfl (lv_at hl 2 rfl) ?_
  refine wc_SNi (na := 1) (f := id) (As := [.int (x)]) (rest := [.ref (ad (9 + d)), .ref (ad (0))]) hx hbc hml hg hown w E0_ok trivial (w.1.sub (tys' := tyM cy) [0, 1, 2] rfl) ⟨fun k hk => absurd hk (Nat.not_lt_zero k), fun k _ hk => absurd hk (Nat.not_lt_zero k)⟩ (k_bytesOf l D cy ad al (sB (sB S 6 (upd (S.2.1 6) d x)) 7 (upd (S.2.1 7) d (nI (q)))) x) wk_331 wk_1 (hE.2.2.2.2.2 _ (List.mem_of_getElem? (i := 7) rfl)) wk_330 ⟨by decide, by decide, by decide⟩ ⟨by rw [hRf]; decide, by rw [hRl]; decide⟩ rfl hl.1 rfl (Nat.le_of_ble_eq_true rfl) dX4_add_31 ⟨Nat.zero_le _, Nat.zero_le _⟩ (fun r S9 hp H locs w => ?_)
  subst hp
  have hl32_0 := l32_in x
  have w : WB D (tyC cy) 129 cy ad skSA A s (sB (sB S 6 (upd (S.2.1 6) d x)) 7 (upd (S.2.1 7) d (nI (q)))) H locs := w _ ⟨fun k hk => absurd hk (Nat.not_lt_zero k), fun _ _ _ => rfl⟩
  refine wc_Vv (na := 2) (f := (fM (9 + d))) (As := [.ref (ad (9 + d)), .int (nI (l32 x))]) (rest := []) hx hbc hml hg hown w (EC_ok al) hE (w.1.sub (tys' := tyM cy) [0, 1, 2] rfl) (sub4A hM_sa (by omega) (by omega) (skSA_b _ (by omega))) 0 (by decide) rfl rfl (k_mwrite l D cy (fun k => ad (fM (9 + d) k)) al (sM (sB (sB S 6 (upd (S.2.1 6) d x)) 7 (upd (S.2.1 7) d (nI (q)))) (9 + d)) 32 (by decide) (l32 x) (by omega) (by omega)) wk_306 wk_3 wk_332 wk_304 wk_305 ⟨by decide, by decide, by decide⟩ ⟨by rw [hRf]; decide, by rw [hRl]; decide⟩ rfl hl.1 rfl (Nat.le_of_ble_eq_true rfl) dX4_add_34 ⟨Nat.zero_le _, Nat.zero_le _⟩ (fun S9 hp H locs w => ?_)
  subst hp
  have w : WB D (tyC cy) 129 cy ad skSA A s (sB (sB (sB S 6 (upd (S.2.1 6) d x)) 7 (upd (S.2.1 7) d (nI (q)))) (9 + d) (cps ((sB (sB S 6 (upd (S.2.1 6) d x)) 7 (upd (S.2.1 7) d (nI (q)))).2.1 (9 + d)) (sbH ((sB (sB S 6 (upd (S.2.1 6) d x)) 7 (upd (S.2.1 7) d (nI (q)))).2.1 1)) (l32 x))) H locs := w _ (wrt_T hM_sa (by omega) (skSA_b _ (by omega)))
  refine lv_aload_n hx hbc dX4_add_37 rfl (lv_at hl 4 rfl) ?_
  refine wb_gr (t := 2) hx hbc hg hown w inG_X2 0 (by decide) rfl rfl 1 (by decide) rfl wk_55 dX4_add_38 ?_
  refine lv_iconst (v := nI (0)) hx hbc dX4_add_41 (by decide) ?_
  refine lv_aload_n hx hbc dX4_add_42 rfl (lv_at hl 1 rfl) ?_
  refine wb_gr (t := 5) hx hbc hg hown w inG_X4 3 (by decide) rfl rfl 1 (by decide) rfl wk_115 dX4_add_43 ?_
  refine lv_iload hx hbc dX4_add_46 (lv_at hl 0 rfl) ?_
  refine wb_aaldA (k := d) (t := 69 + d) hx hbc w 5 (by decide) rfl (by decide) 6 rfl rfl (by omega) (by decide) rfl dX4_add_48 ?_
  refine lv_iconst (v := nI (0)) hx hbc dX4_add_49 (by decide) ?_
  refine lv_bipush (v := nI (16)) hx hbc dX4_add_50 (by decide) ?_
  refine wb_cpi (ty := .int) (f := S.2.1 (69 + d)) (f0 := S.2.1 2) hx hbc (hml.trans hl.1.symm) hg hown wk_333 wk_246 wk_245 wk_10 w 2 (by decide) rfl (69 + d) (by omega) (skSA_l _) (by decide) 0 rfl rfl (by omega) (by omega) (by decide) (by decide) (by simp only [sB, va_up]; repeat rw [if_neg (by omega)]) (by simp only [sB, va_up]; repeat rw [if_neg (by omega)]) (fun _ _ => rfl) (by rw [hRf]; decide) (by rw [hRl]; exact Nat.le_of_ble_eq_true rfl) dX4_add_52 (fun H locs w => ?_)
  refine lv_aload_n hx hbc dX4_add_55 rfl (lv_at hl 1 rfl) ?_
  refine lv_dup hx hbc dX4_add_56 rfl ?_
  refine wb_gi (v := nI (d)) hx hbc hg hown w inG_X4 3 (by decide) rfl rfl 5 (by decide) rfl wk_121 (Eq.trans (by simp only [sI, sB, va_up]; first | rfl | (repeat first | rw [if_pos rfl] | rw [if_neg (by omega)])) hd) dX4_add_57 ?_
  refine lv_iconst (v := nI (1)) hx hbc dX4_add_60 (by decide) ?_
  refine n_iadd hx hbc dX4_add_61 ?_
  refine wb_pi (v := nI (d + 1)) hx hbc hg hown w inG_X4 tyX4 tyX4_ok nmX4 3 (by decide) rfl rfl 5 (by decide) rfl wk_121 rfl rfl rfl rfl dX4_add_62 (fun H locs w => ?_)
  refine lv_iload hx hbc dX4_add_65 (lv_at hl 0 rfl) ?_
  exact hend _ _ _ _ _ _ ⟨rfl, rfl⟩ rfl w dX4_add_67
