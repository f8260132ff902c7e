set_option maxHeartbeats 4000000 in
set_option maxRecDepth 100000 in
theorem k_mput (l : Launch) (D : va_G) (cy : Nat → ClassId) (ad al : Nat → Nat) (S : wS) (b : Int32) (fl bl : Nat) (hfl : fl < 64) (h1 : S.1 0 2 = nI fl) (h2 : S.1 0 4 = nI bl) : CtV l yX2_put (Cond.code yX2_put cX2_put 2 none :: wsG) 3 77 [.ref (ad (0)), .int (b)] D (tyM cy) 3 cy ad (skMi 0) (EC al) (S) (fun S' => S' = mpt S fl bl b) := by
  refine CtV_of (by decide) (Nat.le_of_ble_eq_true rfl) ?_
  intro p e s m args below meth c A ls R Q hB hRf hRl hend
  obtain ⟨hx, hbc, hr, hg, hown, hml, hlk, w, hE, hl⟩ := hB
  have hl : lv_has ls 2 [(0, .ref (ad (0))), (1, .int (b))] := hl
  refine lv_aload_n hx hbc dX2_put_0 rfl (lv_at hl 0 rfl) ?_
  refine wb_gr (t := 2) hx hbc hg hown w inG_X2 0 (by decide) rfl rfl 1 (by decide) rfl wk_54 dX2_put_1 ?_
  refine lv_aload_n hx hbc dX2_put_4 rfl (lv_at hl 0 rfl) ?_
  refine wb_gi (v := nI (fl)) hx hbc hg hown w inG_X2 0 (by decide) rfl rfl 2 (by decide) rfl wk_56 h1 dX2_put_5 ?_
  refine lv_iconst (v := nI (4)) hx hbc dX2_put_8 (by decide) ?_
  refine n_idiv (by omega) (by omega) (by omega) hx hbc dX2_put_9 ?_
  refine lv_aload_n hx hbc dX2_put_10 rfl (lv_at hl 0 rfl) ?_
  refine wb_gr (t := 2) hx hbc hg hown w inG_X2 0 (by decide) rfl rfl 1 (by decide) rfl wk_54 dX2_put_11 ?_
  refine lv_aload_n hx hbc dX2_put_14 rfl (lv_at hl 0 rfl) ?_
  refine wb_gi (v := nI (fl)) hx hbc hg hown w inG_X2 0 (by decide) rfl rfl 2 (by decide) rfl wk_56 h1 dX2_put_15 ?_
  refine lv_iconst (v := nI (4)) hx hbc dX2_put_18 (by decide) ?_
  refine n_idiv (by omega) (by omega) (by omega) hx hbc dX2_put_19 ?_
  refine wb_iald (k := fl / 4) (v := (S.2.1 2) (fl / 4)) hx hbc w 2 (by decide) rfl 0 rfl rfl (by omega) (by decide) rfl dX2_put_20 ?_
  refine lv_bipush (v := nI (8)) hx hbc dX2_put_21 (by decide) ?_
  refine lv_ishl hx hbc dX2_put_23 ?_
  refine lv_iload_n hx hbc dX2_put_24 rfl (lv_at hl 1 rfl) ?_
  refine lv_sipush (v := nI (255)) hx hbc dX2_put_25 (by decide) ?_
  refine lv_iand hx hbc dX2_put_28 ?_
  refine lv_ior hx hbc dX2_put_29 ?_
  refine wb_iast (k := fl / 4) (f := S.2.1 2) hx hbc w 2 (by decide) rfl 0 rfl rfl (by omega) (by decide) rfl rfl dX2_put_30 (fun H locs w => ?_)
  refine lv_aload_n hx hbc dX2_put_31 rfl (lv_at hl 0 rfl) ?_
  refine lv_dup hx hbc dX2_put_32 rfl ?_
  refine wb_gi (v := nI (fl)) hx hbc hg hown w inG_X2 0 (by decide) rfl rfl 2 (by decide) rfl wk_56 h1 dX2_put_33 ?_
  refine lv_iconst (v := nI (1)) hx hbc dX2_put_36 (by decide) ?_
  refine n_iadd hx hbc dX2_put_37 ?_
  refine wb_pi (v := nI (fl + 1)) hx hbc hg hown w inG_X2 tyX2 tyX2_ok nmX2 0 (by decide) rfl rfl 2 (by decide) rfl wk_56 rfl rfl rfl rfl dX2_put_38 (fun H locs w => ?_)
  refine lv_aload_n hx hbc dX2_put_41 rfl (lv_at hl 0 rfl) ?_
  refine wb_gi (v := nI (fl + 1)) hx hbc hg hown w inG_X2 0 (by decide) rfl rfl 2 (by decide) rfl wk_56 rfl dX2_put_42 ?_
  refine lv_bipush (v := nI (64)) hx hbc dX2_put_45 (by decide) ?_
  refine n_cmp_ne (tgt := 69) (by omega) (by omega) hx hbc dX2_put_47 (by decide) (fun c_47 => ?_) (fun c_47 => ?_)
  · exact hend _ _ _ _ _ (by unfold mpt; rw [if_neg c_47]; rfl) w dX2_put_69
  · refine lv_aload_n hx hbc dX2_put_50 rfl (lv_at hl 0 rfl) ?_
    refine lv_iconst (v := nI (0)) hx hbc dX2_put_51 (by decide) ?_
    refine wb_pi (v := nI (0)) hx hbc hg hown w inG_X2 tyX2 tyX2_ok nmX2 0 (by decide) rfl rfl 2 (by decide) rfl wk_56 rfl rfl rfl rfl dX2_put_52 (fun H locs w => ?_)
    refine lv_aload_n hx hbc dX2_put_55 rfl (lv_at hl 0 rfl) ?_
    refine lv_dup hx hbc dX2_put_56 rfl ?_
    refine wb_gi (v := nI (bl)) hx hbc hg hown w inG_X2 0 (by decide) rfl rfl 4 (by decide) rfl wk_58 h2 dX2_put_57 ?_
    refine lv_iconst (v := nI (1)) hx hbc dX2_put_60 (by decide) ?_
    refine n_iadd hx hbc dX2_put_61 ?_
    refine wb_pi (v := nI (bl + 1)) hx hbc hg hown w inG_X2 tyX2 tyX2_ok nmX2 0 (by decide) rfl rfl 4 (by decide) rfl wk_58 rfl rfl rfl rfl dX2_put_62 (fun H locs w => ?_)
    refine lv_aload_n hx hbc dX2_put_65 rfl (lv_at hl 0 rfl) ?_
    refine wb_Vv (na := 0) (As := []) (rest := []) hx hbc hml hg hown w (EC_ok al) hE w.1 Sub.self 0 (by decide) rfl rfl (k_mwork l D cy ad al (sI (sI (sI (sB S 2 (upd (S.2.1 2) (fl / 4) ((((S.2.1 2) (fl / 4)) <<< ((nI (8)) &&& 31)) ||| (b &&& (nI (255)))))) 0 2 (nI (fl + 1))) 0 2 (nI (0))) 0 4 (nI (bl + 1)))) wk_288 wk_3 wk_285 wk_287 ws_2 ⟨by decide, by decide, by decide⟩ ⟨by rw [hRf]; decide, by rw [hRl]; decide⟩ rfl hl.1 rfl (Nat.le_of_ble_eq_true rfl) dX2_put_66 ⟨Nat.zero_le _, Nat.zero_le _⟩ (fun S9 H locs hp w => ?_)
    subst hp
    have w : WB D (tyM cy) 3 cy ad (skMi 0) A s (mwk (sI (sI (sI (sB S 2 (upd (S.2.1 2) (fl / 4) ((((S.2.1 2) (fl / 4)) <<< ((nI (8)) &&& 31)) ||| (b &&& (nI (255)))))) 0 2 (nI (fl + 1))) 0 2 (nI (0))) 0 4 (nI (bl + 1)))) H locs := w
    exact hend _ _ _ _ _ (by unfold mpt; rw [if_pos c_47, sI_sI]; rfl) w dX2_put_69
set_option maxHeartbeats 4000000 in
set_option maxRecDepth 100000 in
theorem k_mbegin1 (l : Launch) (D : va_G) (cy : Nat → ClassId) (ad al : Nat → Nat) (S : wS)  : CtV l yX2_begin (Cond.code yX2_begin cX2_begin 2 none :: wsG) 1 26 [.ref (ad (0)), .ref (al 1)] D (tyM cy) 3 cy ad (skMi 0) (EC al) (S) (fun S' => S' = mbg S wC0) := by
  refine CtV_of (by decide) (Nat.le_of_ble_eq_true rfl) ?_
  intro p e s m args below meth c A ls R Q hB hRf hRl hend
  obtain ⟨hx, hbc, hr, hg, hown, hml, hlk, w, hE, hl⟩ := hB
  have hl : lv_has ls 2 [(0, .ref (ad (0))), (1, .ref (al 1))] := hl
  refine lv_aload_n hx hbc dX2_begin_0 rfl (lv_at hl 1 rfl) ?_
  refine lv_iconst (v := nI (0)) hx hbc dX2_begin_1 (by decide) ?_
  refine lv_aload_n hx hbc dX2_begin_2 rfl (lv_at hl 0 rfl) ?_
  refine wb_gr (t := 1) hx hbc hg hown w inG_X2 0 (by decide) rfl rfl 0 (by decide) rfl wk_53 dX2_begin_3 ?_
  refine lv_iconst (v := nI (0)) hx hbc dX2_begin_6 (by decide) ?_
  refine lv_aload_n hx hbc dX2_begin_7 rfl (lv_at hl 0 rfl) ?_
  refine wb_gr (t := 1) hx hbc hg hown w inG_X2 0 (by decide) rfl rfl 0 (by decide) rfl wk_53 dX2_begin_8 ?_
  refine wb_alen hx hbc w 1 (by decide) rfl 0 rfl dX2_begin_11 ?_
  refine wb_cpx (f := S.2.1 1) hx hbc (hml.trans hl.1.symm) hg hown wk_276 wk_246 wk_245 wk_10 w hE.2.1 1 (by decide) rfl 0 rfl (by omega) (by omega) (by decide) (by decide) rfl (by rw [hRf]; decide) (by rw [hRl]; exact Nat.le_of_ble_eq_true rfl) dX2_begin_12 (fun H locs w => ?_)
  refine lv_aload_n hx hbc dX2_begin_15 rfl (lv_at hl 0 rfl) ?_
  refine lv_iconst (v := nI (0)) hx hbc dX2_begin_16 (by decide) ?_
  refine wb_pi (v := nI (0)) hx hbc hg hown w inG_X2 tyX2 tyX2_ok nmX2 0 (by decide) rfl rfl 2 (by decide) rfl wk_56 rfl rfl rfl rfl dX2_begin_17 (fun H locs w => ?_)
  refine lv_aload_n hx hbc dX2_begin_20 rfl (lv_at hl 0 rfl) ?_
  refine lv_iconst (v := nI (0)) hx hbc dX2_begin_21 (by decide) ?_
  refine wb_pi (v := nI (0)) hx hbc hg hown w inG_X2 tyX2 tyX2_ok nmX2 0 (by decide) rfl rfl 3 (by decide) rfl wk_57 rfl rfl rfl rfl dX2_begin_22 (fun H locs w => ?_)
  refine lv_aload_n hx hbc dX2_begin_25 rfl (lv_at hl 0 rfl) ?_
  refine lv_iconst (v := nI (0)) hx hbc dX2_begin_26 (by decide) ?_
  refine wb_pi (v := nI (0)) hx hbc hg hown w inG_X2 tyX2 tyX2_ok nmX2 0 (by decide) rfl rfl 4 (by decide) rfl wk_58 rfl rfl rfl rfl dX2_begin_27 (fun H locs w => ?_)
  exact hend _ _ _ _ _ rfl w dX2_begin_30
set_option maxHeartbeats 4000000 in
set_option maxRecDepth 100000 in
theorem k_mbegin2 (l : Launch) (D : va_G) (cy : Nat → ClassId) (ad al : Nat → Nat) (S : wS)  : CtV l yX2_begin (Cond.code yX2_begin cX2_begin 2 none :: wsG) 1 26 [.ref (ad (0)), .ref (al 2)] D (tyM cy) 3 cy ad (skMi 0) (EC al) (S) (fun S' => S' = mbg S nC0) := by
  refine CtV_of (by decide) (Nat.le_of_ble_eq_true rfl) ?_
  intro p e s m args below meth c A ls R Q hB hRf hRl hend
  obtain ⟨hx, hbc, hr, hg, hown, hml, hlk, w, hE, hl⟩ := hB
  have hl : lv_has ls 2 [(0, .ref (ad (0))), (1, .ref (al 2))] := hl
  refine lv_aload_n hx hbc dX2_begin_0 rfl (lv_at hl 1 rfl) ?_
  refine lv_iconst (v := nI (0)) hx hbc dX2_begin_1 (by decide) ?_
  refine lv_aload_n hx hbc dX2_begin_2 rfl (lv_at hl 0 rfl) ?_
  refine wb_gr (t := 1) hx hbc hg hown w inG_X2 0 (by decide) rfl rfl 0 (by decide) rfl wk_53 dX2_begin_3 ?_
  refine lv_iconst (v := nI (0)) hx hbc dX2_begin_6 (by decide) ?_
  refine lv_aload_n hx hbc dX2_begin_7 rfl (lv_at hl 0 rfl) ?_
  refine wb_gr (t := 1) hx hbc hg hown w inG_X2 0 (by decide) rfl rfl 0 (by decide) rfl wk_53 dX2_begin_8 ?_
  refine wb_alen hx hbc w 1 (by decide) rfl 0 rfl dX2_begin_11 ?_
  refine wb_cpx (f := S.2.1 1) hx hbc (hml.trans hl.1.symm) hg hown wk_276 wk_246 wk_245 wk_10 w hE.2.2.1 1 (by decide) rfl 0 rfl (by omega) (by omega) (by decide) (by decide) rfl (by rw [hRf]; decide) (by rw [hRl]; exact Nat.le_of_ble_eq_true rfl) dX2_begin_12 (fun H locs w => ?_)
  refine lv_aload_n hx hbc dX2_begin_15 rfl (lv_at hl 0 rfl) ?_
  refine lv_iconst (v := nI (0)) hx hbc dX2_begin_16 (by decide) ?_
  refine wb_pi (v := nI (0)) hx hbc hg hown w inG_X2 tyX2 tyX2_ok nmX2 0 (by decide) rfl rfl 2 (by decide) rfl wk_56 rfl rfl rfl rfl dX2_begin_17 (fun H locs w => ?_)
  refine lv_aload_n hx hbc dX2_begin_20 rfl (lv_at hl 0 rfl) ?_
  refine lv_iconst (v := nI (0)) hx hbc dX2_begin_21 (by decide) ?_
  refine wb_pi (v := nI (0)) hx hbc hg hown w inG_X2 tyX2 tyX2_ok nmX2 0 (by decide) rfl rfl 3 (by decide) rfl wk_57 rfl rfl rfl rfl dX2_begin_22 (fun H locs w => ?_)
  refine lv_aload_n hx hbc dX2_begin_25 rfl (lv_at hl 0 rfl) ?_
  refine lv_iconst (v := nI (0)) hx hbc dX2_begin_26 (by decide) ?_
  refine wb_pi (v := nI (0)) hx hbc hg hown w inG_X2 tyX2 tyX2_ok nmX2 0 (by decide) rfl rfl 4 (by decide) rfl wk_58 rfl rfl rfl rfl dX2_begin_27 (fun H locs w => ?_)
  exact hend _ _ _ _ _ rfl w dX2_begin_30
set_option maxHeartbeats 4000000 in
set_option maxRecDepth 100000 in
theorem k_mtakeByte (l : Launch) (D : va_G) (cy : Nat → ClassId) (ad al : Nat → Nat) (S : wS) (b : Int32) (h0 g : Nat → Int32) (n cm : Nat) (hI : MI S h0 g n) (hb : b &&& nI 255 = g n) (h3 : S.1 0 3 = nI cm) : CtV l yX2_takeByte (Cond.code yX2_takeByte cX2_takeByte 2 none :: wsG) 4 98 [.ref (ad (0)), .int (b)] D (tyM cy) 3 cy ad (skMi 0) (EC al) (S) (fun S' => MI S' h0 g (n + 1) ∧ S'.1 0 3 = nI (cm + 1)) := by
  refine CtV_of (by decide) (Nat.le_of_ble_eq_true rfl) ?_
  intro p e s m args below meth c A ls R Q hB hRf hRl hend
  obtain ⟨hx, hbc, hr, hg, hown, hml, hlk, w, hE, hl⟩ := hB
  have hl : lv_has ls 2 [(0, .ref (ad (0))), (1, .int (b))] := hl
  have hJ : MJ S S h0 g n := ⟨hI, rfl, fun _ _ => ⟨rfl, rfl, rfl⟩⟩
  refine lv_aload_n hx hbc dX2_takeByte_0 rfl (lv_at hl 0 rfl) ?_
  refine lv_iload_n hx hbc dX2_takeByte_1 rfl (lv_at hl 1 rfl) ?_
  refine wb_Vv (na := 1) (As := [.int (b)]) (rest := []) hx hbc hml hg hown w (EC_ok al) hE w.1 Sub.self 0 (by decide) rfl rfl (k_mput l D cy ad al (S) b (n % 64) (n / 64) (Nat.mod_lt _ (by decide)) hJ.1.1 hJ.1.2.1) wk_284 wk_3 wk_281 wk_283 ws_1 ⟨by decide, by decide, by decide⟩ ⟨by rw [hRf]; decide, by rw [hRl]; decide⟩ rfl hl.1 rfl (Nat.le_of_ble_eq_true rfl) dX2_takeByte_2 ⟨Nat.zero_le _, Nat.zero_le _⟩ (fun S9 H locs hp w => ?_)
  subst hp
  have w : WB D (tyM cy) 3 cy ad (skMi 0) A s (mpt S (n % 64) (n / 64) b) H locs := w
  have hJ := MJ.put hJ hb
  obtain ⟨S_2, eS_2⟩ : ∃ z, z = mpt S (n % 64) (n / 64) b := ⟨_, rfl⟩
  rw [← eS_2] at w hJ
  refine lv_aload_n hx hbc dX2_takeByte_5 rfl (lv_at hl 0 rfl) ?_
  refine lv_dup hx hbc dX2_takeByte_6 rfl ?_
  refine wb_gi (v := nI (cm)) hx hbc hg hown w inG_X2 0 (by decide) rfl rfl 3 (by decide) rfl wk_57 (hJ.2.1.trans h3) dX2_takeByte_7 ?_
  refine lv_iconst (v := nI (1)) hx hbc dX2_takeByte_10 (by decide) ?_
  refine n_iadd hx hbc dX2_takeByte_11 ?_
  refine wb_pi (v := nI (cm + 1)) hx hbc hg hown w inG_X2 tyX2 tyX2_ok nmX2 0 (by decide) rfl rfl 3 (by decide) rfl wk_57 rfl rfl rfl rfl dX2_takeByte_12 (fun H locs w => ?_)
  exact hend (sI S_2 0 3 (nI (cm + 1))) _ _ _ _ ⟨hJ.1, rfl⟩ w dX2_takeByte_15
set_option maxHeartbeats 4000000 in
set_option maxRecDepth 100000 in
theorem k_mtake (l : Launch) (D : va_G) (cy : Nat → ClassId) (ad al : Nat → Nat) (S : wS) (len : Nat) (hlen : len < 2 ^ 31) (n : Nat) (hn : n ≤ len) (h0 g : Nat → Int32) (c9 cm : Nat) (hI : MI S h0 g c9) (hby : ∀ k, k < n → S.2.1 3 k &&& nI 255 = g (c9 + k)) (h3 : S.1 0 3 = nI cm) : CtV l yX2_take (Cond.code yX2_take cX2_take 4 none :: wsG) 4 98 [.ref (ad (0)), .ref (ad (3)), .int (nI (n))] D (tyM cy) 4 cy ad (skMi len) (EC al) (S) (fun S' => MI S' h0 g (c9 + n) ∧ S'.1 0 3 = nI (cm + n) ∧ S'.2.1 3 = S.2.1 3) := by
  refine CtV_of (by decide) (Nat.le_of_ble_eq_true rfl) ?_
  intro p e s m args below meth c A ls R Q hB hRf hRl hend
  obtain ⟨hx, hbc, hr, hg, hown, hml, hlk, w, hE, hl⟩ := hB
  have hl : lv_has ls 4 [(0, .ref (ad (0))), (1, .ref (ad (3))), (2, .int (nI (n)))] := hl
  refine lv_iconst (v := nI (0)) hx hbc dX2_take_0 (by decide) ?_
  refine lv_istore_n (lv' := [(3, .int (nI (0))), (0, .ref (ad (0))), (1, .ref (ad (3))), (2, .int (nI (n)))]) hx hbc dX2_take_1 rfl hl (by decide) rfl (fun ls hl => ?_)
  have lp_2 : ∀ (fu : Nat) (k : Nat) (S1 : wS) (H : Heap) (locs : List Loc) (ls : Array Slot), (n < k + fu) → (k ≤ n) → (MJ S S1 h0 g (c9 + k)) → WB D (tyM cy) 4 cy ad (skMi len) A s (S1) H locs → lv_has ls 4 [(0, .ref (ad (0))), (1, .ref (ad (3))), (2, .int (nI (n))), (3, .int (nI (k)))] → W p l e R s m args below meth c H locs 0 0 Q (F0 m 2 ls []) := by
    intro fu
    induction fu with
    | zero =>
      intro k S1 H locs ls h1 h2 hJ w hl
      exact absurd h1 (by omega)
    | succ fu ih_2 =>
      intro k S1 H locs ls h1 h2 hJ w hl
      refine lv_iload_n hx hbc dX2_take_2 rfl (lv_at hl 3 rfl) ?_
      refine lv_iload_n hx hbc dX2_take_3 rfl (lv_at hl 2 rfl) ?_
      refine n_cmp_ge (tgt := 20) (by omega) (by omega) hx hbc dX2_take_4 (by decide) (fun c_4 => ?_) (fun c_4 => ?_)
      · obtain rfl : n = k := by omega
        refine lv_aload_n hx hbc dX2_take_20 rfl (lv_at hl 0 rfl) ?_
        refine lv_dup hx hbc dX2_take_21 rfl ?_
        refine wb_gi (v := nI (cm)) hx hbc hg hown w inG_X2 0 (by decide) rfl rfl 3 (by decide) rfl wk_57 (hJ.2.1.trans h3) dX2_take_22 ?_
        refine lv_iload_n hx hbc dX2_take_25 rfl (lv_at hl 2 rfl) ?_
        refine n_iadd hx hbc dX2_take_26 ?_
        refine wb_pi (v := nI (cm + n)) hx hbc hg hown w inG_X2 tyX2 tyX2_ok nmX2 0 (by decide) rfl rfl 3 (by decide) rfl wk_57 rfl rfl rfl rfl dX2_take_27 (fun H locs w => ?_)
        exact hend (sI S1 0 3 (nI (cm + n))) _ _ _ _ ⟨hJ.1, rfl, (hJ.2.2 3 (by decide)).2.1⟩ w dX2_take_30
      · refine lv_aload_n hx hbc dX2_take_7 rfl (lv_at hl 0 rfl) ?_
        refine lv_aload_n hx hbc dX2_take_8 rfl (lv_at hl 1 rfl) ?_
        refine lv_iload_n hx hbc dX2_take_9 rfl (lv_at hl 3 rfl) ?_
        refine wb_bald (k := k) (v := S.2.1 3 k) hx hbc w 3 (by decide) rfl 1 rfl rfl (by omega) hlen (congrFun (hJ.2.2 3 (by decide)).2.1 k) dX2_take_10 ?_
        refine wc_Vv (na := 1) (f := id) (As := [.int (S.2.1 3 k)]) (rest := []) hx hbc hml hg hown w (EC_ok al) hE w.1 ⟨fun k hk => (by rcases (show k = 0 ∨ k = 1 ∨ k = 2 by omega) with rfl | rfl | rfl <;> exact ⟨by decide, rfl, rfl⟩), fun k k' _ _ h => h⟩ 0 (by decide) rfl rfl (k_mput l D cy ad al (S1) (S.2.1 3 k) ((c9 + k) % 64) ((c9 + k) / 64) (Nat.mod_lt _ (by decide)) hJ.1.1 hJ.1.2.1) wk_284 wk_3 wk_281 wk_283 ws_1 ⟨by decide, by decide, by decide⟩ ⟨by rw [hRf]; decide, by rw [hRl]; decide⟩ rfl hl.1 rfl (Nat.le_of_ble_eq_true rfl) dX2_take_11 ⟨Nat.zero_le _, Nat.zero_le _⟩ (fun S9 hp H locs w => ?_)
        subst hp
        have w : WB D (tyM cy) 4 cy ad (skMi len) A s (mpt S1 ((c9 + k) % 64) ((c9 + k) / 64) (S.2.1 3 k)) H locs := w _ ⟨fun k hk => (by rcases (show k = 0 ∨ k = 1 ∨ k = 2 by omega) with rfl | rfl | rfl <;> rfl), fun i hi hn => (by have h3 : 3 ≤ i := Nat.not_lt.mp (fun h => hn i h rfl); obtain ⟨e1, e2, e3⟩ := mpt_o _ _ _ _ i h3; exact wC_congr e1 e2 e3)⟩
        have hJ := MJ.put hJ (hby k (by omega))
        obtain ⟨S_2, eS_2⟩ : ∃ z, z = mpt S1 ((c9 + k) % 64) ((c9 + k) / 64) (S.2.1 3 k) := ⟨_, rfl⟩
        rw [← eS_2] at w hJ
        refine lv_iinc (v := nI (k + 1)) (lv' := [(3, .int (nI (k + 1))), (0, .ref (ad (0))), (1, .ref (ad (3))), (2, .int (nI (n)))]) hx hbc dX2_take_14 hl (k := 3) rfl (ni_inc _ _) (by decide) rfl (fun ls hl => ?_)
        refine lv_goto (tgt := 2) hx hbc dX2_take_17 (by decide) ?_
        exact ih_2 (k + 1) S_2 _ _ _ (by omega) (by omega) hJ w (lv_sub hl [1, 2, 3, 0] rfl)
  exact lp_2 (n + 1) 0 S _ _ _ (by omega) (by omega) ⟨hI, rfl, fun _ _ => ⟨rfl, rfl, rfl⟩⟩ w (lv_sub hl [1, 2, 3, 0] rfl)
set_option maxHeartbeats 4000000 in
set_option maxRecDepth 100000 in
theorem k_mwrite (l : Launch) (D : va_G) (cy : Nat → ClassId) (ad al : Nat → Nat) (S : wS) (len : Nat) (hlen : len < 2 ^ 31) (n : Nat) (hn : n ≤ len) (hn2 : n ≤ 32) : CtV l yX2_write (Cond.code yX2_write cX2_write 4 none :: wsG) 0 0 [.ref (ad (0)), .ref (ad (3)), .int (nI (n))] D (tyM cy) 4 cy ad (skMi len) (EC al) (S) (fun S' => S' = sB S 3 (cps (S.2.1 3) (sbH (S.2.1 1)) n)) := by
  refine CtV_of (by decide) (Nat.le_of_ble_eq_true rfl) ?_
  intro p e s m args below meth c A ls R Q hB hRf hRl hend
  obtain ⟨hx, hbc, hr, hg, hown, hml, hlk, w, hE, hl⟩ := hB
  have hl : lv_has ls 4 [(0, .ref (ad (0))), (1, .ref (ad (3))), (2, .int (nI (n)))] := hl
  refine lv_iconst (v := nI (0)) hx hbc dX2_write_0 (by decide) ?_
  refine lv_istore_n (lv' := [(3, .int (nI (0))), (0, .ref (ad (0))), (1, .ref (ad (3))), (2, .int (nI (n)))]) hx hbc dX2_write_1 rfl hl (by decide) rfl (fun ls hl => ?_)
  have lp_2 : ∀ (fu : Nat) (k : Nat) (H : Heap) (locs : List Loc) (ls : Array Slot), (n < k + fu) → (k ≤ n) → WB D (tyM cy) 4 cy ad (skMi len) A s (sB S 3 (cps (S.2.1 3) (sbH (S.2.1 1)) k)) H locs → lv_has ls 4 [(0, .ref (ad (0))), (1, .ref (ad (3))), (2, .int (nI (n))), (3, .int (nI (k)))] → W p l e R s m args below meth c H locs 0 0 Q (F0 m 2 ls []) := by
    intro fu
    induction fu with
    | zero =>
      intro k H locs ls h1 h2 w hl
      exact absurd h1 (by omega)
    | succ fu ih_2 =>
      intro k H locs ls h1 h2 w hl
      refine lv_iload_n hx hbc dX2_write_2 rfl (lv_at hl 3 rfl) ?_
      refine lv_iload_n hx hbc dX2_write_3 rfl (lv_at hl 2 rfl) ?_
      refine n_cmp_ge (tgt := 35) (by omega) (by omega) hx hbc dX2_write_4 (by decide) (fun c_4 => ?_) (fun c_4 => ?_)
      · exact hend _ _ _ _ _ (by obtain rfl : n = k := (by omega); rfl) w dX2_write_35
      · refine lv_aload_n hx hbc dX2_write_7 rfl (lv_at hl 1 rfl) ?_
        refine lv_iload_n hx hbc dX2_write_8 rfl (lv_at hl 3 rfl) ?_
        refine lv_aload_n hx hbc dX2_write_9 rfl (lv_at hl 0 rfl) ?_
        refine wb_gr (t := 1) hx hbc hg hown w inG_X2 0 (by decide) rfl rfl 0 (by decide) rfl wk_53 dX2_write_10 ?_
        refine lv_iload_n hx hbc dX2_write_13 rfl (lv_at hl 3 rfl) ?_
        refine lv_iconst (v := nI (4)) hx hbc dX2_write_14 (by decide) ?_
        refine n_idiv (by omega) (by omega) (by omega) hx hbc dX2_write_15 ?_
        refine wb_iald (k := k / 4) (v := (S.2.1 1) (k / 4)) hx hbc w 1 (by decide) rfl 0 rfl rfl (by omega) (by decide) rfl dX2_write_16 ?_
        refine lv_bipush (v := nI (24)) hx hbc dX2_write_17 (by decide) ?_
        refine lv_bipush (v := nI (8)) hx hbc dX2_write_19 (by decide) ?_
        refine lv_iload_n hx hbc dX2_write_21 rfl (lv_at hl 3 rfl) ?_
        refine lv_iconst (v := nI (4)) hx hbc dX2_write_22 (by decide) ?_
        refine n_irem (by omega) (by omega) (by omega) hx hbc dX2_write_23 ?_
        refine n_imul hx hbc dX2_write_24 ?_
        refine n_isub (by omega) hx hbc dX2_write_25 ?_
        refine lv_iushr hx hbc dX2_write_26 rfl ?_
        refine lv_i2b hx hbc dX2_write_27 rfl ?_
        refine wb_bast (k := k) (z := ((((S.2.1 1) (k / 4)).toUInt32 >>> ((nI (24 - (8 * (k % 4)))).toUInt32 &&& Int32.toUInt32 31)).toInt32).toInt8.toInt32) (f := cps (S.2.1 3) (sbH (S.2.1 1)) k) hx hbc w 3 (by decide) rfl 1 rfl rfl (by omega) hlen rfl (i8i8 _) rfl dX2_write_28 (fun H locs w => ?_)
        refine lv_iinc (v := nI (k + 1)) (lv' := [(3, .int (nI (k + 1))), (0, .ref (ad (0))), (1, .ref (ad (3))), (2, .int (nI (n)))]) hx hbc dX2_write_29 hl (k := 3) rfl (ni_inc _ _) (by decide) rfl (fun ls hl => ?_)
        refine lv_goto (tgt := 2) hx hbc dX2_write_32 (by decide) ?_
        exact ih_2 (k + 1) _ _ _ (by omega) (by omega) (WB_cast w (by rw [sB_sB]; rfl)) (lv_sub hl [1, 2, 3, 0] rfl)
  exact lp_2 (n + 1) 0 _ _ _ (by omega) (by omega) (WB_cast w (sB_beg _ _ _ rfl)) (lv_sub hl [1, 2, 3, 0] rfl)
set_option maxHeartbeats 4000000 in
set_option maxRecDepth 100000 in
theorem k_mfinish (l : Launch) (D : va_G) (cy : Nat → ClassId) (ad al : Nat → Nat) (S : wS) (h0 g : Nat → Int32) (n : Nat) (hI : MI S h0 g n) (h3 : S.1 0 3 = nI n) : CtV l yX2_finish (Cond.code yX2_finish cX2_finish 5 none :: wsG) 4 98 [.ref (ad (0))] D (tyM cy) 3 cy ad (skMi 0) (EC al) (S) (fun S' => MI S' h0 (padM g n) (padL n) ∧ S'.1 0 3 = nI n) := by
  refine CtV_of (by decide) (Nat.le_of_ble_eq_true rfl) ?_
  intro p e s m args below meth c A ls R Q hB hRf hRl hend
  obtain ⟨hx, hbc, hr, hg, hown, hml, hlk, w, hE, hl⟩ := hB
  have hl : lv_has ls 5 [(0, .ref (ad (0)))] := hl
  have hJ : MJ S S h0 (padM g n) n := ⟨hI.cg (fun j hj => (padM_lo g n j hj).symm), rfl, fun _ _ => ⟨rfl, rfl, rfl⟩⟩
  refine lv_ldc2 (v := (8)) hx hbc hown (hg _ wk_302) dX2_finish_0 ?_
  refine lv_aload_n hx hbc dX2_finish_3 rfl (lv_at hl 0 rfl) ?_
  refine wb_gi (v := nI (n)) hx hbc hg hown w inG_X2 0 (by decide) rfl rfl 3 (by decide) rfl wk_57 h3 dX2_finish_4 ?_
  refine lv_i2l hx hbc dX2_finish_7 rfl ?_
  refine lv_lmul hx hbc dX2_finish_8 ?_
  refine lv_lstore_n (lv' := [(1, .long (((8)) * ((nI (n)).toInt64))), (0, .ref (ad (0)))]) hx hbc dX2_finish_9 rfl hl (by decide) rfl (fun ls hl => ?_)
  refine lv_aload_n hx hbc dX2_finish_10 rfl (lv_at hl 1 rfl) ?_
  refine lv_sipush (v := nI (128)) hx hbc dX2_finish_11 (by decide) ?_
  refine wb_Vv (na := 1) (As := [.int (nI (128))]) (rest := []) hx hbc hml hg hown w (EC_ok al) hE w.1 Sub.self 0 (by decide) rfl rfl (k_mput l D cy ad al (S) (nI (128)) (n % 64) (n / 64) (Nat.mod_lt _ (by decide)) hJ.1.1 hJ.1.2.1) wk_284 wk_3 wk_281 wk_283 ws_1 ⟨by decide, by decide, by decide⟩ ⟨by rw [hRf]; decide, by rw [hRl]; decide⟩ rfl hl.1 rfl (Nat.le_of_ble_eq_true rfl) dX2_finish_14 ⟨Nat.zero_le _, Nat.zero_le _⟩ (fun S9 H locs hp w => ?_)
  subst hp
  have w : WB D (tyM cy) 3 cy ad (skMi 0) A s (mpt S (n % 64) (n / 64) (nI (128))) H locs := w
  have hJ := MJ.put hJ (padM_at0 g n)
  obtain ⟨S_2, eS_2⟩ : ∃ z, z = mpt S (n % 64) (n / 64) (nI (128)) := ⟨_, rfl⟩
  rw [← eS_2] at w hJ
  refine lv_bipush (v := nI (120)) hx hbc dX2_finish_17 (by decide) ?_
  refine lv_aload_n hx hbc dX2_finish_19 rfl (lv_at hl 1 rfl) ?_
  refine wb_gi (v := nI ((n + 1) % 64)) hx hbc hg hown w inG_X2 0 (by decide) rfl rfl 2 (by decide) rfl wk_56 hJ.1.1 dX2_finish_20 ?_
  refine n_isub (by omega) hx hbc dX2_finish_23 ?_
  refine lv_bipush (v := nI (64)) hx hbc dX2_finish_24 (by decide) ?_
  refine n_irem (by omega) (by omega) (by omega) hx hbc dX2_finish_26 ?_
  refine lv_istore_n (lv' := [(3, .int (nI ((120 - ((n + 1) % 64)) % 64))), (1, .long (((8)) * ((nI (n)).toInt64))), (0, .ref (ad (0)))]) hx hbc dX2_finish_27 rfl hl (by decide) rfl (fun ls hl => ?_)
  refine lv_iconst (v := nI (0)) hx hbc dX2_finish_28 (by decide) ?_
  refine lv_istore (lv' := [(4, .int (nI (0))), (3, .int (nI ((120 - ((n + 1) % 64)) % 64))), (1, .long (((8)) * ((nI (n)).toInt64))), (0, .ref (ad (0)))]) hx hbc dX2_finish_29 hl (by decide) rfl (fun ls hl => ?_)
  have hz : (120 - (n + 1) % 64) % 64 = padZ n := by unfold padZ; omega
  have lp_31 : ∀ (fu : Nat) (k : Nat) (S1 : wS) (H : Heap) (locs : List Loc) (ls : Array Slot), (padZ n < k + fu) → (k ≤ padZ n) → (MJ S S1 h0 (padM g n) (n + 1 + k)) → WB D (tyM cy) 3 cy ad (skMi 0) A s (S1) H locs → lv_has ls 5 [(0, .ref (ad (0))), (1, .long ((8) * (nI n).toInt64)), (3, .int (nI ((120 - (n + 1) % 64) % 64))), (4, .int (nI (k)))] → W p l e R s m args below meth c H locs 0 0 Q (F0 m 31 ls []) := by
    intro fu
    induction fu with
    | zero =>
      intro k S1 H locs ls h1 h2 hJ w hl
      exact absurd h1 (by omega)
    | succ fu ih_31 =>
      intro k S1 H locs ls h1 h2 hJ w hl
      refine lv_iload hx hbc dX2_finish_31 (lv_at hl 3 rfl) ?_
      refine lv_iload_n hx hbc dX2_finish_33 rfl (lv_at hl 2 rfl) ?_
      refine n_cmp_ge (tgt := 48) (by omega) (by omega) hx hbc dX2_finish_34 (by decide) (fun c_34 => ?_) (fun c_34 => ?_)
      · obtain rfl : k = padZ n := by omega
        have hl := lv_sub (l' := [(0, .ref (ad (0))), (1, .long ((8) * (nI n).toInt64))]) hl [0, 1] rfl
        refine lv_bipush (v := nI (56)) hx hbc dX2_finish_48 (by decide) ?_
        refine lv_istore (lv' := [(4, .int (nI (56))), (0, .ref (ad (0))), (1, .long ((8) * (nI n).toInt64))]) hx hbc dX2_finish_50 hl (by decide) rfl (fun ls hl => ?_)
        refine lv_iload hx hbc dX2_finish_52 (lv_at hl 0 rfl) ?_
        refine lv_if_lt (tgt := 72) hx hbc dX2_finish_54 (by decide) (fun c_54 => ?_) (fun c_54 => ?_)
        · exact absurd c_54 (by decide)
        · refine lv_aload_n hx hbc dX2_finish_57 rfl (lv_at hl 1 rfl) ?_
          refine lv_lload_n hx hbc dX2_finish_58 rfl (lv_at hl 2 rfl) ?_
          refine lv_iload hx hbc dX2_finish_59 (lv_at hl 0 rfl) ?_
          refine lv_lushr hx hbc dX2_finish_61 rfl ?_
          refine lv_l2i hx hbc dX2_finish_62 rfl ?_
          refine wb_Vv (na := 1) (As := [.int (((((8) * (nI n).toInt64).toUInt64 >>> ((nI (56)).toInt64.toUInt64 &&& Int64.toUInt64 63)).toInt64).toInt32)]) (rest := []) hx hbc hml hg hown w (EC_ok al) hE w.1 Sub.self 0 (by decide) rfl rfl (k_mput l D cy ad al (S1) (((((8) * (nI n).toInt64).toUInt64 >>> ((nI (56)).toInt64.toUInt64 &&& Int64.toUInt64 63)).toInt64).toInt32) ((n + 1 + padZ n) % 64) ((n + 1 + padZ n) / 64) (Nat.mod_lt _ (by decide)) hJ.1.1 hJ.1.2.1) wk_284 wk_3 wk_281 wk_283 ws_1 ⟨by decide, by decide, by decide⟩ ⟨by rw [hRf]; decide, by rw [hRl]; decide⟩ rfl hl.1 rfl (Nat.le_of_ble_eq_true rfl) dX2_finish_63 ⟨Nat.zero_le _, Nat.zero_le _⟩ (fun S9 H locs hp w => ?_)
          subst hp
          have w : WB D (tyM cy) 3 cy ad (skMi 0) A s (mpt S1 ((n + 1 + padZ n) % 64) ((n + 1 + padZ n) / 64) (((((8) * (nI n).toInt64).toUInt64 >>> ((nI (56)).toInt64.toUInt64 &&& Int64.toUInt64 63)).toInt64).toInt32)) H locs := w
          have hJ := MJ.put hJ (padM_atl0 g n)
          obtain ⟨S_4, eS_4⟩ : ∃ z, z = mpt S1 ((n + 1 + padZ n) % 64) ((n + 1 + padZ n) / 64) (((((8) * (nI n).toInt64).toUInt64 >>> ((nI (56)).toInt64.toUInt64 &&& Int64.toUInt64 63)).toInt64).toInt32) := ⟨_, rfl⟩
          rw [← eS_4] at w hJ
          refine lv_iinc (v := nI (48)) (lv' := [(4, .int (nI (48))), (0, .ref (ad (0))), (1, .long ((8) * (nI n).toInt64))]) hx hbc dX2_finish_66 hl (k := 0) rfl (by decide) (by decide) rfl (fun ls hl => ?_)
          refine lv_goto (tgt := 52) hx hbc dX2_finish_69 (by decide) ?_
          refine lv_iload hx hbc dX2_finish_52 (lv_at hl 0 rfl) ?_
          refine lv_if_lt (tgt := 72) hx hbc dX2_finish_54 (by decide) (fun c_54 => ?_) (fun c_54 => ?_)
          · exact absurd c_54 (by decide)
          · refine lv_aload_n hx hbc dX2_finish_57 rfl (lv_at hl 1 rfl) ?_
            refine lv_lload_n hx hbc dX2_finish_58 rfl (lv_at hl 2 rfl) ?_
            refine lv_iload hx hbc dX2_finish_59 (lv_at hl 0 rfl) ?_
            refine lv_lushr hx hbc dX2_finish_61 rfl ?_
            refine lv_l2i hx hbc dX2_finish_62 rfl ?_
            refine wb_Vv (na := 1) (As := [.int (((((8) * (nI n).toInt64).toUInt64 >>> ((nI (48)).toInt64.toUInt64 &&& Int64.toUInt64 63)).toInt64).toInt32)]) (rest := []) hx hbc hml hg hown w (EC_ok al) hE w.1 Sub.self 0 (by decide) rfl rfl (k_mput l D cy ad al (S_4) (((((8) * (nI n).toInt64).toUInt64 >>> ((nI (48)).toInt64.toUInt64 &&& Int64.toUInt64 63)).toInt64).toInt32) ((n + 1 + padZ n + 1) % 64) ((n + 1 + padZ n + 1) / 64) (Nat.mod_lt _ (by decide)) hJ.1.1 hJ.1.2.1) wk_284 wk_3 wk_281 wk_283 ws_1 ⟨by decide, by decide, by decide⟩ ⟨by rw [hRf]; decide, by rw [hRl]; decide⟩ rfl hl.1 rfl (Nat.le_of_ble_eq_true rfl) dX2_finish_63 ⟨Nat.zero_le _, Nat.zero_le _⟩ (fun S9 H locs hp w => ?_)
            subst hp
            have w : WB D (tyM cy) 3 cy ad (skMi 0) A s (mpt S_4 ((n + 1 + padZ n + 1) % 64) ((n + 1 + padZ n + 1) / 64) (((((8) * (nI n).toInt64).toUInt64 >>> ((nI (48)).toInt64.toUInt64 &&& Int64.toUInt64 63)).toInt64).toInt32)) H locs := w
            have hJ := MJ.put hJ (padM_atl1 g n)
            obtain ⟨S_6, eS_6⟩ : ∃ z, z = mpt S_4 ((n + 1 + padZ n + 1) % 64) ((n + 1 + padZ n + 1) / 64) (((((8) * (nI n).toInt64).toUInt64 >>> ((nI (48)).toInt64.toUInt64 &&& Int64.toUInt64 63)).toInt64).toInt32) := ⟨_, rfl⟩
            rw [← eS_6] at w hJ
            refine lv_iinc (v := nI (40)) (lv' := [(4, .int (nI (40))), (0, .ref (ad (0))), (1, .long ((8) * (nI n).toInt64))]) hx hbc dX2_finish_66 hl (k := 0) rfl (by decide) (by decide) rfl (fun ls hl => ?_)
            refine lv_goto (tgt := 52) hx hbc dX2_finish_69 (by decide) ?_
            refine lv_iload hx hbc dX2_finish_52 (lv_at hl 0 rfl) ?_
            refine lv_if_lt (tgt := 72) hx hbc dX2_finish_54 (by decide) (fun c_54 => ?_) (fun c_54 => ?_)
            · exact absurd c_54 (by decide)
            · refine lv_aload_n hx hbc dX2_finish_57 rfl (lv_at hl 1 rfl) ?_
              refine lv_lload_n hx hbc dX2_finish_58 rfl (lv_at hl 2 rfl) ?_
              refine lv_iload hx hbc dX2_finish_59 (lv_at hl 0 rfl) ?_
              refine lv_lushr hx hbc dX2_finish_61 rfl ?_
              refine lv_l2i hx hbc dX2_finish_62 rfl ?_
              refine wb_Vv (na := 1) (As := [.int (((((8) * (nI n).toInt64).toUInt64 >>> ((nI (40)).toInt64.toUInt64 &&& Int64.toUInt64 63)).toInt64).toInt32)]) (rest := []) hx hbc hml hg hown w (EC_ok al) hE w.1 Sub.self 0 (by decide) rfl rfl (k_mput l D cy ad al (S_6) (((((8) * (nI n).toInt64).toUInt64 >>> ((nI (40)).toInt64.toUInt64 &&& Int64.toUInt64 63)).toInt64).toInt32) ((n + 1 + padZ n + 1 + 1) % 64) ((n + 1 + padZ n + 1 + 1) / 64) (Nat.mod_lt _ (by decide)) hJ.1.1 hJ.1.2.1) wk_284 wk_3 wk_281 wk_283 ws_1 ⟨by decide, by decide, by decide⟩ ⟨by rw [hRf]; decide, by rw [hRl]; decide⟩ rfl hl.1 rfl (Nat.le_of_ble_eq_true rfl) dX2_finish_63 ⟨Nat.zero_le _, Nat.zero_le _⟩ (fun S9 H locs hp w => ?_)
              subst hp
              have w : WB D (tyM cy) 3 cy ad (skMi 0) A s (mpt S_6 ((n + 1 + padZ n + 1 + 1) % 64) ((n + 1 + padZ n + 1 + 1) / 64) (((((8) * (nI n).toInt64).toUInt64 >>> ((nI (40)).toInt64.toUInt64 &&& Int64.toUInt64 63)).toInt64).toInt32)) H locs := w
              have hJ := MJ.put hJ (padM_atl2 g n)
              obtain ⟨S_8, eS_8⟩ : ∃ z, z = mpt S_6 ((n + 1 + padZ n + 1 + 1) % 64) ((n + 1 + padZ n + 1 + 1) / 64) (((((8) * (nI n).toInt64).toUInt64 >>> ((nI (40)).toInt64.toUInt64 &&& Int64.toUInt64 63)).toInt64).toInt32) := ⟨_, rfl⟩
              rw [← eS_8] at w hJ
              refine lv_iinc (v := nI (32)) (lv' := [(4, .int (nI (32))), (0, .ref (ad (0))), (1, .long ((8) * (nI n).toInt64))]) hx hbc dX2_finish_66 hl (k := 0) rfl (by decide) (by decide) rfl (fun ls hl => ?_)
              refine lv_goto (tgt := 52) hx hbc dX2_finish_69 (by decide) ?_
              refine lv_iload hx hbc dX2_finish_52 (lv_at hl 0 rfl) ?_
              refine lv_if_lt (tgt := 72) hx hbc dX2_finish_54 (by decide) (fun c_54 => ?_) (fun c_54 => ?_)
              · exact absurd c_54 (by decide)
              · refine lv_aload_n hx hbc dX2_finish_57 rfl (lv_at hl 1 rfl) ?_
                refine lv_lload_n hx hbc dX2_finish_58 rfl (lv_at hl 2 rfl) ?_
                refine lv_iload hx hbc dX2_finish_59 (lv_at hl 0 rfl) ?_
                refine lv_lushr hx hbc dX2_finish_61 rfl ?_
                refine lv_l2i hx hbc dX2_finish_62 rfl ?_
                refine wb_Vv (na := 1) (As := [.int (((((8) * (nI n).toInt64).toUInt64 >>> ((nI (32)).toInt64.toUInt64 &&& Int64.toUInt64 63)).toInt64).toInt32)]) (rest := []) hx hbc hml hg hown w (EC_ok al) hE w.1 Sub.self 0 (by decide) rfl rfl (k_mput l D cy ad al (S_8) (((((8) * (nI n).toInt64).toUInt64 >>> ((nI (32)).toInt64.toUInt64 &&& Int64.toUInt64 63)).toInt64).toInt32) ((n + 1 + padZ n + 1 + 1 + 1) % 64) ((n + 1 + padZ n + 1 + 1 + 1) / 64) (Nat.mod_lt _ (by decide)) hJ.1.1 hJ.1.2.1) wk_284 wk_3 wk_281 wk_283 ws_1 ⟨by decide, by decide, by decide⟩ ⟨by rw [hRf]; decide, by rw [hRl]; decide⟩ rfl hl.1 rfl (Nat.le_of_ble_eq_true rfl) dX2_finish_63 ⟨Nat.zero_le _, Nat.zero_le _⟩ (fun S9 H locs hp w => ?_)
                subst hp
                have w : WB D (tyM cy) 3 cy ad (skMi 0) A s (mpt S_8 ((n + 1 + padZ n + 1 + 1 + 1) % 64) ((n + 1 + padZ n + 1 + 1 + 1) / 64) (((((8) * (nI n).toInt64).toUInt64 >>> ((nI (32)).toInt64.toUInt64 &&& Int64.toUInt64 63)).toInt64).toInt32)) H locs := w
                have hJ := MJ.put hJ (padM_atl3 g n)
                obtain ⟨S_10, eS_10⟩ : ∃ z, z = mpt S_8 ((n + 1 + padZ n + 1 + 1 + 1) % 64) ((n + 1 + padZ n + 1 + 1 + 1) / 64) (((((8) * (nI n).toInt64).toUInt64 >>> ((nI (32)).toInt64.toUInt64 &&& Int64.toUInt64 63)).toInt64).toInt32) := ⟨_, rfl⟩
                rw [← eS_10] at w hJ
                refine lv_iinc (v := nI (24)) (lv' := [(4, .int (nI (24))), (0, .ref (ad (0))), (1, .long ((8) * (nI n).toInt64))]) hx hbc dX2_finish_66 hl (k := 0) rfl (by decide) (by decide) rfl (fun ls hl => ?_)
                refine lv_goto (tgt := 52) hx hbc dX2_finish_69 (by decide) ?_
                refine lv_iload hx hbc dX2_finish_52 (lv_at hl 0 rfl) ?_
                refine lv_if_lt (tgt := 72) hx hbc dX2_finish_54 (by decide) (fun c_54 => ?_) (fun c_54 => ?_)
                · exact absurd c_54 (by decide)
                · refine lv_aload_n hx hbc dX2_finish_57 rfl (lv_at hl 1 rfl) ?_
                  refine lv_lload_n hx hbc dX2_finish_58 rfl (lv_at hl 2 rfl) ?_
                  refine lv_iload hx hbc dX2_finish_59 (lv_at hl 0 rfl) ?_
                  refine lv_lushr hx hbc dX2_finish_61 rfl ?_
                  refine lv_l2i hx hbc dX2_finish_62 rfl ?_
                  refine wb_Vv (na := 1) (As := [.int (((((8) * (nI n).toInt64).toUInt64 >>> ((nI (24)).toInt64.toUInt64 &&& Int64.toUInt64 63)).toInt64).toInt32)]) (rest := []) hx hbc hml hg hown w (EC_ok al) hE w.1 Sub.self 0 (by decide) rfl rfl (k_mput l D cy ad al (S_10) (((((8) * (nI n).toInt64).toUInt64 >>> ((nI (24)).toInt64.toUInt64 &&& Int64.toUInt64 63)).toInt64).toInt32) ((n + 1 + padZ n + 1 + 1 + 1 + 1) % 64) ((n + 1 + padZ n + 1 + 1 + 1 + 1) / 64) (Nat.mod_lt _ (by decide)) hJ.1.1 hJ.1.2.1) wk_284 wk_3 wk_281 wk_283 ws_1 ⟨by decide, by decide, by decide⟩ ⟨by rw [hRf]; decide, by rw [hRl]; decide⟩ rfl hl.1 rfl (Nat.le_of_ble_eq_true rfl) dX2_finish_63 ⟨Nat.zero_le _, Nat.zero_le _⟩ (fun S9 H locs hp w => ?_)
                  subst hp
                  have w : WB D (tyM cy) 3 cy ad (skMi 0) A s (mpt S_10 ((n + 1 + padZ n + 1 + 1 + 1 + 1) % 64) ((n + 1 + padZ n + 1 + 1 + 1 + 1) / 64) (((((8) * (nI n).toInt64).toUInt64 >>> ((nI (24)).toInt64.toUInt64 &&& Int64.toUInt64 63)).toInt64).toInt32)) H locs := w
                  have hJ := MJ.put hJ (padM_atl4 g n)
                  obtain ⟨S_12, eS_12⟩ : ∃ z, z = mpt S_10 ((n + 1 + padZ n + 1 + 1 + 1 + 1) % 64) ((n + 1 + padZ n + 1 + 1 + 1 + 1) / 64) (((((8) * (nI n).toInt64).toUInt64 >>> ((nI (24)).toInt64.toUInt64 &&& Int64.toUInt64 63)).toInt64).toInt32) := ⟨_, rfl⟩
                  rw [← eS_12] at w hJ
                  refine lv_iinc (v := nI (16)) (lv' := [(4, .int (nI (16))), (0, .ref (ad (0))), (1, .long ((8) * (nI n).toInt64))]) hx hbc dX2_finish_66 hl (k := 0) rfl (by decide) (by decide) rfl (fun ls hl => ?_)
                  refine lv_goto (tgt := 52) hx hbc dX2_finish_69 (by decide) ?_
                  refine lv_iload hx hbc dX2_finish_52 (lv_at hl 0 rfl) ?_
                  refine lv_if_lt (tgt := 72) hx hbc dX2_finish_54 (by decide) (fun c_54 => ?_) (fun c_54 => ?_)
                  · exact absurd c_54 (by decide)
                  · refine lv_aload_n hx hbc dX2_finish_57 rfl (lv_at hl 1 rfl) ?_
                    refine lv_lload_n hx hbc dX2_finish_58 rfl (lv_at hl 2 rfl) ?_
                    refine lv_iload hx hbc dX2_finish_59 (lv_at hl 0 rfl) ?_
                    refine lv_lushr hx hbc dX2_finish_61 rfl ?_
                    refine lv_l2i hx hbc dX2_finish_62 rfl ?_
                    refine wb_Vv (na := 1) (As := [.int (((((8) * (nI n).toInt64).toUInt64 >>> ((nI (16)).toInt64.toUInt64 &&& Int64.toUInt64 63)).toInt64).toInt32)]) (rest := []) hx hbc hml hg hown w (EC_ok al) hE w.1 Sub.self 0 (by decide) rfl rfl (k_mput l D cy ad al (S_12) (((((8) * (nI n).toInt64).toUInt64 >>> ((nI (16)).toInt64.toUInt64 &&& Int64.toUInt64 63)).toInt64).toInt32) ((n + 1 + padZ n + 1 + 1 + 1 + 1 + 1) % 64) ((n + 1 + padZ n + 1 + 1 + 1 + 1 + 1) / 64) (Nat.mod_lt _ (by decide)) hJ.1.1 hJ.1.2.1) wk_284 wk_3 wk_281 wk_283 ws_1 ⟨by decide, by decide, by decide⟩ ⟨by rw [hRf]; decide, by rw [hRl]; decide⟩ rfl hl.1 rfl (Nat.le_of_ble_eq_true rfl) dX2_finish_63 ⟨Nat.zero_le _, Nat.zero_le _⟩ (fun S9 H locs hp w => ?_)
                    subst hp
                    have w : WB D (tyM cy) 3 cy ad (skMi 0) A s (mpt S_12 ((n + 1 + padZ n + 1 + 1 + 1 + 1 + 1) % 64) ((n + 1 + padZ n + 1 + 1 + 1 + 1 + 1) / 64) (((((8) * (nI n).toInt64).toUInt64 >>> ((nI (16)).toInt64.toUInt64 &&& Int64.toUInt64 63)).toInt64).toInt32)) H locs := w
                    have hJ := MJ.put hJ (padM_atl5 g n)
                    obtain ⟨S_14, eS_14⟩ : ∃ z, z = mpt S_12 ((n + 1 + padZ n + 1 + 1 + 1 + 1 + 1) % 64) ((n + 1 + padZ n + 1 + 1 + 1 + 1 + 1) / 64) (((((8) * (nI n).toInt64).toUInt64 >>> ((nI (16)).toInt64.toUInt64 &&& Int64.toUInt64 63)).toInt64).toInt32) := ⟨_, rfl⟩
                    rw [← eS_14] at w hJ
                    refine lv_iinc (v := nI (8)) (lv' := [(4, .int (nI (8))), (0, .ref (ad (0))), (1, .long ((8) * (nI n).toInt64))]) hx hbc dX2_finish_66 hl (k := 0) rfl (by decide) (by decide) rfl (fun ls hl => ?_)
                    refine lv_goto (tgt := 52) hx hbc dX2_finish_69 (by decide) ?_
                    refine lv_iload hx hbc dX2_finish_52 (lv_at hl 0 rfl) ?_
                    refine lv_if_lt (tgt := 72) hx hbc dX2_finish_54 (by decide) (fun c_54 => ?_) (fun c_54 => ?_)
                    · exact absurd c_54 (by decide)
                    · refine lv_aload_n hx hbc dX2_finish_57 rfl (lv_at hl 1 rfl) ?_
                      refine lv_lload_n hx hbc dX2_finish_58 rfl (lv_at hl 2 rfl) ?_
                      refine lv_iload hx hbc dX2_finish_59 (lv_at hl 0 rfl) ?_
                      refine lv_lushr hx hbc dX2_finish_61 rfl ?_
                      refine lv_l2i hx hbc dX2_finish_62 rfl ?_
                      refine wb_Vv (na := 1) (As := [.int (((((8) * (nI n).toInt64).toUInt64 >>> ((nI (8)).toInt64.toUInt64 &&& Int64.toUInt64 63)).toInt64).toInt32)]) (rest := []) hx hbc hml hg hown w (EC_ok al) hE w.1 Sub.self 0 (by decide) rfl rfl (k_mput l D cy ad al (S_14) (((((8) * (nI n).toInt64).toUInt64 >>> ((nI (8)).toInt64.toUInt64 &&& Int64.toUInt64 63)).toInt64).toInt32) ((n + 1 + padZ n + 1 + 1 + 1 + 1 + 1 + 1) % 64) ((n + 1 + padZ n + 1 + 1 + 1 + 1 + 1 + 1) / 64) (Nat.mod_lt _ (by decide)) hJ.1.1 hJ.1.2.1) wk_284 wk_3 wk_281 wk_283 ws_1 ⟨by decide, by decide, by decide⟩ ⟨by rw [hRf]; decide, by rw [hRl]; decide⟩ rfl hl.1 rfl (Nat.le_of_ble_eq_true rfl) dX2_finish_63 ⟨Nat.zero_le _, Nat.zero_le _⟩ (fun S9 H locs hp w => ?_)
                      subst hp
                      have w : WB D (tyM cy) 3 cy ad (skMi 0) A s (mpt S_14 ((n + 1 + padZ n + 1 + 1 + 1 + 1 + 1 + 1) % 64) ((n + 1 + padZ n + 1 + 1 + 1 + 1 + 1 + 1) / 64) (((((8) * (nI n).toInt64).toUInt64 >>> ((nI (8)).toInt64.toUInt64 &&& Int64.toUInt64 63)).toInt64).toInt32)) H locs := w
                      have hJ := MJ.put hJ (padM_atl6 g n)
                      obtain ⟨S_16, eS_16⟩ : ∃ z, z = mpt S_14 ((n + 1 + padZ n + 1 + 1 + 1 + 1 + 1 + 1) % 64) ((n + 1 + padZ n + 1 + 1 + 1 + 1 + 1 + 1) / 64) (((((8) * (nI n).toInt64).toUInt64 >>> ((nI (8)).toInt64.toUInt64 &&& Int64.toUInt64 63)).toInt64).toInt32) := ⟨_, rfl⟩
                      rw [← eS_16] at w hJ
                      refine lv_iinc (v := nI (0)) (lv' := [(4, .int (nI (0))), (0, .ref (ad (0))), (1, .long ((8) * (nI n).toInt64))]) hx hbc dX2_finish_66 hl (k := 0) rfl (by decide) (by decide) rfl (fun ls hl => ?_)
                      refine lv_goto (tgt := 52) hx hbc dX2_finish_69 (by decide) ?_
                      refine lv_iload hx hbc dX2_finish_52 (lv_at hl 0 rfl) ?_
                      refine lv_if_lt (tgt := 72) hx hbc dX2_finish_54 (by decide) (fun c_54 => ?_) (fun c_54 => ?_)
                      · exact absurd c_54 (by decide)
                      · refine lv_aload_n hx hbc dX2_finish_57 rfl (lv_at hl 1 rfl) ?_
                        refine lv_lload_n hx hbc dX2_finish_58 rfl (lv_at hl 2 rfl) ?_
                        refine lv_iload hx hbc dX2_finish_59 (lv_at hl 0 rfl) ?_
                        refine lv_lushr hx hbc dX2_finish_61 rfl ?_
                        refine lv_l2i hx hbc dX2_finish_62 rfl ?_
                        refine wb_Vv (na := 1) (As := [.int (((((8) * (nI n).toInt64).toUInt64 >>> ((nI (0)).toInt64.toUInt64 &&& Int64.toUInt64 63)).toInt64).toInt32)]) (rest := []) hx hbc hml hg hown w (EC_ok al) hE w.1 Sub.self 0 (by decide) rfl rfl (k_mput l D cy ad al (S_16) (((((8) * (nI n).toInt64).toUInt64 >>> ((nI (0)).toInt64.toUInt64 &&& Int64.toUInt64 63)).toInt64).toInt32) ((n + 1 + padZ n + 1 + 1 + 1 + 1 + 1 + 1 + 1) % 64) ((n + 1 + padZ n + 1 + 1 + 1 + 1 + 1 + 1 + 1) / 64) (Nat.mod_lt _ (by decide)) hJ.1.1 hJ.1.2.1) wk_284 wk_3 wk_281 wk_283 ws_1 ⟨by decide, by decide, by decide⟩ ⟨by rw [hRf]; decide, by rw [hRl]; decide⟩ rfl hl.1 rfl (Nat.le_of_ble_eq_true rfl) dX2_finish_63 ⟨Nat.zero_le _, Nat.zero_le _⟩ (fun S9 H locs hp w => ?_)
                        subst hp
                        have w : WB D (tyM cy) 3 cy ad (skMi 0) A s (mpt S_16 ((n + 1 + padZ n + 1 + 1 + 1 + 1 + 1 + 1 + 1) % 64) ((n + 1 + padZ n + 1 + 1 + 1 + 1 + 1 + 1 + 1) / 64) (((((8) * (nI n).toInt64).toUInt64 >>> ((nI (0)).toInt64.toUInt64 &&& Int64.toUInt64 63)).toInt64).toInt32)) H locs := w
                        have hJ := MJ.put hJ (padM_atl7 g n)
                        obtain ⟨S_18, eS_18⟩ : ∃ z, z = mpt S_16 ((n + 1 + padZ n + 1 + 1 + 1 + 1 + 1 + 1 + 1) % 64) ((n + 1 + padZ n + 1 + 1 + 1 + 1 + 1 + 1 + 1) / 64) (((((8) * (nI n).toInt64).toUInt64 >>> ((nI (0)).toInt64.toUInt64 &&& Int64.toUInt64 63)).toInt64).toInt32) := ⟨_, rfl⟩
                        rw [← eS_18] at w hJ
                        refine lv_iinc (v := (-8)) (lv' := [(4, .int ((-8))), (0, .ref (ad (0))), (1, .long ((8) * (nI n).toInt64))]) hx hbc dX2_finish_66 hl (k := 0) rfl (by decide) (by decide) rfl (fun ls hl => ?_)
                        refine lv_goto (tgt := 52) hx hbc dX2_finish_69 (by decide) ?_
                        refine lv_iload hx hbc dX2_finish_52 (lv_at hl 0 rfl) ?_
                        refine lv_if_lt (tgt := 72) hx hbc dX2_finish_54 (by decide) (fun c_54 => ?_) (fun c_54 => ?_)
                        · exact hend (S_18) _ _ _ _ ⟨hJ.1, hJ.2.1.trans h3⟩ w dX2_finish_72
                        · exact absurd c_54 (by decide)
      · refine lv_aload_n hx hbc dX2_finish_37 rfl (lv_at hl 0 rfl) ?_
        refine lv_iconst (v := nI (0)) hx hbc dX2_finish_38 (by decide) ?_
        refine wb_Vv (na := 1) (As := [.int (nI (0))]) (rest := []) hx hbc hml hg hown w (EC_ok al) hE w.1 Sub.self 0 (by decide) rfl rfl (k_mput l D cy ad al (S1) (nI (0)) ((n + 1 + k) % 64) ((n + 1 + k) / 64) (Nat.mod_lt _ (by decide)) hJ.1.1 hJ.1.2.1) wk_284 wk_3 wk_281 wk_283 ws_1 ⟨by decide, by decide, by decide⟩ ⟨by rw [hRf]; decide, by rw [hRl]; decide⟩ rfl hl.1 rfl (Nat.le_of_ble_eq_true rfl) dX2_finish_39 ⟨Nat.zero_le _, Nat.zero_le _⟩ (fun S9 H locs hp w => ?_)
        subst hp
        have w : WB D (tyM cy) 3 cy ad (skMi 0) A s (mpt S1 ((n + 1 + k) % 64) ((n + 1 + k) / 64) (nI (0))) H locs := w
        have hJ := MJ.put hJ (padM_atz g n k (by omega))
        obtain ⟨S_20, eS_20⟩ : ∃ z, z = mpt S1 ((n + 1 + k) % 64) ((n + 1 + k) / 64) (nI (0)) := ⟨_, rfl⟩
        rw [← eS_20] at w hJ
        refine lv_iinc (v := nI (k + 1)) (lv' := [(4, .int (nI (k + 1))), (0, .ref (ad (0))), (1, .long ((8) * (nI n).toInt64)), (3, .int (nI ((120 - (n + 1) % 64) % 64)))]) hx hbc dX2_finish_42 hl (k := 3) rfl (ni_inc _ _) (by decide) rfl (fun ls hl => ?_)
        refine lv_goto (tgt := 31) hx hbc dX2_finish_45 (by decide) ?_
        exact ih_31 (k + 1) S_20 _ _ _ (by omega) (by omega) hJ w (lv_sub hl [1, 2, 3, 0] rfl)
  exact lp_31 (padZ n + 1) 0 S_2 _ _ _ (by omega) (by omega) hJ w (lv_sub hl [3, 2, 1, 0] rfl)
