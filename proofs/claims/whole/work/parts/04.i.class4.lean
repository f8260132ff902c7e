set_option maxHeartbeats 4000000 in
set_option maxRecDepth 100000 in
theorem k_isSort (l : Launch) (D : va_G) (cy : Nat → ClassId) (ad al : Nat → Nat) (S : wS) (x : Int32) : CtI l yX7_isSort (Cond.code yX7_isSort cX7_isSort 1 (some .boolean) :: wsG) 0 0 [.int (x)] D (tyM cy) 0 cy ad skSp E0 (S) (fun r _ => r = inF x (nI 0) (nI 2)) := by
  refine CtI_of (by decide) (Nat.le_of_ble_eq_true rfl) ?_
  intro p e s m args below meth c A ls R Q hB hRf hRl hend
  obtain ⟨hx, hbc, hr, hg, hown, hml, hlk, w, hE, hl⟩ := hB
  have hl : lv_has ls 1 [(0, .int (x))] := hl
  refine lv_iload_n hx hbc dX7_isSort_0 rfl (lv_at hl 0 rfl) ?_
  refine lv_if_lt (tgt := 13) hx hbc dX7_isSort_1 (by decide) (fun c_1 => ?_) (fun c_1 => ?_)
  · refine lv_iconst (v := nI (0)) hx hbc dX7_isSort_13 (by decide) ?_
    exact hend _ _ _ _ _ _ (by first | (rw [inF, if_pos (show x < nI 0 from c_1)]; rfl) | (rw [inF, if_neg (show ¬ x < nI 0 from c_1), if_pos c_6]; rfl) | (rw [inF, if_neg (show ¬ x < nI 0 from c_1), if_neg c_6]; rfl)) (by decide) w dX7_isSort_14
  · refine lv_iload_n hx hbc dX7_isSort_4 rfl (lv_at hl 0 rfl) ?_
    refine lv_iconst (v := nI (2)) hx hbc dX7_isSort_5 (by decide) ?_
    refine lv_icmp_gt (tgt := 13) hx hbc dX7_isSort_6 (by decide) (fun c_6 => ?_) (fun c_6 => ?_)
    · refine lv_iconst (v := nI (0)) hx hbc dX7_isSort_13 (by decide) ?_
      exact hend _ _ _ _ _ _ (by first | (rw [inF, if_pos (show x < nI 0 from c_1)]; rfl) | (rw [inF, if_neg (show ¬ x < nI 0 from c_1), if_pos c_6]; rfl) | (rw [inF, if_neg (show ¬ x < nI 0 from c_1), if_neg c_6]; rfl)) (by decide) w dX7_isSort_14
    · refine lv_iconst (v := nI (1)) hx hbc dX7_isSort_9 (by decide) ?_
      refine lv_goto (tgt := 14) hx hbc dX7_isSort_10 (by decide) ?_
      exact hend _ _ _ _ _ _ (by first | (rw [inF, if_pos (show x < nI 0 from c_1)]; rfl) | (rw [inF, if_neg (show ¬ x < nI 0 from c_1), if_pos c_6]; rfl) | (rw [inF, if_neg (show ¬ x < nI 0 from c_1), if_neg c_6]; rfl)) (by decide) w dX7_isSort_14
set_option maxHeartbeats 4000000 in
set_option maxRecDepth 100000 in
theorem k_isStream (l : Launch) (D : va_G) (cy : Nat → ClassId) (ad al : Nat → Nat) (S : wS) (x : Int32) : CtI l yX7_isStream (Cond.code yX7_isStream cX7_isStream 1 (some .boolean) :: wsG) 0 0 [.int (x)] D (tyM cy) 0 cy ad skSp E0 (S) (fun r _ => r = hsF x (nI 4)) := by
  refine CtI_of (by decide) (Nat.le_of_ble_eq_true rfl) ?_
  intro p e s m args below meth c A ls R Q hB hRf hRl hend
  obtain ⟨hx, hbc, hr, hg, hown, hml, hlk, w, hE, hl⟩ := hB
  have hl : lv_has ls 1 [(0, .int (x))] := hl
  refine lv_iload_n hx hbc dX7_isStream_0 rfl (lv_at hl 0 rfl) ?_
  refine lv_if_lt (tgt := 13) hx hbc dX7_isStream_1 (by decide) (fun c_1 => ?_) (fun c_1 => ?_)
  · refine lv_iconst (v := nI (0)) hx hbc dX7_isStream_13 (by decide) ?_
    exact hend _ _ _ _ _ _ (by first | (rw [hsF, if_pos c_1]; rfl) | (rw [hsF, if_neg c_1, if_pos c_6]; rfl) | (rw [hsF, if_neg c_1, if_neg c_6]; rfl)) (by decide) w dX7_isStream_14
  · refine lv_iload_n hx hbc dX7_isStream_4 rfl (lv_at hl 0 rfl) ?_
    refine lv_iconst (v := nI (4)) hx hbc dX7_isStream_5 (by decide) ?_
    refine lv_icmp_ge (tgt := 13) hx hbc dX7_isStream_6 (by decide) (fun c_6 => ?_) (fun c_6 => ?_)
    · refine lv_iconst (v := nI (0)) hx hbc dX7_isStream_13 (by decide) ?_
      exact hend _ _ _ _ _ _ (by first | (rw [hsF, if_pos c_1]; rfl) | (rw [hsF, if_neg c_1, if_pos c_6]; rfl) | (rw [hsF, if_neg c_1, if_neg c_6]; rfl)) (by decide) w dX7_isStream_14
    · refine lv_iconst (v := nI (1)) hx hbc dX7_isStream_9 (by decide) ?_
      refine lv_goto (tgt := 14) hx hbc dX7_isStream_10 (by decide) ?_
      exact hend _ _ _ _ _ _ (by first | (rw [hsF, if_pos c_1]; rfl) | (rw [hsF, if_neg c_1, if_pos c_6]; rfl) | (rw [hsF, if_neg c_1, if_neg c_6]; rfl)) (by decide) w dX7_isStream_14
set_option maxHeartbeats 4000000 in
set_option maxRecDepth 100000 in
theorem k_isTree (l : Launch) (D : va_G) (cy : Nat → ClassId) (ad al : Nat → Nat) (S : wS) (x : Int32) : CtI l yX7_isTree (Cond.code yX7_isTree cX7_isTree 1 (some .boolean) :: wsG) 0 0 [.int (x)] D (tyM cy) 0 cy ad skSp E0 (S) (fun r _ => r = hsF x (nI 4)) := by
  refine CtI_of (by decide) (Nat.le_of_ble_eq_true rfl) ?_
  intro p e s m args below meth c A ls R Q hB hRf hRl hend
  obtain ⟨hx, hbc, hr, hg, hown, hml, hlk, w, hE, hl⟩ := hB
  have hl : lv_has ls 1 [(0, .int (x))] := hl
  refine lv_iload_n hx hbc dX7_isTree_0 rfl (lv_at hl 0 rfl) ?_
  refine lv_if_lt (tgt := 13) hx hbc dX7_isTree_1 (by decide) (fun c_1 => ?_) (fun c_1 => ?_)
  · refine lv_iconst (v := nI (0)) hx hbc dX7_isTree_13 (by decide) ?_
    exact hend _ _ _ _ _ _ (by first | (rw [hsF, if_pos c_1]; rfl) | (rw [hsF, if_neg c_1, if_pos c_6]; rfl) | (rw [hsF, if_neg c_1, if_neg c_6]; rfl)) (by decide) w dX7_isTree_14
  · refine lv_iload_n hx hbc dX7_isTree_4 rfl (lv_at hl 0 rfl) ?_
    refine lv_iconst (v := nI (4)) hx hbc dX7_isTree_5 (by decide) ?_
    refine lv_icmp_ge (tgt := 13) hx hbc dX7_isTree_6 (by decide) (fun c_6 => ?_) (fun c_6 => ?_)
    · refine lv_iconst (v := nI (0)) hx hbc dX7_isTree_13 (by decide) ?_
      exact hend _ _ _ _ _ _ (by first | (rw [hsF, if_pos c_1]; rfl) | (rw [hsF, if_neg c_1, if_pos c_6]; rfl) | (rw [hsF, if_neg c_1, if_neg c_6]; rfl)) (by decide) w dX7_isTree_14
    · refine lv_iconst (v := nI (1)) hx hbc dX7_isTree_9 (by decide) ?_
      refine lv_goto (tgt := 14) hx hbc dX7_isTree_10 (by decide) ?_
      exact hend _ _ _ _ _ _ (by first | (rw [hsF, if_pos c_1]; rfl) | (rw [hsF, if_neg c_1, if_pos c_6]; rfl) | (rw [hsF, if_neg c_1, if_neg c_6]; rfl)) (by decide) w dX7_isTree_14
set_option maxHeartbeats 4000000 in
set_option maxRecDepth 100000 in
theorem k_bytesOf (l : Launch) (D : va_G) (cy : Nat → ClassId) (ad al : Nat → Nat) (S : wS) (x : Int32) : CtI l yX7_bytesOf (Cond.code yX7_bytesOf cX7_bytesOf 1 (some .int) :: wsG) 0 0 [.int (x)] D (tyM cy) 0 cy ad skSp E0 (S) (fun r _ => r = nI (l32 x)) := by
  refine CtI_of (by decide) (Nat.le_of_ble_eq_true rfl) ?_
  intro p e s m args below meth c A ls R Q hB hRf hRl hend
  obtain ⟨hx, hbc, hr, hg, hown, hml, hlk, w, hE, hl⟩ := hB
  have hl : lv_has ls 1 [(0, .int (x))] := hl
  refine lv_iload_n hx hbc dX7_bytesOf_0 rfl (lv_at hl 0 rfl) ?_
  refine lv_iconst (v := nI (1)) hx hbc dX7_bytesOf_1 (by decide) ?_
  refine lv_icmp_ne (tgt := 10) hx hbc dX7_bytesOf_2 (by decide) (fun c_2 => ?_) (fun c_2 => ?_)
  · refine lv_bipush (v := nI (32)) hx hbc dX7_bytesOf_10 (by decide) ?_
    exact hend _ _ _ _ _ _ (by first | (rw [l32, if_pos c_2]) | (rw [l32, if_neg c_2])) rfl w dX7_bytesOf_12
  · refine lv_bipush (v := nI (28)) hx hbc dX7_bytesOf_5 (by decide) ?_
    refine lv_goto (tgt := 12) hx hbc dX7_bytesOf_7 (by decide) ?_
    exact hend _ _ _ _ _ _ (by first | (rw [l32, if_pos c_2]) | (rw [l32, if_neg c_2])) rfl w dX7_bytesOf_12
set_option maxHeartbeats 4000000 in
set_option maxRecDepth 100000 in
theorem k_ofWidth0 (l : Launch) (D : va_G) (cy : Nat → ClassId) (ad al : Nat → Nat) (S : wS) (v : Int64) : CtL l yX7_ofWidth (Cond.code yX7_ofWidth cX7_ofWidth 3 (some .long) :: wsG) 0 0 [.int (nI (0)), .long (v)] D (tyM cy) 0 cy ad skSp E0 (S) (fun r _ => r = cvC 0 v) := by
  refine CtL_of (by decide) (Nat.le_of_ble_eq_true rfl) ?_
  intro p e s m args below meth c A ls R Q hB hRf hRl hend
  obtain ⟨hx, hbc, hr, hg, hown, hml, hlk, w, hE, hl⟩ := hB
  have hl : lv_has ls 3 [(0, .int (nI (0))), (1, .long (v))] := hl
  refine lv_iload_n hx hbc dX7_ofWidth_0 rfl (lv_at hl 0 rfl) ?_
  refine lv_tableIn (tgt := 32) hx hbc dX7_ofWidth_1 (by decide) (by decide) rfl (by decide) ?_
  refine lv_lload_n hx hbc dX7_ofWidth_32 rfl (lv_at hl 1 rfl) ?_
  refine lv_l2i hx hbc dX7_ofWidth_33 rfl ?_
  refine lv_i2b hx hbc dX7_ofWidth_34 rfl ?_
  refine lv_i2l hx hbc dX7_ofWidth_35 rfl ?_
  exact hend _ _ _ _ _ _ rfl w dX7_ofWidth_36
set_option maxHeartbeats 4000000 in
set_option maxRecDepth 100000 in
theorem k_ofWidth1 (l : Launch) (D : va_G) (cy : Nat → ClassId) (ad al : Nat → Nat) (S : wS) (v : Int64) : CtL l yX7_ofWidth (Cond.code yX7_ofWidth cX7_ofWidth 3 (some .long) :: wsG) 0 0 [.int (nI (1)), .long (v)] D (tyM cy) 0 cy ad skSp E0 (S) (fun r _ => r = cvC 1 v) := by
  refine CtL_of (by decide) (Nat.le_of_ble_eq_true rfl) ?_
  intro p e s m args below meth c A ls R Q hB hRf hRl hend
  obtain ⟨hx, hbc, hr, hg, hown, hml, hlk, w, hE, hl⟩ := hB
  have hl : lv_has ls 3 [(0, .int (nI (1))), (1, .long (v))] := hl
  refine lv_iload_n hx hbc dX7_ofWidth_0 rfl (lv_at hl 0 rfl) ?_
  refine lv_tableIn (tgt := 37) hx hbc dX7_ofWidth_1 (by decide) (by decide) rfl (by decide) ?_
  refine lv_lload_n hx hbc dX7_ofWidth_37 rfl (lv_at hl 1 rfl) ?_
  refine lv_l2i hx hbc dX7_ofWidth_38 rfl ?_
  refine lv_i2s hx hbc dX7_ofWidth_39 rfl ?_
  refine lv_i2l hx hbc dX7_ofWidth_40 rfl ?_
  exact hend _ _ _ _ _ _ rfl w dX7_ofWidth_41
set_option maxHeartbeats 4000000 in
set_option maxRecDepth 100000 in
theorem k_ofWidth2 (l : Launch) (D : va_G) (cy : Nat → ClassId) (ad al : Nat → Nat) (S : wS) (v : Int64) : CtL l yX7_ofWidth (Cond.code yX7_ofWidth cX7_ofWidth 3 (some .long) :: wsG) 0 0 [.int (nI (2)), .long (v)] D (tyM cy) 0 cy ad skSp E0 (S) (fun r _ => r = cvC 2 v) := by
  refine CtL_of (by decide) (Nat.le_of_ble_eq_true rfl) ?_
  intro p e s m args below meth c A ls R Q hB hRf hRl hend
  obtain ⟨hx, hbc, hr, hg, hown, hml, hlk, w, hE, hl⟩ := hB
  have hl : lv_has ls 3 [(0, .int (nI (2))), (1, .long (v))] := hl
  refine lv_iload_n hx hbc dX7_ofWidth_0 rfl (lv_at hl 0 rfl) ?_
  refine lv_tableIn (tgt := 42) hx hbc dX7_ofWidth_1 (by decide) (by decide) rfl (by decide) ?_
  refine lv_lload_n hx hbc dX7_ofWidth_42 rfl (lv_at hl 1 rfl) ?_
  refine lv_l2i hx hbc dX7_ofWidth_43 rfl ?_
  refine lv_i2c hx hbc dX7_ofWidth_44 rfl ?_
  refine lv_i2l hx hbc dX7_ofWidth_45 rfl ?_
  exact hend _ _ _ _ _ _ rfl w dX7_ofWidth_46
set_option maxHeartbeats 4000000 in
set_option maxRecDepth 100000 in
theorem k_ofWidth3 (l : Launch) (D : va_G) (cy : Nat → ClassId) (ad al : Nat → Nat) (S : wS) (v : Int64) : CtL l yX7_ofWidth (Cond.code yX7_ofWidth cX7_ofWidth 3 (some .long) :: wsG) 0 0 [.int (nI (3)), .long (v)] D (tyM cy) 0 cy ad skSp E0 (S) (fun r _ => r = cvC 3 v) := by
  refine CtL_of (by decide) (Nat.le_of_ble_eq_true rfl) ?_
  intro p e s m args below meth c A ls R Q hB hRf hRl hend
  obtain ⟨hx, hbc, hr, hg, hown, hml, hlk, w, hE, hl⟩ := hB
  have hl : lv_has ls 3 [(0, .int (nI (3))), (1, .long (v))] := hl
  refine lv_iload_n hx hbc dX7_ofWidth_0 rfl (lv_at hl 0 rfl) ?_
  refine lv_tableIn (tgt := 47) hx hbc dX7_ofWidth_1 (by decide) (by decide) rfl (by decide) ?_
  refine lv_lload_n hx hbc dX7_ofWidth_47 rfl (lv_at hl 1 rfl) ?_
  refine lv_l2i hx hbc dX7_ofWidth_48 rfl ?_
  refine lv_i2l hx hbc dX7_ofWidth_49 rfl ?_
  exact hend _ _ _ _ _ _ rfl w dX7_ofWidth_50
set_option maxHeartbeats 4000000 in
set_option maxRecDepth 100000 in
theorem k_ofWidth4 (l : Launch) (D : va_G) (cy : Nat → ClassId) (ad al : Nat → Nat) (S : wS) (v : Int64) : CtL l yX7_ofWidth (Cond.code yX7_ofWidth cX7_ofWidth 3 (some .long) :: wsG) 0 0 [.int (nI (4)), .long (v)] D (tyM cy) 0 cy ad skSp E0 (S) (fun r _ => r = cvC 4 v) := by
  refine CtL_of (by decide) (Nat.le_of_ble_eq_true rfl) ?_
  intro p e s m args below meth c A ls R Q hB hRf hRl hend
  obtain ⟨hx, hbc, hr, hg, hown, hml, hlk, w, hE, hl⟩ := hB
  have hl : lv_has ls 3 [(0, .int (nI (4))), (1, .long (v))] := hl
  refine lv_iload_n hx hbc dX7_ofWidth_0 rfl (lv_at hl 0 rfl) ?_
  refine lv_tableOut (tgt := 51) hx hbc dX7_ofWidth_1 (Or.inr (by decide)) (by decide) ?_
  refine lv_lload_n hx hbc dX7_ofWidth_51 rfl (lv_at hl 1 rfl) ?_
  exact hend _ _ _ _ _ _ rfl w dX7_ofWidth_52
set_option maxHeartbeats 4000000 in
set_option maxRecDepth 100000 in
theorem k_fill (l : Launch) (D : va_G) (cy : Nat → ClassId) (ad al : Nat → Nat) (S : wS) (z : Int32) (len : Nat) (hlen : len < 2 ^ 31) : CtV l yJ7_fill_031fb (Cond.code yJ7_fill_031fb cJ7_fill_031fb 4 none :: wsG) 0 0 [.ref (ad (0)), .int (z)] D (tyM cy) 1 cy ad (skB len) (EC al) (S) (fun S' => S' = sB S 0 (cps (S.2.1 0) (fun _ => z.toInt8.toInt32) len)) := by
  refine CtV_of (by decide) (Nat.le_of_ble_eq_true rfl) ?_
  intro p e s m args below meth c A ls R Q hB hRf hRl hend
  obtain ⟨hx, hbc, hr, hg, hown, hml, hlk, w, hE, hl⟩ := hB
  have hl : lv_has ls 4 [(0, .ref (ad (0))), (1, .int (z))] := hl
  refine lv_iconst (v := nI (0)) hx hbc dJ7_fill_031fb_0 (by decide) ?_
  refine lv_istore_n (lv' := [(2, .int (nI (0))), (0, .ref (ad (0))), (1, .int (z))]) hx hbc dJ7_fill_031fb_1 rfl hl (by decide) rfl (fun ls hl => ?_)
  refine lv_aload_n hx hbc dJ7_fill_031fb_2 rfl (lv_at hl 1 rfl) ?_
  refine wb_alen hx hbc w 0 (by decide) rfl 1 rfl dJ7_fill_031fb_3 ?_
  refine lv_istore_n (lv' := [(3, .int (nI (len))), (2, .int (nI (0))), (0, .ref (ad (0))), (1, .int (z))]) hx hbc dJ7_fill_031fb_4 rfl hl (by decide) rfl (fun ls hl => ?_)
  have lp_5 : ∀ (fu : Nat) (k : Nat) (H : Heap) (locs : List Loc) (ls : Array Slot), (len < k + fu) → (k ≤ len) → WB D (tyM cy) 1 cy ad (skB len) A s (sB S 0 (cps (S.2.1 0) (fun _ => z.toInt8.toInt32) k)) H locs → lv_has ls 4 [(0, .ref (ad (0))), (1, .int (z)), (2, .int (nI (k))), (3, .int (nI (len)))] → W p l e R s m args below meth c H locs 0 0 Q (F0 m 5 ls []) := by
    intro fu
    induction fu with
    | zero =>
      intro k H locs ls h1 h2 w hl
      exact absurd h1 (by omega)
    | succ fu ih_5 =>
      intro k H locs ls h1 h2 w hl
      refine lv_iload_n hx hbc dJ7_fill_031fb_5 rfl (lv_at hl 2 rfl) ?_
      refine lv_iload_n hx hbc dJ7_fill_031fb_6 rfl (lv_at hl 3 rfl) ?_
      refine n_cmp_ge (tgt := 20) (by omega) (by omega) hx hbc dJ7_fill_031fb_7 (by decide) (fun c_7 => ?_) (fun c_7 => ?_)
      · exact hend _ _ _ _ _ (by obtain rfl : len = k := (by omega); rfl) w dJ7_fill_031fb_20
      · refine lv_aload_n hx hbc dJ7_fill_031fb_10 rfl (lv_at hl 0 rfl) ?_
        refine lv_iload_n hx hbc dJ7_fill_031fb_11 rfl (lv_at hl 2 rfl) ?_
        refine lv_iload_n hx hbc dJ7_fill_031fb_12 rfl (lv_at hl 1 rfl) ?_
        refine wb_bast (k := k) (z := z.toInt8.toInt32) (f := cps (S.2.1 0) (fun _ => z.toInt8.toInt32) k) hx hbc w 0 (by decide) rfl 1 rfl rfl (by omega) hlen rfl rfl rfl dJ7_fill_031fb_13 (fun H locs w => ?_)
        refine lv_iinc (v := nI (k + 1)) (lv' := [(2, .int (nI (k + 1))), (0, .ref (ad (0))), (1, .int (z)), (3, .int (nI (len)))]) hx hbc dJ7_fill_031fb_14 hl (k := 2) rfl (ni_inc _ _) (by decide) rfl (fun ls hl => ?_)
        refine lv_goto (tgt := 5) hx hbc dJ7_fill_031fb_17 (by decide) ?_
        exact ih_5 (k + 1) _ _ _ (by omega) (by omega) (WB_cast w (by first | rfl | (rw [sB_sB]; rfl))) (lv_sub hl [1, 2, 0, 3] rfl)
  exact lp_5 (len + 1) 0 _ _ _ (by omega) (by omega) (WB_cast w (sB_beg _ _ _ rfl)) (lv_sub hl [2, 3, 1, 0] rfl)
set_option maxHeartbeats 4000000 in
set_option maxRecDepth 100000 in
theorem k_alike (l : Launch) (D : va_G) (cy : Nat → ClassId) (ad al : Nat → Nat) (S : wS) (len len2 n : Nat) (hlen : len < 2 ^ 31) (hlen2 : len2 < 2 ^ 31) (hn : n ≤ len) (hn2 : n ≤ len2) : CtI l yX7_alike (Cond.code yX7_alike cX7_alike 4 (some .boolean) :: wsG) 0 0 [.ref (ad (0)), .ref (ad (1)), .int (nI (n))] D (tyM cy) 2 cy ad (skB2 len len2) (EC al) (S) (fun r S' => (r = nI 1 ∧ (∀ q, q < n → S.2.1 0 q = S.2.1 1 q) ∧ S' = S) ∨ (r = nI 0 ∧ (∃ q, q < n ∧ ¬ S.2.1 0 q = S.2.1 1 q) ∧ S' = S)) := by
  refine CtI_of (by decide) (Nat.le_of_ble_eq_true rfl) ?_
  intro p e s m args below meth c A ls R Q hB hRf hRl hend
  obtain ⟨hx, hbc, hr, hg, hown, hml, hlk, w, hE, hl⟩ := hB
  have hl : lv_has ls 4 [(0, .ref (ad (0))), (1, .ref (ad (1))), (2, .int (nI (n)))] := hl
  refine lv_iconst (v := nI (0)) hx hbc dX7_alike_0 (by decide) ?_
  refine lv_istore_n (lv' := [(3, .int (nI (0))), (0, .ref (ad (0))), (1, .ref (ad (1))), (2, .int (nI (n)))]) hx hbc dX7_alike_1 rfl hl (by decide) rfl (fun ls hl => ?_)
  have lp_2 : ∀ (fu : Nat) (k : Nat) (H : Heap) (locs : List Loc) (ls : Array Slot), (n < k + fu) → (k ≤ n) → (∀ q, q < k → S.2.1 0 q = S.2.1 1 q) → WB D (tyM cy) 2 cy ad (skB2 len len2) A s (S) H locs → lv_has ls 4 [(0, .ref (ad (0))), (1, .ref (ad (1))), (2, .int (nI (n))), (3, .int (nI (k)))] → W p l e R s m args below meth c H locs 0 0 Q (F0 m 2 ls []) := by
    intro fu
    induction fu with
    | zero =>
      intro k H locs ls h1 h2 h3 w hl
      exact absurd h1 (by omega)
    | succ fu ih_2 =>
      intro k H locs ls h1 h2 h3 w hl
      refine lv_iload_n hx hbc dX7_alike_2 rfl (lv_at hl 3 rfl) ?_
      refine lv_iload_n hx hbc dX7_alike_3 rfl (lv_at hl 2 rfl) ?_
      refine n_cmp_ge (tgt := 24) (by omega) (by omega) hx hbc dX7_alike_4 (by decide) (fun c_4 => ?_) (fun c_4 => ?_)
      · refine lv_iconst (v := nI (1)) hx hbc dX7_alike_24 (by decide) ?_
        exact hend _ _ _ _ _ _ (Or.inl ⟨rfl, fun q hq => h3 q (by omega), rfl⟩) (by decide) w dX7_alike_25
      · refine lv_aload_n hx hbc dX7_alike_7 rfl (lv_at hl 0 rfl) ?_
        refine lv_iload_n hx hbc dX7_alike_8 rfl (lv_at hl 3 rfl) ?_
        refine wb_bald (k := k) (v := (S.2.1 0) k) hx hbc w 0 (by decide) rfl 1 rfl rfl (by omega) hlen rfl dX7_alike_9 ?_
        refine lv_aload_n hx hbc dX7_alike_10 rfl (lv_at hl 1 rfl) ?_
        refine lv_iload_n hx hbc dX7_alike_11 rfl (lv_at hl 3 rfl) ?_
        refine wb_bald (k := k) (v := (S.2.1 1) k) hx hbc w 1 (by decide) rfl 1 rfl rfl (by omega) hlen2 rfl dX7_alike_12 ?_
        refine lv_icmp_eq (tgt := 18) hx hbc dX7_alike_13 (by decide) (fun c_13 => ?_) (fun c_13 => ?_)
        · refine lv_iinc (v := nI (k + 1)) (lv' := [(3, .int (nI (k + 1))), (0, .ref (ad (0))), (1, .ref (ad (1))), (2, .int (nI (n)))]) hx hbc dX7_alike_18 hl (k := 3) rfl (ni_inc _ _) (by decide) rfl (fun ls hl => ?_)
          refine lv_goto (tgt := 2) hx hbc dX7_alike_21 (by decide) ?_
          exact ih_2 (k + 1) _ _ _ (by omega) (by omega) (fun q hq => (by rcases Nat.lt_or_ge q k with h9 | h9; exact h3 q h9; (obtain rfl : q = k := (by omega); exact c_13))) w (lv_sub hl [1, 2, 3, 0] rfl)
        · refine lv_iconst (v := nI (0)) hx hbc dX7_alike_16 (by decide) ?_
          exact hend _ _ _ _ _ _ (Or.inr ⟨rfl, ⟨k, c_4, c_13⟩, rfl⟩) (by decide) w dX7_alike_17
  exact lp_2 (n + 1) 0 _ _ _ (by omega) (by omega) (fun _ h9 => absurd h9 (Nat.not_lt_zero _)) w (lv_sub hl [1, 2, 3, 0] rfl)
set_option maxHeartbeats 4000000 in
set_option maxRecDepth 100000 in
theorem k_shas (l : Launch) (D : va_G) (cy : Nat → ClassId) (ad al : Nat → Nat) (S : wS) (x : Int32) (cn : Nat) (hcn : S.1 0 5 = nI cn) : CtI l yX4_has (Cond.code yX4_has cX4_has 2 (some .boolean) :: wsG) 0 0 [.ref (ad (0)), .int (x)] D (tyM cy) 1 cy ad (skSh) (EC al) (S) (fun r S' => r = hsF x (nI cn) ∧ S' = S) := by
  refine CtI_of (by decide) (Nat.le_of_ble_eq_true rfl) ?_
  intro p e s m args below meth c A ls R Q hB hRf hRl hend
  obtain ⟨hx, hbc, hr, hg, hown, hml, hlk, w, hE, hl⟩ := hB
  have hl : lv_has ls 2 [(0, .ref (ad (0))), (1, .int (x))] := hl
  refine lv_iload_n hx hbc dX4_has_0 rfl (lv_at hl 1 rfl) ?_
  refine lv_if_lt (tgt := 16) hx hbc dX4_has_1 (by decide) (fun c_1 => ?_) (fun c_1 => ?_)
  · refine lv_iconst (v := nI (0)) hx hbc dX4_has_16 (by decide) ?_
    exact hend _ _ _ _ _ _ ⟨(by first | (rw [hsF, if_pos c_1]; rfl) | (rw [hsF, if_neg c_1, if_pos c_9]; rfl) | (rw [hsF, if_neg c_1, if_neg c_9]; rfl)), rfl⟩ (by decide) w dX4_has_17
  · refine lv_iload_n hx hbc dX4_has_4 rfl (lv_at hl 1 rfl) ?_
    refine lv_aload_n hx hbc dX4_has_5 rfl (lv_at hl 0 rfl) ?_
    refine wb_gi (v := nI (cn)) hx hbc hg hown w inG_X4 0 (by decide) rfl rfl 5 (by decide) rfl wk_121 hcn dX4_has_6 ?_
    refine lv_icmp_ge (tgt := 16) hx hbc dX4_has_9 (by decide) (fun c_9 => ?_) (fun c_9 => ?_)
    · refine lv_iconst (v := nI (0)) hx hbc dX4_has_16 (by decide) ?_
      exact hend _ _ _ _ _ _ ⟨(by first | (rw [hsF, if_pos c_1]; rfl) | (rw [hsF, if_neg c_1, if_pos c_9]; rfl) | (rw [hsF, if_neg c_1, if_neg c_9]; rfl)), rfl⟩ (by decide) w dX4_has_17
    · refine lv_iconst (v := nI (1)) hx hbc dX4_has_12 (by decide) ?_
      refine lv_goto (tgt := 17) hx hbc dX4_has_13 (by decide) ?_
      exact hend _ _ _ _ _ _ ⟨(by first | (rw [hsF, if_pos c_1]; rfl) | (rw [hsF, if_neg c_1, if_pos c_9]; rfl) | (rw [hsF, if_neg c_1, if_neg c_9]; rfl)), rfl⟩ (by decide) w dX4_has_17
set_option maxHeartbeats 4000000 in
set_option maxRecDepth 100000 in
theorem k_thas (l : Launch) (D : va_G) (cy : Nat → ClassId) (ad al : Nat → Nat) (S : wS) (x : Int32) (cn : Nat) (hcn : S.1 0 2 = nI cn) : CtI l yX6_has (Cond.code yX6_has cX6_has 2 (some .boolean) :: wsG) 0 0 [.ref (ad (0)), .int (x)] D (tyM cy) 1 cy ad (skTr) (EC al) (S) (fun r S' => r = hsF x (nI cn) ∧ S' = S) := by
  refine CtI_of (by decide) (Nat.le_of_ble_eq_true rfl) ?_
  intro p e s m args below meth c A ls R Q hB hRf hRl hend
  obtain ⟨hx, hbc, hr, hg, hown, hml, hlk, w, hE, hl⟩ := hB
  have hl : lv_has ls 2 [(0, .ref (ad (0))), (1, .int (x))] := hl
  refine lv_iload_n hx hbc dX6_has_0 rfl (lv_at hl 1 rfl) ?_
  refine lv_if_lt (tgt := 16) hx hbc dX6_has_1 (by decide) (fun c_1 => ?_) (fun c_1 => ?_)
  · refine lv_iconst (v := nI (0)) hx hbc dX6_has_16 (by decide) ?_
    exact hend _ _ _ _ _ _ ⟨(by first | (rw [hsF, if_pos c_1]; rfl) | (rw [hsF, if_neg c_1, if_pos c_9]; rfl) | (rw [hsF, if_neg c_1, if_neg c_9]; rfl)), rfl⟩ (by decide) w dX6_has_17
  · refine lv_iload_n hx hbc dX6_has_4 rfl (lv_at hl 1 rfl) ?_
    refine lv_aload_n hx hbc dX6_has_5 rfl (lv_at hl 0 rfl) ?_
    refine wb_gi (v := nI (cn)) hx hbc hg hown w inG_X6 0 (by decide) rfl rfl 2 (by decide) rfl wk_195 hcn dX6_has_6 ?_
    refine lv_icmp_ge (tgt := 16) hx hbc dX6_has_9 (by decide) (fun c_9 => ?_) (fun c_9 => ?_)
    · refine lv_iconst (v := nI (0)) hx hbc dX6_has_16 (by decide) ?_
      exact hend _ _ _ _ _ _ ⟨(by first | (rw [hsF, if_pos c_1]; rfl) | (rw [hsF, if_neg c_1, if_pos c_9]; rfl) | (rw [hsF, if_neg c_1, if_neg c_9]; rfl)), rfl⟩ (by decide) w dX6_has_17
    · refine lv_iconst (v := nI (1)) hx hbc dX6_has_12 (by decide) ?_
      refine lv_goto (tgt := 17) hx hbc dX6_has_13 (by decide) ?_
      exact hend _ _ _ _ _ _ ⟨(by first | (rw [hsF, if_pos c_1]; rfl) | (rw [hsF, if_neg c_1, if_pos c_9]; rfl) | (rw [hsF, if_neg c_1, if_neg c_9]; rfl)), rfl⟩ (by decide) w dX6_has_17
set_option maxHeartbeats 4000000 in
set_option maxRecDepth 100000 in
theorem k_sfull (l : Launch) (D : va_G) (cy : Nat → ClassId) (ad al : Nat → Nat) (S : wS) (cn : Nat) (hcn : S.1 0 5 = nI cn) (hc2 : cn ≤ 60) : CtI l yX4_isFull (Cond.code yX4_isFull cX4_isFull 1 (some .boolean) :: wsG) 0 0 [.ref (ad (0))] D (tyM cy) 1 cy ad (skSh) (EC al) (S) (fun r S' => r = nI (if cn < 60 then 0 else 1) ∧ S' = S) := by
  refine CtI_of (by decide) (Nat.le_of_ble_eq_true rfl) ?_
  intro p e s m args below meth c A ls R Q hB hRf hRl hend
  obtain ⟨hx, hbc, hr, hg, hown, hml, hlk, w, hE, hl⟩ := hB
  have hl : lv_has ls 1 [(0, .ref (ad (0)))] := hl
  refine lv_aload_n hx hbc dX4_isFull_0 rfl (lv_at hl 0 rfl) ?_
  refine wb_gi (v := nI (cn)) hx hbc hg hown w inG_X4 0 (by decide) rfl rfl 5 (by decide) rfl wk_121 hcn dX4_isFull_1 ?_
  refine lv_bipush (v := nI (60)) hx hbc dX4_isFull_4 (by decide) ?_
  refine n_cmp_lt (tgt := 13) (by omega) (by omega) hx hbc dX4_isFull_6 (by decide) (fun c_6 => ?_) (fun c_6 => ?_)
  · refine lv_iconst (v := nI (0)) hx hbc dX4_isFull_13 (by decide) ?_
    exact hend _ _ _ _ _ _ ⟨(by rw [if_pos c_6]), rfl⟩ (by decide) w dX4_isFull_14
  · refine lv_iconst (v := nI (1)) hx hbc dX4_isFull_9 (by decide) ?_
    refine lv_goto (tgt := 14) hx hbc dX4_isFull_10 (by decide) ?_
    exact hend _ _ _ _ _ _ ⟨(by rw [if_neg (by omega)]), rfl⟩ (by decide) w dX4_isFull_14
