set_option maxHeartbeats 4000000 in
set_option maxRecDepth 100000 in
theorem k_X8_right (l : Launch) (D : va_G) (cy : Nat → ClassId) (ad : Nat → Nat) (S : wS) (x : Int32) (k : Nat) (hk : k ≤ 32) : CtI l yX8_right (Cond.code yX8_right cX8_right 2 (some .int) :: wsG) 0 0 [.int (x), .int (nI (k))] D (tyM cy) 0 cy ad skM E0 (S) (fun r _ => r = rotr x k) := by
  refine CtI_of (by decide) (Nat.le_of_ble_eq_true rfl) ?_
  intro p e s m args below meth c A ls R Q hB hRf hRl hend
  obtain ⟨hx, hbc, hr, hg, hown, hml, hlk, w, hE, hl⟩ := hB
  have hl : lv_has ls 2 [(0, .int (x)), (1, .int (nI (k)))] := hl
  refine lv_iload_n hx hbc dX8_right_0 rfl (lv_at hl 0 rfl) ?_
  refine lv_iload_n hx hbc dX8_right_1 rfl (lv_at hl 1 rfl) ?_
  refine lv_iushr hx hbc dX8_right_2 rfl ?_
  refine lv_iload_n hx hbc dX8_right_3 rfl (lv_at hl 0 rfl) ?_
  refine lv_bipush (v := nI (32)) hx hbc dX8_right_4 (by decide) ?_
  refine lv_iload_n hx hbc dX8_right_6 rfl (lv_at hl 1 rfl) ?_
  refine n_isub (by omega) hx hbc dX8_right_7 ?_
  refine lv_ishl hx hbc dX8_right_8 ?_
  refine lv_ior hx hbc dX8_right_9 ?_
  exact hend _ _ _ _ _ _ rfl rfl w dX8_right_10
set_option maxHeartbeats 4000000 in
set_option maxRecDepth 100000 in
theorem k_X8_in (l : Launch) (D : va_G) (cy : Nat → ClassId) (ad : Nat → Nat) (S : wS) (v lo hi : Int32) : CtI l yX8_in (Cond.code yX8_in cX8_in 3 (some .boolean) :: wsG) 0 0 [.int (v), .int (lo), .int (hi)] D (tyM cy) 0 cy ad skM E0 (S) (fun r _ => r = inF v lo hi) := by
  refine CtI_of (by decide) (Nat.le_of_ble_eq_true rfl) ?_
  intro p e s m args below meth c A ls R Q hB hRf hRl hend
  obtain ⟨hx, hbc, hr, hg, hown, hml, hlk, w, hE, hl⟩ := hB
  have hl : lv_has ls 3 [(0, .int (v)), (1, .int (lo)), (2, .int (hi))] := hl
  refine lv_iload_n hx hbc dX8_in_0 rfl (lv_at hl 0 rfl) ?_
  refine lv_iload_n hx hbc dX8_in_1 rfl (lv_at hl 1 rfl) ?_
  refine lv_icmp_lt (tgt := 14) hx hbc dX8_in_2 (by decide) (fun c_2 => ?_) (fun c_2 => ?_)
  · refine lv_iconst (v := nI (0)) hx hbc dX8_in_14 (by decide) ?_
    exact hend _ _ _ _ _ _ (by first | (rw [inF, if_pos c_2]; rfl) | (rw [inF, if_neg c_2, if_pos c_7]; rfl) | (rw [inF, if_neg c_2, if_neg c_7]; rfl)) (by decide) w dX8_in_15
  · refine lv_iload_n hx hbc dX8_in_5 rfl (lv_at hl 0 rfl) ?_
    refine lv_iload_n hx hbc dX8_in_6 rfl (lv_at hl 2 rfl) ?_
    refine lv_icmp_gt (tgt := 14) hx hbc dX8_in_7 (by decide) (fun c_7 => ?_) (fun c_7 => ?_)
    · refine lv_iconst (v := nI (0)) hx hbc dX8_in_14 (by decide) ?_
      exact hend _ _ _ _ _ _ (by first | (rw [inF, if_pos c_2]; rfl) | (rw [inF, if_neg c_2, if_pos c_7]; rfl) | (rw [inF, if_neg c_2, if_neg c_7]; rfl)) (by decide) w dX8_in_15
    · refine lv_iconst (v := nI (1)) hx hbc dX8_in_10 (by decide) ?_
      refine lv_goto (tgt := 15) hx hbc dX8_in_11 (by decide) ?_
      exact hend _ _ _ _ _ _ (by first | (rw [inF, if_pos c_2]; rfl) | (rw [inF, if_neg c_2, if_pos c_7]; rfl) | (rw [inF, if_neg c_2, if_neg c_7]; rfl)) (by decide) w dX8_in_15
set_option maxHeartbeats 4000000 in
set_option maxRecDepth 100000 in
theorem k_X8_put (l : Launch) (D : va_G) (cy : Nat → ClassId) (ad : Nat → Nat) (S : wS) (b : Int32) (n : Nat) (hn : S.1 0 8 = nI n) (hn2 : n < 2400) : CtV l yX8_put (Cond.code yX8_put cX8_put 2 none :: wsG) 0 0 [.ref (ad (0)), .int (b)] D (tyM cy) 31 cy ad skM E0 (S) (fun S' => S' = pst S (upd (S.2.1 7) n b) (n + 1)) := by
  refine CtV_of (by decide) (Nat.le_of_ble_eq_true rfl) ?_
  intro p e s m args below meth c A ls R Q hB hRf hRl hend
  obtain ⟨hx, hbc, hr, hg, hown, hml, hlk, w, hE, hl⟩ := hB
  have hl : lv_has ls 2 [(0, .ref (ad (0))), (1, .int (b))] := hl
  refine lv_aload_n hx hbc dX8_put_0 rfl (lv_at hl 0 rfl) ?_
  refine wb_gr (t := 7) hx hbc hg hown w inG_X8 0 (by decide) rfl rfl 7 (by decide) rfl wk_674 dX8_put_1 ?_
  refine lv_aload_n hx hbc dX8_put_4 rfl (lv_at hl 0 rfl) ?_
  refine wb_gi (v := nI (n)) hx hbc hg hown w inG_X8 0 (by decide) rfl rfl 8 (by decide) rfl wk_675 hn dX8_put_5 ?_
  refine lv_iload_n hx hbc dX8_put_8 rfl (lv_at hl 1 rfl) ?_
  refine wb_iast (k := n) (f := S.2.1 7) hx hbc w 7 (by decide) rfl 0 rfl rfl (by omega) (by decide) rfl rfl dX8_put_9 (fun H locs w => ?_)
  refine lv_aload_n hx hbc dX8_put_10 rfl (lv_at hl 0 rfl) ?_
  refine lv_dup hx hbc dX8_put_11 rfl ?_
  refine wb_gi (v := nI (n)) hx hbc hg hown w inG_X8 0 (by decide) rfl rfl 8 (by decide) rfl wk_675 hn dX8_put_12 ?_
  refine lv_iconst (v := nI (1)) hx hbc dX8_put_15 (by decide) ?_
  refine n_iadd hx hbc dX8_put_16 ?_
  refine wb_pi (v := nI (n + 1)) hx hbc hg hown w inG_X8 tyX8 tyX8_ok nmX8 0 (by decide) rfl rfl 8 (by decide) rfl wk_675 rfl rfl rfl rfl dX8_put_17 (fun H locs w => ?_)
  exact hend _ _ _ _ _ rfl w dX8_put_20
set_option maxHeartbeats 4000000 in
set_option maxRecDepth 100000 in
theorem k_X8_byteOfH (l : Launch) (D : va_G) (cy : Nat → ClassId) (ad : Nat → Nat) (S : wS) (k : Nat) (hk : k < 32) : CtI l yX8_byteOfH (Cond.code yX8_byteOfH cX8_byteOfH 2 (some .int) :: wsG) 0 0 [.ref (ad (0)), .int (nI (k))] D (tyM cy) 31 cy ad skM E0 (S) (fun r S' => r = byH (S.2.1 8) k ∧ S' = S) := by
  refine CtI_of (by decide) (Nat.le_of_ble_eq_true rfl) ?_
  intro p e s m args below meth c A ls R Q hB hRf hRl hend
  obtain ⟨hx, hbc, hr, hg, hown, hml, hlk, w, hE, hl⟩ := hB
  have hl : lv_has ls 2 [(0, .ref (ad (0))), (1, .int (nI (k)))] := hl
  refine lv_aload_n hx hbc dX8_byteOfH_0 rfl (lv_at hl 0 rfl) ?_
  refine wb_gr (t := 8) hx hbc hg hown w inG_X8 0 (by decide) rfl rfl 9 (by decide) rfl wk_676 dX8_byteOfH_1 ?_
  refine lv_iload_n hx hbc dX8_byteOfH_4 rfl (lv_at hl 1 rfl) ?_
  refine lv_iconst (v := nI (4)) hx hbc dX8_byteOfH_5 (by decide) ?_
  refine n_idiv (by omega) (by omega) (by omega) hx hbc dX8_byteOfH_6 ?_
  refine wb_iald (k := k / 4) (v := (S.2.1 8) (k / 4)) hx hbc w 8 (by decide) rfl 0 rfl rfl (by omega) (by decide) rfl dX8_byteOfH_7 ?_
  refine lv_bipush (v := nI (24)) hx hbc dX8_byteOfH_8 (by decide) ?_
  refine lv_bipush (v := nI (8)) hx hbc dX8_byteOfH_10 (by decide) ?_
  refine lv_iload_n hx hbc dX8_byteOfH_12 rfl (lv_at hl 1 rfl) ?_
  refine lv_iconst (v := nI (4)) hx hbc dX8_byteOfH_13 (by decide) ?_
  refine n_irem (by omega) (by omega) (by omega) hx hbc dX8_byteOfH_14 ?_
  refine n_imul hx hbc dX8_byteOfH_15 ?_
  refine n_isub (by omega) hx hbc dX8_byteOfH_16 ?_
  refine lv_iushr hx hbc dX8_byteOfH_17 rfl ?_
  refine lv_sipush (v := nI (255)) hx hbc dX8_byteOfH_18 (by decide) ?_
  refine lv_iand hx hbc dX8_byteOfH_21 ?_
  exact hend _ _ _ _ _ _ ⟨rfl, rfl⟩ rfl w dX8_byteOfH_22
set_option maxHeartbeats 4000000 in
set_option maxRecDepth 100000 in
theorem k_X8_putWord (l : Launch) (D : va_G) (cy : Nat → ClassId) (ad : Nat → Nat) (S : wS) (g : Nat → Int32) (x : Int32) (n : Nat) (hn2 : n + 4 ≤ 2400) : CtV l yX8_putWord (Cond.code yX8_putWord cX8_putWord 2 none :: wsG) 1 21 [.ref (ad (0)), .int (x)] D (tyM cy) 31 cy ad skM E0 (pst S g n) (fun S' => S' = pst S (upd (upd (upd (upd g n (ushr x 24)) (n + 1) (ushr x 16 &&& nI 255)) (n + 1 + 1) (ushr x 8 &&& nI 255)) (n + 1 + 1 + 1) (x &&& nI 255)) (n + 1 + 1 + 1 + 1)) := by
  refine CtV_of (by decide) (Nat.le_of_ble_eq_true rfl) ?_
  intro p e s m args below meth c A ls R Q hB hRf hRl hend
  obtain ⟨hx, hbc, hr, hg, hown, hml, hlk, w, hE, hl⟩ := hB
  have hl : lv_has ls 2 [(0, .ref (ad (0))), (1, .int (x))] := hl
  refine lv_aload_n hx hbc dX8_putWord_0 rfl (lv_at hl 0 rfl) ?_
  refine lv_iload_n hx hbc dX8_putWord_1 rfl (lv_at hl 1 rfl) ?_
  refine lv_bipush (v := nI (24)) hx hbc dX8_putWord_2 (by decide) ?_
  refine lv_iushr hx hbc dX8_putWord_4 rfl ?_
  refine wb_Vv (na := 1) (As := [.int ((x.toUInt32 >>> ((nI (24)).toUInt32 &&& Int32.toUInt32 31)).toInt32)]) (rest := []) hx hbc hml hg hown w E0_ok trivial w.1 Sub.self 0 (by decide) rfl rfl (k_X8_put l D cy ad (pst S g n) ((x.toUInt32 >>> ((nI (24)).toUInt32 &&& Int32.toUInt32 31)).toInt32) n rfl (by omega)) wk_816 wk_9 wk_813 wk_815 ws_14 ⟨by decide, by decide, by decide⟩ ⟨by rw [hRf]; decide, by rw [hRl]; decide⟩ rfl hl.1 rfl (Nat.le_of_ble_eq_true rfl) dX8_putWord_5 ⟨Nat.zero_le _, Nat.zero_le _⟩ (fun S9 H locs hp w => ?_)
  subst hp
  have w := WB_cast w (pst_pst _ _ _ _ _)
  have w : WB D (tyM cy) 31 cy ad skM A s (pst S (upd g n ((x.toUInt32 >>> ((nI (24)).toUInt32 &&& Int32.toUInt32 31)).toInt32)) (n + 1)) H locs := w
  refine lv_aload_n hx hbc dX8_putWord_8 rfl (lv_at hl 0 rfl) ?_
  refine lv_iload_n hx hbc dX8_putWord_9 rfl (lv_at hl 1 rfl) ?_
  refine lv_bipush (v := nI (16)) hx hbc dX8_putWord_10 (by decide) ?_
  refine lv_iushr hx hbc dX8_putWord_12 rfl ?_
  refine lv_sipush (v := nI (255)) hx hbc dX8_putWord_13 (by decide) ?_
  refine lv_iand hx hbc dX8_putWord_16 ?_
  refine wb_Vv (na := 1) (As := [.int (((x.toUInt32 >>> ((nI (16)).toUInt32 &&& Int32.toUInt32 31)).toInt32) &&& (nI (255)))]) (rest := []) hx hbc hml hg hown w E0_ok trivial w.1 Sub.self 0 (by decide) rfl rfl (k_X8_put l D cy ad (pst S (upd g n ((x.toUInt32 >>> ((nI (24)).toUInt32 &&& Int32.toUInt32 31)).toInt32)) (n + 1)) (((x.toUInt32 >>> ((nI (16)).toUInt32 &&& Int32.toUInt32 31)).toInt32) &&& (nI (255))) (n + 1) rfl (by omega)) wk_816 wk_9 wk_813 wk_815 ws_14 ⟨by decide, by decide, by decide⟩ ⟨by rw [hRf]; decide, by rw [hRl]; decide⟩ rfl hl.1 rfl (Nat.le_of_ble_eq_true rfl) dX8_putWord_17 ⟨Nat.zero_le _, Nat.zero_le _⟩ (fun S9 H locs hp w => ?_)
  subst hp
  have w := WB_cast w (pst_pst _ _ _ _ _)
  have w : WB D (tyM cy) 31 cy ad skM A s (pst S (upd (upd g n ((x.toUInt32 >>> ((nI (24)).toUInt32 &&& Int32.toUInt32 31)).toInt32)) (n + 1) (((x.toUInt32 >>> ((nI (16)).toUInt32 &&& Int32.toUInt32 31)).toInt32) &&& (nI (255)))) (n + 1 + 1)) H locs := w
  refine lv_aload_n hx hbc dX8_putWord_20 rfl (lv_at hl 0 rfl) ?_
  refine lv_iload_n hx hbc dX8_putWord_21 rfl (lv_at hl 1 rfl) ?_
  refine lv_bipush (v := nI (8)) hx hbc dX8_putWord_22 (by decide) ?_
  refine lv_iushr hx hbc dX8_putWord_24 rfl ?_
  refine lv_sipush (v := nI (255)) hx hbc dX8_putWord_25 (by decide) ?_
  refine lv_iand hx hbc dX8_putWord_28 ?_
  refine wb_Vv (na := 1) (As := [.int (((x.toUInt32 >>> ((nI (8)).toUInt32 &&& Int32.toUInt32 31)).toInt32) &&& (nI (255)))]) (rest := []) hx hbc hml hg hown w E0_ok trivial w.1 Sub.self 0 (by decide) rfl rfl (k_X8_put l D cy ad (pst S (upd (upd g n ((x.toUInt32 >>> ((nI (24)).toUInt32 &&& Int32.toUInt32 31)).toInt32)) (n + 1) (((x.toUInt32 >>> ((nI (16)).toUInt32 &&& Int32.toUInt32 31)).toInt32) &&& (nI (255)))) (n + 1 + 1)) (((x.toUInt32 >>> ((nI (8)).toUInt32 &&& Int32.toUInt32 31)).toInt32) &&& (nI (255))) (n + 1 + 1) rfl (by omega)) wk_816 wk_9 wk_813 wk_815 ws_14 ⟨by decide, by decide, by decide⟩ ⟨by rw [hRf]; decide, by rw [hRl]; decide⟩ rfl hl.1 rfl (Nat.le_of_ble_eq_true rfl) dX8_putWord_29 ⟨Nat.zero_le _, Nat.zero_le _⟩ (fun S9 H locs hp w => ?_)
  subst hp
  have w := WB_cast w (pst_pst _ _ _ _ _)
  have w : WB D (tyM cy) 31 cy ad skM A s (pst S (upd (upd (upd g n ((x.toUInt32 >>> ((nI (24)).toUInt32 &&& Int32.toUInt32 31)).toInt32)) (n + 1) (((x.toUInt32 >>> ((nI (16)).toUInt32 &&& Int32.toUInt32 31)).toInt32) &&& (nI (255)))) (n + 1 + 1) (((x.toUInt32 >>> ((nI (8)).toUInt32 &&& Int32.toUInt32 31)).toInt32) &&& (nI (255)))) (n + 1 + 1 + 1)) H locs := w
  refine lv_aload_n hx hbc dX8_putWord_32 rfl (lv_at hl 0 rfl) ?_
  refine lv_iload_n hx hbc dX8_putWord_33 rfl (lv_at hl 1 rfl) ?_
  refine lv_sipush (v := nI (255)) hx hbc dX8_putWord_34 (by decide) ?_
  refine lv_iand hx hbc dX8_putWord_37 ?_
  refine wb_Vv (na := 1) (As := [.int (x &&& (nI (255)))]) (rest := []) hx hbc hml hg hown w E0_ok trivial w.1 Sub.self 0 (by decide) rfl rfl (k_X8_put l D cy ad (pst S (upd (upd (upd g n ((x.toUInt32 >>> ((nI (24)).toUInt32 &&& Int32.toUInt32 31)).toInt32)) (n + 1) (((x.toUInt32 >>> ((nI (16)).toUInt32 &&& Int32.toUInt32 31)).toInt32) &&& (nI (255)))) (n + 1 + 1) (((x.toUInt32 >>> ((nI (8)).toUInt32 &&& Int32.toUInt32 31)).toInt32) &&& (nI (255)))) (n + 1 + 1 + 1)) (x &&& (nI (255))) (n + 1 + 1 + 1) rfl (by omega)) wk_816 wk_9 wk_813 wk_815 ws_14 ⟨by decide, by decide, by decide⟩ ⟨by rw [hRf]; decide, by rw [hRl]; decide⟩ rfl hl.1 rfl (Nat.le_of_ble_eq_true rfl) dX8_putWord_38 ⟨Nat.zero_le _, Nat.zero_le _⟩ (fun S9 H locs hp w => ?_)
  subst hp
  have w := WB_cast w (pst_pst _ _ _ _ _)
  have w : WB D (tyM cy) 31 cy ad skM A s (pst S (upd (upd (upd (upd g n ((x.toUInt32 >>> ((nI (24)).toUInt32 &&& Int32.toUInt32 31)).toInt32)) (n + 1) (((x.toUInt32 >>> ((nI (16)).toUInt32 &&& Int32.toUInt32 31)).toInt32) &&& (nI (255)))) (n + 1 + 1) (((x.toUInt32 >>> ((nI (8)).toUInt32 &&& Int32.toUInt32 31)).toInt32) &&& (nI (255)))) (n + 1 + 1 + 1) (x &&& (nI (255)))) (n + 1 + 1 + 1 + 1)) H locs := w
  exact hend _ _ _ _ _ rfl w dX8_putWord_41
set_option maxHeartbeats 4000000 in
set_option maxRecDepth 100000 in
theorem k_X8_block (l : Launch) (D : va_G) (cy : Nat → ClassId) (ad : Nat → Nat) (S : wS) (at0 : Nat) (hat : at0 + 64 ≤ 2400) : CtV l yX8_block (Cond.code yX8_block cX8_block 13 none :: wsG) 1 21 [.ref (ad (0)), .int (nI (at0))] D (tyM cy) 31 cy ad skM E0 (S) (fun S' => S' = sB (sB S 9 (wBlk (S.2.1 9) (S.2.1 7) at0)) 8 (cmpB (S.2.1 1) (S.2.1 8) (wBlk (S.2.1 9) (S.2.1 7) at0))) := by
  refine CtV_of (by decide) (Nat.le_of_ble_eq_true rfl) ?_
  intro p e s m args below meth c A ls R Q hB hRf hRl hend
  obtain ⟨hx, hbc, hr, hg, hown, hml, hlk, w, hE, hl⟩ := hB
  have hl : lv_has ls 13 [(0, .ref (ad (0))), (1, .int (nI (at0)))] := hl
  refine lv_iconst (v := nI (0)) hx hbc dX8_block_0 (by decide) ?_
  refine lv_istore_n (lv' := [(2, .int (nI (0))), (0, .ref (ad (0))), (1, .int (nI (at0)))]) hx hbc dX8_block_1 rfl hl (by decide) rfl (fun ls hl => ?_)
  have lp_2 : ∀ (fu : Nat) (t : Nat) (H : Heap) (locs : List Loc) (ls : Array Slot), (16 < t + fu) → (t ≤ 16) → WB D (tyM cy) 31 cy ad skM A s (sB S 9 (wfl (S.2.1 9) (S.2.1 7) at0 t)) H locs → lv_has ls 13 [(0, .ref (ad (0))), (1, .int (nI (at0))), (2, .int (nI (t)))] → W p l e R s m args below meth c H locs 0 0 Q (F0 m 2 ls []) := by
    intro fu
    induction fu with
    | zero =>
      intro t H locs ls h1 h2 w hl
      exact absurd h1 (by omega)
    | succ fu ih_2 =>
      intro t H locs ls h1 h2 w hl
      refine lv_iload_n hx hbc dX8_block_2 rfl (lv_at hl 2 rfl) ?_
      refine lv_bipush (v := nI (16)) hx hbc dX8_block_3 (by decide) ?_
      refine n_cmp_ge (tgt := 68) (by omega) (by omega) hx hbc dX8_block_5 (by decide) (fun c_5 => ?_) (fun c_5 => ?_)
      · obtain rfl : t = 16 := by omega
        refine lv_bipush (v := nI (16)) hx hbc dX8_block_68 (by decide) ?_
        refine lv_istore_n (lv' := [(2, .int (nI (16))), (0, .ref (ad (0))), (1, .int (nI (at0)))]) hx hbc dX8_block_70 rfl hl (by decide) rfl (fun ls hl => ?_)
        have lp_71 : ∀ (fu : Nat) (u : Nat) (H : Heap) (locs : List Loc) (ls : Array Slot), (48 < u + fu) → (u ≤ 48) → WB D (tyM cy) 31 cy ad skM A s (sB S 9 (schN (wfl (S.2.1 9) (S.2.1 7) at0 16) u)) H locs → lv_has ls 13 [(0, .ref (ad (0))), (1, .int (nI (at0))), (2, .int (nI (16 + u)))] → W p l e R s m args below meth c H locs 0 0 Q (F0 m 71 ls []) := by
          intro fu
          induction fu with
          | zero =>
            intro u H locs ls h1 h2 w hl
            exact absurd h1 (by omega)
          | succ fu ih_71 =>
            intro u H locs ls h1 h2 w hl
            refine lv_iload_n hx hbc dX8_block_71 rfl (lv_at hl 2 rfl) ?_
            refine lv_bipush (v := nI (64)) hx hbc dX8_block_72 (by decide) ?_
            refine n_cmp_ge (tgt := 168) (by omega) (by omega) hx hbc dX8_block_74 (by decide) (fun c_74 => ?_) (fun c_74 => ?_)
            · obtain rfl : u = 48 := by omega
              refine lv_aload_n hx hbc dX8_block_168 rfl (lv_at hl 0 rfl) ?_
              refine wb_gr (t := 8) hx hbc hg hown w inG_X8 0 (by decide) rfl rfl 9 (by decide) rfl wk_676 dX8_block_169 ?_
              refine lv_iconst (v := nI (0)) hx hbc dX8_block_172 (by decide) ?_
              refine wb_iald (k := 0) (v := (S.2.1 8) 0) hx hbc w 8 (by decide) rfl 0 rfl rfl (by omega) (by decide) rfl dX8_block_173 ?_
              refine lv_istore_n (lv' := [(2, .int ((S.2.1 8) 0)), (0, .ref (ad (0))), (1, .int (nI (at0)))]) hx hbc dX8_block_174 rfl hl (by decide) rfl (fun ls hl => ?_)
              refine lv_aload_n hx hbc dX8_block_175 rfl (lv_at hl 1 rfl) ?_
              refine wb_gr (t := 8) hx hbc hg hown w inG_X8 0 (by decide) rfl rfl 9 (by decide) rfl wk_676 dX8_block_176 ?_
              refine lv_iconst (v := nI (1)) hx hbc dX8_block_179 (by decide) ?_
              refine wb_iald (k := 1) (v := (S.2.1 8) 1) hx hbc w 8 (by decide) rfl 0 rfl rfl (by omega) (by decide) rfl dX8_block_180 ?_
              refine lv_istore_n (lv' := [(3, .int ((S.2.1 8) 1)), (2, .int ((S.2.1 8) 0)), (0, .ref (ad (0))), (1, .int (nI (at0)))]) hx hbc dX8_block_181 rfl hl (by decide) rfl (fun ls hl => ?_)
              refine lv_aload_n hx hbc dX8_block_182 rfl (lv_at hl 2 rfl) ?_
              refine wb_gr (t := 8) hx hbc hg hown w inG_X8 0 (by decide) rfl rfl 9 (by decide) rfl wk_676 dX8_block_183 ?_
              refine lv_iconst (v := nI (2)) hx hbc dX8_block_186 (by decide) ?_
              refine wb_iald (k := 2) (v := (S.2.1 8) 2) hx hbc w 8 (by decide) rfl 0 rfl rfl (by omega) (by decide) rfl dX8_block_187 ?_
              refine lv_istore (lv' := [(4, .int ((S.2.1 8) 2)), (3, .int ((S.2.1 8) 1)), (2, .int ((S.2.1 8) 0)), (0, .ref (ad (0))), (1, .int (nI (at0)))]) hx hbc dX8_block_188 hl (by decide) rfl (fun ls hl => ?_)
              refine lv_aload_n hx hbc dX8_block_190 rfl (lv_at hl 3 rfl) ?_
              refine wb_gr (t := 8) hx hbc hg hown w inG_X8 0 (by decide) rfl rfl 9 (by decide) rfl wk_676 dX8_block_191 ?_
              refine lv_iconst (v := nI (3)) hx hbc dX8_block_194 (by decide) ?_
              refine wb_iald (k := 3) (v := (S.2.1 8) 3) hx hbc w 8 (by decide) rfl 0 rfl rfl (by omega) (by decide) rfl dX8_block_195 ?_
              refine lv_istore (lv' := [(5, .int ((S.2.1 8) 3)), (4, .int ((S.2.1 8) 2)), (3, .int ((S.2.1 8) 1)), (2, .int ((S.2.1 8) 0)), (0, .ref (ad (0))), (1, .int (nI (at0)))]) hx hbc dX8_block_196 hl (by decide) rfl (fun ls hl => ?_)
              refine lv_aload_n hx hbc dX8_block_198 rfl (lv_at hl 4 rfl) ?_
              refine wb_gr (t := 8) hx hbc hg hown w inG_X8 0 (by decide) rfl rfl 9 (by decide) rfl wk_676 dX8_block_199 ?_
              refine lv_iconst (v := nI (4)) hx hbc dX8_block_202 (by decide) ?_
              refine wb_iald (k := 4) (v := (S.2.1 8) 4) hx hbc w 8 (by decide) rfl 0 rfl rfl (by omega) (by decide) rfl dX8_block_203 ?_
              refine lv_istore (lv' := [(6, .int ((S.2.1 8) 4)), (5, .int ((S.2.1 8) 3)), (4, .int ((S.2.1 8) 2)), (3, .int ((S.2.1 8) 1)), (2, .int ((S.2.1 8) 0)), (0, .ref (ad (0))), (1, .int (nI (at0)))]) hx hbc dX8_block_204 hl (by decide) rfl (fun ls hl => ?_)
              refine lv_aload_n hx hbc dX8_block_206 rfl (lv_at hl 5 rfl) ?_
              refine wb_gr (t := 8) hx hbc hg hown w inG_X8 0 (by decide) rfl rfl 9 (by decide) rfl wk_676 dX8_block_207 ?_
              refine lv_iconst (v := nI (5)) hx hbc dX8_block_210 (by decide) ?_
              refine wb_iald (k := 5) (v := (S.2.1 8) 5) hx hbc w 8 (by decide) rfl 0 rfl rfl (by omega) (by decide) rfl dX8_block_211 ?_
              refine lv_istore (lv' := [(7, .int ((S.2.1 8) 5)), (6, .int ((S.2.1 8) 4)), (5, .int ((S.2.1 8) 3)), (4, .int ((S.2.1 8) 2)), (3, .int ((S.2.1 8) 1)), (2, .int ((S.2.1 8) 0)), (0, .ref (ad (0))), (1, .int (nI (at0)))]) hx hbc dX8_block_212 hl (by decide) rfl (fun ls hl => ?_)
              refine lv_aload_n hx hbc dX8_block_214 rfl (lv_at hl 6 rfl) ?_
              refine wb_gr (t := 8) hx hbc hg hown w inG_X8 0 (by decide) rfl rfl 9 (by decide) rfl wk_676 dX8_block_215 ?_
              refine lv_bipush (v := nI (6)) hx hbc dX8_block_218 (by decide) ?_
              refine wb_iald (k := 6) (v := (S.2.1 8) 6) hx hbc w 8 (by decide) rfl 0 rfl rfl (by omega) (by decide) rfl dX8_block_220 ?_
              refine lv_istore (lv' := [(8, .int ((S.2.1 8) 6)), (7, .int ((S.2.1 8) 5)), (6, .int ((S.2.1 8) 4)), (5, .int ((S.2.1 8) 3)), (4, .int ((S.2.1 8) 2)), (3, .int ((S.2.1 8) 1)), (2, .int ((S.2.1 8) 0)), (0, .ref (ad (0))), (1, .int (nI (at0)))]) hx hbc dX8_block_221 hl (by decide) rfl (fun ls hl => ?_)
              refine lv_aload_n hx hbc dX8_block_223 rfl (lv_at hl 7 rfl) ?_
              refine wb_gr (t := 8) hx hbc hg hown w inG_X8 0 (by decide) rfl rfl 9 (by decide) rfl wk_676 dX8_block_224 ?_
              refine lv_bipush (v := nI (7)) hx hbc dX8_block_227 (by decide) ?_
              refine wb_iald (k := 7) (v := (S.2.1 8) 7) hx hbc w 8 (by decide) rfl 0 rfl rfl (by omega) (by decide) rfl dX8_block_229 ?_
              refine lv_istore (lv' := [(9, .int ((S.2.1 8) 7)), (8, .int ((S.2.1 8) 6)), (7, .int ((S.2.1 8) 5)), (6, .int ((S.2.1 8) 4)), (5, .int ((S.2.1 8) 3)), (4, .int ((S.2.1 8) 2)), (3, .int ((S.2.1 8) 1)), (2, .int ((S.2.1 8) 0)), (0, .ref (ad (0))), (1, .int (nI (at0)))]) hx hbc dX8_block_230 hl (by decide) rfl (fun ls hl => ?_)
              refine lv_iconst (v := nI (0)) hx hbc dX8_block_232 (by decide) ?_
              refine lv_istore (lv' := [(10, .int (nI (0))), (9, .int ((S.2.1 8) 7)), (8, .int ((S.2.1 8) 6)), (7, .int ((S.2.1 8) 5)), (6, .int ((S.2.1 8) 4)), (5, .int ((S.2.1 8) 3)), (4, .int ((S.2.1 8) 2)), (3, .int ((S.2.1 8) 1)), (2, .int ((S.2.1 8) 0)), (0, .ref (ad (0))), (1, .int (nI (at0)))]) hx hbc dX8_block_233 hl (by decide) rfl (fun ls hl => ?_)
              have lp_235 : ∀ (fu : Nat) (t : Nat) (H : Heap) (locs : List Loc) (ls : Array Slot), (64 < t + fu) → (t ≤ 64) → WB D (tyM cy) 31 cy ad skM A s (sB S 9 (wBlk (S.2.1 9) (S.2.1 7) at0)) H locs → lv_has ls 13 [(0, .ref (ad (0))), (1, .int (nI (at0))), (2, .int (rds (S.2.1 1) (wBlk (S.2.1 9) (S.2.1 7) at0) (S.2.1 8) t 0)), (3, .int (rds (S.2.1 1) (wBlk (S.2.1 9) (S.2.1 7) at0) (S.2.1 8) t 1)), (4, .int (rds (S.2.1 1) (wBlk (S.2.1 9) (S.2.1 7) at0) (S.2.1 8) t 2)), (5, .int (rds (S.2.1 1) (wBlk (S.2.1 9) (S.2.1 7) at0) (S.2.1 8) t 3)), (6, .int (rds (S.2.1 1) (wBlk (S.2.1 9) (S.2.1 7) at0) (S.2.1 8) t 4)), (7, .int (rds (S.2.1 1) (wBlk (S.2.1 9) (S.2.1 7) at0) (S.2.1 8) t 5)), (8, .int (rds (S.2.1 1) (wBlk (S.2.1 9) (S.2.1 7) at0) (S.2.1 8) t 6)), (9, .int (rds (S.2.1 1) (wBlk (S.2.1 9) (S.2.1 7) at0) (S.2.1 8) t 7)), (10, .int (nI (t)))] → W p l e R s m args below meth c H locs 0 0 Q (F0 m 235 ls []) := by
                intro fu
                induction fu with
                | zero =>
                  intro t H locs ls h1 h2 w hl
                  exact absurd h1 (by omega)
                | succ fu ih_235 =>
                  intro t H locs ls h1 h2 w hl
                  refine lv_iload hx hbc dX8_block_235 (lv_at hl 10 rfl) ?_
                  refine lv_bipush (v := nI (64)) hx hbc dX8_block_237 (by decide) ?_
                  refine n_cmp_ge (tgt := 375) (by omega) (by omega) hx hbc dX8_block_239 (by decide) (fun c_239 => ?_) (fun c_239 => ?_)
                  · obtain rfl : t = 64 := by omega
                    have hl := lv_sub (l' := [(0, .ref (ad (0))), (2, .int (rds (S.2.1 1) (wBlk (S.2.1 9) (S.2.1 7) at0) (S.2.1 8) 64 0)), (3, .int (rds (S.2.1 1) (wBlk (S.2.1 9) (S.2.1 7) at0) (S.2.1 8) 64 1)), (4, .int (rds (S.2.1 1) (wBlk (S.2.1 9) (S.2.1 7) at0) (S.2.1 8) 64 2)), (5, .int (rds (S.2.1 1) (wBlk (S.2.1 9) (S.2.1 7) at0) (S.2.1 8) 64 3)), (6, .int (rds (S.2.1 1) (wBlk (S.2.1 9) (S.2.1 7) at0) (S.2.1 8) 64 4)), (7, .int (rds (S.2.1 1) (wBlk (S.2.1 9) (S.2.1 7) at0) (S.2.1 8) 64 5)), (8, .int (rds (S.2.1 1) (wBlk (S.2.1 9) (S.2.1 7) at0) (S.2.1 8) 64 6)), (9, .int (rds (S.2.1 1) (wBlk (S.2.1 9) (S.2.1 7) at0) (S.2.1 8) 64 7))]) hl [0, 2, 3, 4, 5, 6, 7, 8, 9] rfl
                    refine lv_aload_n hx hbc dX8_block_375 rfl (lv_at hl 0 rfl) ?_
                    refine wb_gr (t := 8) hx hbc hg hown w inG_X8 0 (by decide) rfl rfl 9 (by decide) rfl wk_676 dX8_block_376 ?_
                    refine lv_iconst (v := nI (0)) hx hbc dX8_block_379 (by decide) ?_
                    refine lv_dup2_11 hx hbc dX8_block_380 rfl rfl ?_
                    refine wb_iald (k := 0) (v := (S.2.1 8) 0) hx hbc w 8 (by decide) rfl 0 rfl rfl (by omega) (by decide) rfl dX8_block_381 ?_
                    refine lv_iload_n hx hbc dX8_block_382 rfl (lv_at hl 1 rfl) ?_
                    refine lv_iadd hx hbc dX8_block_383 ?_
                    refine wb_iast (k := 0) (f := S.2.1 8) hx hbc w 8 (by decide) rfl 0 rfl rfl (by omega) (by decide) rfl rfl dX8_block_384 (fun H locs w => ?_)
                    refine lv_aload_n hx hbc dX8_block_385 rfl (lv_at hl 0 rfl) ?_
                    refine wb_gr (t := 8) hx hbc hg hown w inG_X8 0 (by decide) rfl rfl 9 (by decide) rfl wk_676 dX8_block_386 ?_
                    refine lv_iconst (v := nI (1)) hx hbc dX8_block_389 (by decide) ?_
                    refine lv_dup2_11 hx hbc dX8_block_390 rfl rfl ?_
                    refine wb_iald (k := 1) (v := (S.2.1 8) 1) hx hbc w 8 (by decide) rfl 0 rfl rfl (by omega) (by decide) rfl dX8_block_391 ?_
                    refine lv_iload_n hx hbc dX8_block_392 rfl (lv_at hl 2 rfl) ?_
                    refine lv_iadd hx hbc dX8_block_393 ?_
                    refine wb_iast (k := 1) (f := upd (S.2.1 8) 0 (((S.2.1 8) 0) + (rds (S.2.1 1) (wBlk (S.2.1 9) (S.2.1 7) at0) (S.2.1 8) 64 0))) hx hbc w 8 (by decide) rfl 0 rfl rfl (by omega) (by decide) rfl (sB_sB _ _ _ _) dX8_block_394 (fun H locs w => ?_)
                    refine lv_aload_n hx hbc dX8_block_395 rfl (lv_at hl 0 rfl) ?_
                    refine wb_gr (t := 8) hx hbc hg hown w inG_X8 0 (by decide) rfl rfl 9 (by decide) rfl wk_676 dX8_block_396 ?_
                    refine lv_iconst (v := nI (2)) hx hbc dX8_block_399 (by decide) ?_
                    refine lv_dup2_11 hx hbc dX8_block_400 rfl rfl ?_
                    refine wb_iald (k := 2) (v := (S.2.1 8) 2) hx hbc w 8 (by decide) rfl 0 rfl rfl (by omega) (by decide) rfl dX8_block_401 ?_
                    refine lv_iload hx hbc dX8_block_402 (lv_at hl 3 rfl) ?_
                    refine lv_iadd hx hbc dX8_block_404 ?_
                    refine wb_iast (k := 2) (f := upd (upd (S.2.1 8) 0 (((S.2.1 8) 0) + (rds (S.2.1 1) (wBlk (S.2.1 9) (S.2.1 7) at0) (S.2.1 8) 64 0))) 1 (((S.2.1 8) 1) + (rds (S.2.1 1) (wBlk (S.2.1 9) (S.2.1 7) at0) (S.2.1 8) 64 1))) hx hbc w 8 (by decide) rfl 0 rfl rfl (by omega) (by decide) rfl (sB_sB _ _ _ _) dX8_block_405 (fun H locs w => ?_)
                    refine lv_aload_n hx hbc dX8_block_406 rfl (lv_at hl 0 rfl) ?_
                    refine wb_gr (t := 8) hx hbc hg hown w inG_X8 0 (by decide) rfl rfl 9 (by decide) rfl wk_676 dX8_block_407 ?_
                    refine lv_iconst (v := nI (3)) hx hbc dX8_block_410 (by decide) ?_
                    refine lv_dup2_11 hx hbc dX8_block_411 rfl rfl ?_
                    refine wb_iald (k := 3) (v := (S.2.1 8) 3) hx hbc w 8 (by decide) rfl 0 rfl rfl (by omega) (by decide) rfl dX8_block_412 ?_
                    refine lv_iload hx hbc dX8_block_413 (lv_at hl 4 rfl) ?_
                    refine lv_iadd hx hbc dX8_block_415 ?_
                    refine wb_iast (k := 3) (f := upd (upd (upd (S.2.1 8) 0 (((S.2.1 8) 0) + (rds (S.2.1 1) (wBlk (S.2.1 9) (S.2.1 7) at0) (S.2.1 8) 64 0))) 1 (((S.2.1 8) 1) + (rds (S.2.1 1) (wBlk (S.2.1 9) (S.2.1 7) at0) (S.2.1 8) 64 1))) 2 (((S.2.1 8) 2) + (rds (S.2.1 1) (wBlk (S.2.1 9) (S.2.1 7) at0) (S.2.1 8) 64 2))) hx hbc w 8 (by decide) rfl 0 rfl rfl (by omega) (by decide) rfl (sB_sB _ _ _ _) dX8_block_416 (fun H locs w => ?_)
                    refine lv_aload_n hx hbc dX8_block_417 rfl (lv_at hl 0 rfl) ?_
                    refine wb_gr (t := 8) hx hbc hg hown w inG_X8 0 (by decide) rfl rfl 9 (by decide) rfl wk_676 dX8_block_418 ?_
                    refine lv_iconst (v := nI (4)) hx hbc dX8_block_421 (by decide) ?_
                    refine lv_dup2_11 hx hbc dX8_block_422 rfl rfl ?_
                    refine wb_iald (k := 4) (v := (S.2.1 8) 4) hx hbc w 8 (by decide) rfl 0 rfl rfl (by omega) (by decide) rfl dX8_block_423 ?_
                    refine lv_iload hx hbc dX8_block_424 (lv_at hl 5 rfl) ?_
                    refine lv_iadd hx hbc dX8_block_426 ?_
                    refine wb_iast (k := 4) (f := upd (upd (upd (upd (S.2.1 8) 0 (((S.2.1 8) 0) + (rds (S.2.1 1) (wBlk (S.2.1 9) (S.2.1 7) at0) (S.2.1 8) 64 0))) 1 (((S.2.1 8) 1) + (rds (S.2.1 1) (wBlk (S.2.1 9) (S.2.1 7) at0) (S.2.1 8) 64 1))) 2 (((S.2.1 8) 2) + (rds (S.2.1 1) (wBlk (S.2.1 9) (S.2.1 7) at0) (S.2.1 8) 64 2))) 3 (((S.2.1 8) 3) + (rds (S.2.1 1) (wBlk (S.2.1 9) (S.2.1 7) at0) (S.2.1 8) 64 3))) hx hbc w 8 (by decide) rfl 0 rfl rfl (by omega) (by decide) rfl (sB_sB _ _ _ _) dX8_block_427 (fun H locs w => ?_)
                    refine lv_aload_n hx hbc dX8_block_428 rfl (lv_at hl 0 rfl) ?_
                    refine wb_gr (t := 8) hx hbc hg hown w inG_X8 0 (by decide) rfl rfl 9 (by decide) rfl wk_676 dX8_block_429 ?_
                    refine lv_iconst (v := nI (5)) hx hbc dX8_block_432 (by decide) ?_
                    refine lv_dup2_11 hx hbc dX8_block_433 rfl rfl ?_
                    refine wb_iald (k := 5) (v := (S.2.1 8) 5) hx hbc w 8 (by decide) rfl 0 rfl rfl (by omega) (by decide) rfl dX8_block_434 ?_
                    refine lv_iload hx hbc dX8_block_435 (lv_at hl 6 rfl) ?_
                    refine lv_iadd hx hbc dX8_block_437 ?_
                    refine wb_iast (k := 5) (f := upd (upd (upd (upd (upd (S.2.1 8) 0 (((S.2.1 8) 0) + (rds (S.2.1 1) (wBlk (S.2.1 9) (S.2.1 7) at0) (S.2.1 8) 64 0))) 1 (((S.2.1 8) 1) + (rds (S.2.1 1) (wBlk (S.2.1 9) (S.2.1 7) at0) (S.2.1 8) 64 1))) 2 (((S.2.1 8) 2) + (rds (S.2.1 1) (wBlk (S.2.1 9) (S.2.1 7) at0) (S.2.1 8) 64 2))) 3 (((S.2.1 8) 3) + (rds (S.2.1 1) (wBlk (S.2.1 9) (S.2.1 7) at0) (S.2.1 8) 64 3))) 4 (((S.2.1 8) 4) + (rds (S.2.1 1) (wBlk (S.2.1 9) (S.2.1 7) at0) (S.2.1 8) 64 4))) hx hbc w 8 (by decide) rfl 0 rfl rfl (by omega) (by decide) rfl (sB_sB _ _ _ _) dX8_block_438 (fun H locs w => ?_)
                    refine lv_aload_n hx hbc dX8_block_439 rfl (lv_at hl 0 rfl) ?_
                    refine wb_gr (t := 8) hx hbc hg hown w inG_X8 0 (by decide) rfl rfl 9 (by decide) rfl wk_676 dX8_block_440 ?_
                    refine lv_bipush (v := nI (6)) hx hbc dX8_block_443 (by decide) ?_
                    refine lv_dup2_11 hx hbc dX8_block_445 rfl rfl ?_
                    refine wb_iald (k := 6) (v := (S.2.1 8) 6) hx hbc w 8 (by decide) rfl 0 rfl rfl (by omega) (by decide) rfl dX8_block_446 ?_
                    refine lv_iload hx hbc dX8_block_447 (lv_at hl 7 rfl) ?_
                    refine lv_iadd hx hbc dX8_block_449 ?_
                    refine wb_iast (k := 6) (f := upd (upd (upd (upd (upd (upd (S.2.1 8) 0 (((S.2.1 8) 0) + (rds (S.2.1 1) (wBlk (S.2.1 9) (S.2.1 7) at0) (S.2.1 8) 64 0))) 1 (((S.2.1 8) 1) + (rds (S.2.1 1) (wBlk (S.2.1 9) (S.2.1 7) at0) (S.2.1 8) 64 1))) 2 (((S.2.1 8) 2) + (rds (S.2.1 1) (wBlk (S.2.1 9) (S.2.1 7) at0) (S.2.1 8) 64 2))) 3 (((S.2.1 8) 3) + (rds (S.2.1 1) (wBlk (S.2.1 9) (S.2.1 7) at0) (S.2.1 8) 64 3))) 4 (((S.2.1 8) 4) + (rds (S.2.1 1) (wBlk (S.2.1 9) (S.2.1 7) at0) (S.2.1 8) 64 4))) 5 (((S.2.1 8) 5) + (rds (S.2.1 1) (wBlk (S.2.1 9) (S.2.1 7) at0) (S.2.1 8) 64 5))) hx hbc w 8 (by decide) rfl 0 rfl rfl (by omega) (by decide) rfl (sB_sB _ _ _ _) dX8_block_450 (fun H locs w => ?_)
                    refine lv_aload_n hx hbc dX8_block_451 rfl (lv_at hl 0 rfl) ?_
                    refine wb_gr (t := 8) hx hbc hg hown w inG_X8 0 (by decide) rfl rfl 9 (by decide) rfl wk_676 dX8_block_452 ?_
                    refine lv_bipush (v := nI (7)) hx hbc dX8_block_455 (by decide) ?_
                    refine lv_dup2_11 hx hbc dX8_block_457 rfl rfl ?_
                    refine wb_iald (k := 7) (v := (S.2.1 8) 7) hx hbc w 8 (by decide) rfl 0 rfl rfl (by omega) (by decide) rfl dX8_block_458 ?_
                    refine lv_iload hx hbc dX8_block_459 (lv_at hl 8 rfl) ?_
                    refine lv_iadd hx hbc dX8_block_461 ?_
                    refine wb_iast (k := 7) (f := upd (upd (upd (upd (upd (upd (upd (S.2.1 8) 0 (((S.2.1 8) 0) + (rds (S.2.1 1) (wBlk (S.2.1 9) (S.2.1 7) at0) (S.2.1 8) 64 0))) 1 (((S.2.1 8) 1) + (rds (S.2.1 1) (wBlk (S.2.1 9) (S.2.1 7) at0) (S.2.1 8) 64 1))) 2 (((S.2.1 8) 2) + (rds (S.2.1 1) (wBlk (S.2.1 9) (S.2.1 7) at0) (S.2.1 8) 64 2))) 3 (((S.2.1 8) 3) + (rds (S.2.1 1) (wBlk (S.2.1 9) (S.2.1 7) at0) (S.2.1 8) 64 3))) 4 (((S.2.1 8) 4) + (rds (S.2.1 1) (wBlk (S.2.1 9) (S.2.1 7) at0) (S.2.1 8) 64 4))) 5 (((S.2.1 8) 5) + (rds (S.2.1 1) (wBlk (S.2.1 9) (S.2.1 7) at0) (S.2.1 8) 64 5))) 6 (((S.2.1 8) 6) + (rds (S.2.1 1) (wBlk (S.2.1 9) (S.2.1 7) at0) (S.2.1 8) 64 6))) hx hbc w 8 (by decide) rfl 0 rfl rfl (by omega) (by decide) rfl (sB_sB _ _ _ _) dX8_block_462 (fun H locs w => ?_)
                    exact hend _ _ _ _ _ rfl w dX8_block_463
                  · refine lv_iload hx hbc dX8_block_242 (lv_at hl 9 rfl) ?_
                    refine lv_iload hx hbc dX8_block_244 (lv_at hl 6 rfl) ?_
                    refine lv_bipush (v := nI (6)) hx hbc dX8_block_246 (by decide) ?_
                    refine wb_Si (na := 2) (As := [.int (rds (S.2.1 1) (wBlk (S.2.1 9) (S.2.1 7) at0) (S.2.1 8) t 4), .int (nI (6))]) (rest := [.int (rds (S.2.1 1) (wBlk (S.2.1 9) (S.2.1 7) at0) (S.2.1 8) t 7)]) hx hbc hml hg hown w E0_ok trivial w.1 Sub.none (k_X8_right l D cy ad (sB S 9 (wBlk (S.2.1 9) (S.2.1 7) at0)) (rds (S.2.1 1) (wBlk (S.2.1 9) (S.2.1 7) at0) (S.2.1 8) t 4) 6 ((by decide))) wk_828 wk_9 wk_826 wk_827 ⟨by decide, by decide, by decide⟩ ⟨by rw [hRf]; decide, by rw [hRl]; decide⟩ rfl hl.1 rfl (Nat.le_of_ble_eq_true rfl) dX8_block_248 ⟨Nat.zero_le _, Nat.zero_le _⟩ (fun r S9 H locs hp w => ?_)
                    subst hp
                    refine lv_iload hx hbc dX8_block_251 (lv_at hl 6 rfl) ?_
                    refine lv_bipush (v := nI (11)) hx hbc dX8_block_253 (by decide) ?_
                    refine wb_Si (na := 2) (As := [.int (rds (S.2.1 1) (wBlk (S.2.1 9) (S.2.1 7) at0) (S.2.1 8) t 4), .int (nI (11))]) (rest := [.int (rotr (rds (S.2.1 1) (wBlk (S.2.1 9) (S.2.1 7) at0) (S.2.1 8) t 4) 6), .int (rds (S.2.1 1) (wBlk (S.2.1 9) (S.2.1 7) at0) (S.2.1 8) t 7)]) hx hbc hml hg hown w E0_ok trivial w.1 Sub.none (k_X8_right l D cy ad (sB S 9 (wBlk (S.2.1 9) (S.2.1 7) at0)) (rds (S.2.1 1) (wBlk (S.2.1 9) (S.2.1 7) at0) (S.2.1 8) t 4) 11 ((by decide))) wk_828 wk_9 wk_826 wk_827 ⟨by decide, by decide, by decide⟩ ⟨by rw [hRf]; decide, by rw [hRl]; decide⟩ rfl hl.1 rfl (Nat.le_of_ble_eq_true rfl) dX8_block_255 ⟨Nat.zero_le _, Nat.zero_le _⟩ (fun r S9 H locs hp w => ?_)
                    subst hp
                    refine lv_ixor hx hbc dX8_block_258 ?_
                    refine lv_iload hx hbc dX8_block_259 (lv_at hl 6 rfl) ?_
                    refine lv_bipush (v := nI (25)) hx hbc dX8_block_261 (by decide) ?_
                    refine wb_Si (na := 2) (As := [.int (rds (S.2.1 1) (wBlk (S.2.1 9) (S.2.1 7) at0) (S.2.1 8) t 4), .int (nI (25))]) (rest := [.int ((rotr (rds (S.2.1 1) (wBlk (S.2.1 9) (S.2.1 7) at0) (S.2.1 8) t 4) 6) ^^^ (rotr (rds (S.2.1 1) (wBlk (S.2.1 9) (S.2.1 7) at0) (S.2.1 8) t 4) 11)), .int (rds (S.2.1 1) (wBlk (S.2.1 9) (S.2.1 7) at0) (S.2.1 8) t 7)]) hx hbc hml hg hown w E0_ok trivial w.1 Sub.none (k_X8_right l D cy ad (sB S 9 (wBlk (S.2.1 9) (S.2.1 7) at0)) (rds (S.2.1 1) (wBlk (S.2.1 9) (S.2.1 7) at0) (S.2.1 8) t 4) 25 ((by decide))) wk_828 wk_9 wk_826 wk_827 ⟨by decide, by decide, by decide⟩ ⟨by rw [hRf]; decide, by rw [hRl]; decide⟩ rfl hl.1 rfl (Nat.le_of_ble_eq_true rfl) dX8_block_263 ⟨Nat.zero_le _, Nat.zero_le _⟩ (fun r S9 H locs hp w => ?_)
                    subst hp
                    refine lv_ixor hx hbc dX8_block_266 ?_
                    refine lv_iadd hx hbc dX8_block_267 ?_
                    refine lv_iload hx hbc dX8_block_268 (lv_at hl 6 rfl) ?_
                    refine lv_iload hx hbc dX8_block_270 (lv_at hl 7 rfl) ?_
                    refine lv_iand hx hbc dX8_block_272 ?_
                    refine lv_iload hx hbc dX8_block_273 (lv_at hl 6 rfl) ?_
                    refine lv_iconst (v := (-1)) hx hbc dX8_block_275 (by decide) ?_
                    refine lv_ixor hx hbc dX8_block_276 ?_
                    refine lv_iload hx hbc dX8_block_277 (lv_at hl 8 rfl) ?_
                    refine lv_iand hx hbc dX8_block_279 ?_
                    refine lv_ixor hx hbc dX8_block_280 ?_
                    refine lv_iadd hx hbc dX8_block_281 ?_
                    refine lv_aload_n hx hbc dX8_block_282 rfl (lv_at hl 0 rfl) ?_
                    refine wb_gr (t := 1) hx hbc hg hown w inG_X8 0 (by decide) rfl rfl 1 (by decide) rfl wk_668 dX8_block_283 ?_
                    refine lv_iload hx hbc dX8_block_286 (lv_at hl 10 rfl) ?_
                    refine wb_iald (k := t) (v := (S.2.1 1) t) hx hbc w 1 (by decide) rfl 0 rfl rfl (by omega) (by decide) rfl dX8_block_288 ?_
                    refine lv_iadd hx hbc dX8_block_289 ?_
                    refine lv_aload_n hx hbc dX8_block_290 rfl (lv_at hl 0 rfl) ?_
                    refine wb_gr (t := 9) hx hbc hg hown w inG_X8 0 (by decide) rfl rfl 10 (by decide) rfl wk_677 dX8_block_291 ?_
                    refine lv_iload hx hbc dX8_block_294 (lv_at hl 10 rfl) ?_
                    refine wb_iald (k := t) (v := (wBlk (S.2.1 9) (S.2.1 7) at0) t) hx hbc w 9 (by decide) rfl 0 rfl rfl (by omega) (by decide) rfl dX8_block_296 ?_
                    refine lv_iadd hx hbc dX8_block_297 ?_
                    refine lv_istore (lv' := [(11, .int (((((rds (S.2.1 1) (wBlk (S.2.1 9) (S.2.1 7) at0) (S.2.1 8) t 7) + (((rotr (rds (S.2.1 1) (wBlk (S.2.1 9) (S.2.1 7) at0) (S.2.1 8) t 4) 6) ^^^ (rotr (rds (S.2.1 1) (wBlk (S.2.1 9) (S.2.1 7) at0) (S.2.1 8) t 4) 11)) ^^^ (rotr (rds (S.2.1 1) (wBlk (S.2.1 9) (S.2.1 7) at0) (S.2.1 8) t 4) 25))) + (((rds (S.2.1 1) (wBlk (S.2.1 9) (S.2.1 7) at0) (S.2.1 8) t 4) &&& (rds (S.2.1 1) (wBlk (S.2.1 9) (S.2.1 7) at0) (S.2.1 8) t 5)) ^^^ (((rds (S.2.1 1) (wBlk (S.2.1 9) (S.2.1 7) at0) (S.2.1 8) t 4) ^^^ ((-1))) &&& (rds (S.2.1 1) (wBlk (S.2.1 9) (S.2.1 7) at0) (S.2.1 8) t 6)))) + ((S.2.1 1) t)) + ((wBlk (S.2.1 9) (S.2.1 7) at0) t))), (0, .ref (ad (0))), (1, .int (nI (at0))), (2, .int (rds (S.2.1 1) (wBlk (S.2.1 9) (S.2.1 7) at0) (S.2.1 8) t 0)), (3, .int (rds (S.2.1 1) (wBlk (S.2.1 9) (S.2.1 7) at0) (S.2.1 8) t 1)), (4, .int (rds (S.2.1 1) (wBlk (S.2.1 9) (S.2.1 7) at0) (S.2.1 8) t 2)), (5, .int (rds (S.2.1 1) (wBlk (S.2.1 9) (S.2.1 7) at0) (S.2.1 8) t 3)), (6, .int (rds (S.2.1 1) (wBlk (S.2.1 9) (S.2.1 7) at0) (S.2.1 8) t 4)), (7, .int (rds (S.2.1 1) (wBlk (S.2.1 9) (S.2.1 7) at0) (S.2.1 8) t 5)), (8, .int (rds (S.2.1 1) (wBlk (S.2.1 9) (S.2.1 7) at0) (S.2.1 8) t 6)), (9, .int (rds (S.2.1 1) (wBlk (S.2.1 9) (S.2.1 7) at0) (S.2.1 8) t 7)), (10, .int (nI (t)))]) hx hbc dX8_block_298 hl (by decide) rfl (fun ls hl => ?_)
                    refine lv_iload_n hx hbc dX8_block_300 rfl (lv_at hl 3 rfl) ?_
                    refine lv_iconst (v := nI (2)) hx hbc dX8_block_301 (by decide) ?_
                    refine wb_Si (na := 2) (As := [.int (rds (S.2.1 1) (wBlk (S.2.1 9) (S.2.1 7) at0) (S.2.1 8) t 0), .int (nI (2))]) (rest := []) hx hbc hml hg hown w E0_ok trivial w.1 Sub.none (k_X8_right l D cy ad (sB S 9 (wBlk (S.2.1 9) (S.2.1 7) at0)) (rds (S.2.1 1) (wBlk (S.2.1 9) (S.2.1 7) at0) (S.2.1 8) t 0) 2 ((by decide))) wk_828 wk_9 wk_826 wk_827 ⟨by decide, by decide, by decide⟩ ⟨by rw [hRf]; decide, by rw [hRl]; decide⟩ rfl hl.1 rfl (Nat.le_of_ble_eq_true rfl) dX8_block_302 ⟨Nat.zero_le _, Nat.zero_le _⟩ (fun r S9 H locs hp w => ?_)
                    subst hp
                    refine lv_iload_n hx hbc dX8_block_305 rfl (lv_at hl 3 rfl) ?_
                    refine lv_bipush (v := nI (13)) hx hbc dX8_block_306 (by decide) ?_
                    refine wb_Si (na := 2) (As := [.int (rds (S.2.1 1) (wBlk (S.2.1 9) (S.2.1 7) at0) (S.2.1 8) t 0), .int (nI (13))]) (rest := [.int (rotr (rds (S.2.1 1) (wBlk (S.2.1 9) (S.2.1 7) at0) (S.2.1 8) t 0) 2)]) hx hbc hml hg hown w E0_ok trivial w.1 Sub.none (k_X8_right l D cy ad (sB S 9 (wBlk (S.2.1 9) (S.2.1 7) at0)) (rds (S.2.1 1) (wBlk (S.2.1 9) (S.2.1 7) at0) (S.2.1 8) t 0) 13 ((by decide))) wk_828 wk_9 wk_826 wk_827 ⟨by decide, by decide, by decide⟩ ⟨by rw [hRf]; decide, by rw [hRl]; decide⟩ rfl hl.1 rfl (Nat.le_of_ble_eq_true rfl) dX8_block_308 ⟨Nat.zero_le _, Nat.zero_le _⟩ (fun r S9 H locs hp w => ?_)
                    subst hp
                    refine lv_ixor hx hbc dX8_block_311 ?_
                    refine lv_iload_n hx hbc dX8_block_312 rfl (lv_at hl 3 rfl) ?_
                    refine lv_bipush (v := nI (22)) hx hbc dX8_block_313 (by decide) ?_
                    refine wb_Si (na := 2) (As := [.int (rds (S.2.1 1) (wBlk (S.2.1 9) (S.2.1 7) at0) (S.2.1 8) t 0), .int (nI (22))]) (rest := [.int ((rotr (rds (S.2.1 1) (wBlk (S.2.1 9) (S.2.1 7) at0) (S.2.1 8) t 0) 2) ^^^ (rotr (rds (S.2.1 1) (wBlk (S.2.1 9) (S.2.1 7) at0) (S.2.1 8) t 0) 13))]) hx hbc hml hg hown w E0_ok trivial w.1 Sub.none (k_X8_right l D cy ad (sB S 9 (wBlk (S.2.1 9) (S.2.1 7) at0)) (rds (S.2.1 1) (wBlk (S.2.1 9) (S.2.1 7) at0) (S.2.1 8) t 0) 22 ((by decide))) wk_828 wk_9 wk_826 wk_827 ⟨by decide, by decide, by decide⟩ ⟨by rw [hRf]; decide, by rw [hRl]; decide⟩ rfl hl.1 rfl (Nat.le_of_ble_eq_true rfl) dX8_block_315 ⟨Nat.zero_le _, Nat.zero_le _⟩ (fun r S9 H locs hp w => ?_)
                    subst hp
                    refine lv_ixor hx hbc dX8_block_318 ?_
                    refine lv_iload_n hx hbc dX8_block_319 rfl (lv_at hl 3 rfl) ?_
                    refine lv_iload_n hx hbc dX8_block_320 rfl (lv_at hl 4 rfl) ?_
                    refine lv_iand hx hbc dX8_block_321 ?_
                    refine lv_iload_n hx hbc dX8_block_322 rfl (lv_at hl 3 rfl) ?_
                    refine lv_iload hx hbc dX8_block_323 (lv_at hl 5 rfl) ?_
                    refine lv_iand hx hbc dX8_block_325 ?_
                    refine lv_ixor hx hbc dX8_block_326 ?_
                    refine lv_iload_n hx hbc dX8_block_327 rfl (lv_at hl 4 rfl) ?_
                    refine lv_iload hx hbc dX8_block_328 (lv_at hl 5 rfl) ?_
                    refine lv_iand hx hbc dX8_block_330 ?_
                    refine lv_ixor hx hbc dX8_block_331 ?_
                    refine lv_iadd hx hbc dX8_block_332 ?_
                    refine lv_istore (lv' := [(12, .int ((((rotr (rds (S.2.1 1) (wBlk (S.2.1 9) (S.2.1 7) at0) (S.2.1 8) t 0) 2) ^^^ (rotr (rds (S.2.1 1) (wBlk (S.2.1 9) (S.2.1 7) at0) (S.2.1 8) t 0) 13)) ^^^ (rotr (rds (S.2.1 1) (wBlk (S.2.1 9) (S.2.1 7) at0) (S.2.1 8) t 0) 22)) + ((((rds (S.2.1 1) (wBlk (S.2.1 9) (S.2.1 7) at0) (S.2.1 8) t 0) &&& (rds (S.2.1 1) (wBlk (S.2.1 9) (S.2.1 7) at0) (S.2.1 8) t 1)) ^^^ ((rds (S.2.1 1) (wBlk (S.2.1 9) (S.2.1 7) at0) (S.2.1 8) t 0) &&& (rds (S.2.1 1) (wBlk (S.2.1 9) (S.2.1 7) at0) (S.2.1 8) t 2))) ^^^ ((rds (S.2.1 1) (wBlk (S.2.1 9) (S.2.1 7) at0) (S.2.1 8) t 1) &&& (rds (S.2.1 1) (wBlk (S.2.1 9) (S.2.1 7) at0) (S.2.1 8) t 2))))), (11, .int (((((rds (S.2.1 1) (wBlk (S.2.1 9) (S.2.1 7) at0) (S.2.1 8) t 7) + (((rotr (rds (S.2.1 1) (wBlk (S.2.1 9) (S.2.1 7) at0) (S.2.1 8) t 4) 6) ^^^ (rotr (rds (S.2.1 1) (wBlk (S.2.1 9) (S.2.1 7) at0) (S.2.1 8) t 4) 11)) ^^^ (rotr (rds (S.2.1 1) (wBlk (S.2.1 9) (S.2.1 7) at0) (S.2.1 8) t 4) 25))) + (((rds (S.2.1 1) (wBlk (S.2.1 9) (S.2.1 7) at0) (S.2.1 8) t 4) &&& (rds (S.2.1 1) (wBlk (S.2.1 9) (S.2.1 7) at0) (S.2.1 8) t 5)) ^^^ (((rds (S.2.1 1) (wBlk (S.2.1 9) (S.2.1 7) at0) (S.2.1 8) t 4) ^^^ ((-1))) &&& (rds (S.2.1 1) (wBlk (S.2.1 9) (S.2.1 7) at0) (S.2.1 8) t 6)))) + ((S.2.1 1) t)) + ((wBlk (S.2.1 9) (S.2.1 7) at0) t))), (0, .ref (ad (0))), (1, .int (nI (at0))), (2, .int (rds (S.2.1 1) (wBlk (S.2.1 9) (S.2.1 7) at0) (S.2.1 8) t 0)), (3, .int (rds (S.2.1 1) (wBlk (S.2.1 9) (S.2.1 7) at0) (S.2.1 8) t 1)), (4, .int (rds (S.2.1 1) (wBlk (S.2.1 9) (S.2.1 7) at0) (S.2.1 8) t 2)), (5, .int (rds (S.2.1 1) (wBlk (S.2.1 9) (S.2.1 7) at0) (S.2.1 8) t 3)), (6, .int (rds (S.2.1 1) (wBlk (S.2.1 9) (S.2.1 7) at0) (S.2.1 8) t 4)), (7, .int (rds (S.2.1 1) (wBlk (S.2.1 9) (S.2.1 7) at0) (S.2.1 8) t 5)), (8, .int (rds (S.2.1 1) (wBlk (S.2.1 9) (S.2.1 7) at0) (S.2.1 8) t 6)), (9, .int (rds (S.2.1 1) (wBlk (S.2.1 9) (S.2.1 7) at0) (S.2.1 8) t 7)), (10, .int (nI (t)))]) hx hbc dX8_block_333 hl (by decide) rfl (fun ls hl => ?_)
                    refine lv_iload hx hbc dX8_block_335 (lv_at hl 10 rfl) ?_
                    refine lv_istore (lv' := [(9, .int (rds (S.2.1 1) (wBlk (S.2.1 9) (S.2.1 7) at0) (S.2.1 8) t 6)), (12, .int ((((rotr (rds (S.2.1 1) (wBlk (S.2.1 9) (S.2.1 7) at0) (S.2.1 8) t 0) 2) ^^^ (rotr (rds (S.2.1 1) (wBlk (S.2.1 9) (S.2.1 7) at0) (S.2.1 8) t 0) 13)) ^^^ (rotr (rds (S.2.1 1) (wBlk (S.2.1 9) (S.2.1 7) at0) (S.2.1 8) t 0) 22)) + ((((rds (S.2.1 1) (wBlk (S.2.1 9) (S.2.1 7) at0) (S.2.1 8) t 0) &&& (rds (S.2.1 1) (wBlk (S.2.1 9) (S.2.1 7) at0) (S.2.1 8) t 1)) ^^^ ((rds (S.2.1 1) (wBlk (S.2.1 9) (S.2.1 7) at0) (S.2.1 8) t 0) &&& (rds (S.2.1 1) (wBlk (S.2.1 9) (S.2.1 7) at0) (S.2.1 8) t 2))) ^^^ ((rds (S.2.1 1) (wBlk (S.2.1 9) (S.2.1 7) at0) (S.2.1 8) t 1) &&& (rds (S.2.1 1) (wBlk (S.2.1 9) (S.2.1 7) at0) (S.2.1 8) t 2))))), (11, .int (((((rds (S.2.1 1) (wBlk (S.2.1 9) (S.2.1 7) at0) (S.2.1 8) t 7) + (((rotr (rds (S.2.1 1) (wBlk (S.2.1 9) (S.2.1 7) at0) (S.2.1 8) t 4) 6) ^^^ (rotr (rds (S.2.1 1) (wBlk (S.2.1 9) (S.2.1 7) at0) (S.2.1 8) t 4) 11)) ^^^ (rotr (rds (S.2.1 1) (wBlk (S.2.1 9) (S.2.1 7) at0) (S.2.1 8) t 4) 25))) + (((rds (S.2.1 1) (wBlk (S.2.1 9) (S.2.1 7) at0) (S.2.1 8) t 4) &&& (rds (S.2.1 1) (wBlk (S.2.1 9) (S.2.1 7) at0) (S.2.1 8) t 5)) ^^^ (((rds (S.2.1 1) (wBlk (S.2.1 9) (S.2.1 7) at0) (S.2.1 8) t 4) ^^^ ((-1))) &&& (rds (S.2.1 1) (wBlk (S.2.1 9) (S.2.1 7) at0) (S.2.1 8) t 6)))) + ((S.2.1 1) t)) + ((wBlk (S.2.1 9) (S.2.1 7) at0) t))), (0, .ref (ad (0))), (1, .int (nI (at0))), (2, .int (rds (S.2.1 1) (wBlk (S.2.1 9) (S.2.1 7) at0) (S.2.1 8) t 0)), (3, .int (rds (S.2.1 1) (wBlk (S.2.1 9) (S.2.1 7) at0) (S.2.1 8) t 1)), (4, .int (rds (S.2.1 1) (wBlk (S.2.1 9) (S.2.1 7) at0) (S.2.1 8) t 2)), (5, .int (rds (S.2.1 1) (wBlk (S.2.1 9) (S.2.1 7) at0) (S.2.1 8) t 3)), (6, .int (rds (S.2.1 1) (wBlk (S.2.1 9) (S.2.1 7) at0) (S.2.1 8) t 4)), (7, .int (rds (S.2.1 1) (wBlk (S.2.1 9) (S.2.1 7) at0) (S.2.1 8) t 5)), (8, .int (rds (S.2.1 1) (wBlk (S.2.1 9) (S.2.1 7) at0) (S.2.1 8) t 6)), (10, .int (nI (t)))]) hx hbc dX8_block_337 hl (by decide) rfl (fun ls hl => ?_)
                    refine lv_iload hx hbc dX8_block_339 (lv_at hl 10 rfl) ?_
                    refine lv_istore (lv' := [(8, .int (rds (S.2.1 1) (wBlk (S.2.1 9) (S.2.1 7) at0) (S.2.1 8) t 5)), (9, .int (rds (S.2.1 1) (wBlk (S.2.1 9) (S.2.1 7) at0) (S.2.1 8) t 6)), (12, .int ((((rotr (rds (S.2.1 1) (wBlk (S.2.1 9) (S.2.1 7) at0) (S.2.1 8) t 0) 2) ^^^ (rotr (rds (S.2.1 1) (wBlk (S.2.1 9) (S.2.1 7) at0) (S.2.1 8) t 0) 13)) ^^^ (rotr (rds (S.2.1 1) (wBlk (S.2.1 9) (S.2.1 7) at0) (S.2.1 8) t 0) 22)) + ((((rds (S.2.1 1) (wBlk (S.2.1 9) (S.2.1 7) at0) (S.2.1 8) t 0) &&& (rds (S.2.1 1) (wBlk (S.2.1 9) (S.2.1 7) at0) (S.2.1 8) t 1)) ^^^ ((rds (S.2.1 1) (wBlk (S.2.1 9) (S.2.1 7) at0) (S.2.1 8) t 0) &&& (rds (S.2.1 1) (wBlk (S.2.1 9) (S.2.1 7) at0) (S.2.1 8) t 2))) ^^^ ((rds (S.2.1 1) (wBlk (S.2.1 9) (S.2.1 7) at0) (S.2.1 8) t 1) &&& (rds (S.2.1 1) (wBlk (S.2.1 9) (S.2.1 7) at0) (S.2.1 8) t 2))))), (11, .int (((((rds (S.2.1 1) (wBlk (S.2.1 9) (S.2.1 7) at0) (S.2.1 8) t 7) + (((rotr (rds (S.2.1 1) (wBlk (S.2.1 9) (S.2.1 7) at0) (S.2.1 8) t 4) 6) ^^^ (rotr (rds (S.2.1 1) (wBlk (S.2.1 9) (S.2.1 7) at0) (S.2.1 8) t 4) 11)) ^^^ (rotr (rds (S.2.1 1) (wBlk (S.2.1 9) (S.2.1 7) at0) (S.2.1 8) t 4) 25))) + (((rds (S.2.1 1) (wBlk (S.2.1 9) (S.2.1 7) at0) (S.2.1 8) t 4) &&& (rds (S.2.1 1) (wBlk (S.2.1 9) (S.2.1 7) at0) (S.2.1 8) t 5)) ^^^ (((rds (S.2.1 1) (wBlk (S.2.1 9) (S.2.1 7) at0) (S.2.1 8) t 4) ^^^ ((-1))) &&& (rds (S.2.1 1) (wBlk (S.2.1 9) (S.2.1 7) at0) (S.2.1 8) t 6)))) + ((S.2.1 1) t)) + ((wBlk (S.2.1 9) (S.2.1 7) at0) t))), (0, .ref (ad (0))), (1, .int (nI (at0))), (2, .int (rds (S.2.1 1) (wBlk (S.2.1 9) (S.2.1 7) at0) (S.2.1 8) t 0)), (3, .int (rds (S.2.1 1) (wBlk (S.2.1 9) (S.2.1 7) at0) (S.2.1 8) t 1)), (4, .int (rds (S.2.1 1) (wBlk (S.2.1 9) (S.2.1 7) at0) (S.2.1 8) t 2)), (5, .int (rds (S.2.1 1) (wBlk (S.2.1 9) (S.2.1 7) at0) (S.2.1 8) t 3)), (6, .int (rds (S.2.1 1) (wBlk (S.2.1 9) (S.2.1 7) at0) (S.2.1 8) t 4)), (7, .int (rds (S.2.1 1) (wBlk (S.2.1 9) (S.2.1 7) at0) (S.2.1 8) t 5)), (10, .int (nI (t)))]) hx hbc dX8_block_341 hl (by decide) rfl (fun ls hl => ?_)
                    refine lv_iload hx hbc dX8_block_343 (lv_at hl 10 rfl) ?_
                    refine lv_istore (lv' := [(7, .int (rds (S.2.1 1) (wBlk (S.2.1 9) (S.2.1 7) at0) (S.2.1 8) t 4)), (8, .int (rds (S.2.1 1) (wBlk (S.2.1 9) (S.2.1 7) at0) (S.2.1 8) t 5)), (9, .int (rds (S.2.1 1) (wBlk (S.2.1 9) (S.2.1 7) at0) (S.2.1 8) t 6)), (12, .int ((((rotr (rds (S.2.1 1) (wBlk (S.2.1 9) (S.2.1 7) at0) (S.2.1 8) t 0) 2) ^^^ (rotr (rds (S.2.1 1) (wBlk (S.2.1 9) (S.2.1 7) at0) (S.2.1 8) t 0) 13)) ^^^ (rotr (rds (S.2.1 1) (wBlk (S.2.1 9) (S.2.1 7) at0) (S.2.1 8) t 0) 22)) + ((((rds (S.2.1 1) (wBlk (S.2.1 9) (S.2.1 7) at0) (S.2.1 8) t 0) &&& (rds (S.2.1 1) (wBlk (S.2.1 9) (S.2.1 7) at0) (S.2.1 8) t 1)) ^^^ ((rds (S.2.1 1) (wBlk (S.2.1 9) (S.2.1 7) at0) (S.2.1 8) t 0) &&& (rds (S.2.1 1) (wBlk (S.2.1 9) (S.2.1 7) at0) (S.2.1 8) t 2))) ^^^ ((rds (S.2.1 1) (wBlk (S.2.1 9) (S.2.1 7) at0) (S.2.1 8) t 1) &&& (rds (S.2.1 1) (wBlk (S.2.1 9) (S.2.1 7) at0) (S.2.1 8) t 2))))), (11, .int (((((rds (S.2.1 1) (wBlk (S.2.1 9) (S.2.1 7) at0) (S.2.1 8) t 7) + (((rotr (rds (S.2.1 1) (wBlk (S.2.1 9) (S.2.1 7) at0) (S.2.1 8) t 4) 6) ^^^ (rotr (rds (S.2.1 1) (wBlk (S.2.1 9) (S.2.1 7) at0) (S.2.1 8) t 4) 11)) ^^^ (rotr (rds (S.2.1 1) (wBlk (S.2.1 9) (S.2.1 7) at0) (S.2.1 8) t 4) 25))) + (((rds (S.2.1 1) (wBlk (S.2.1 9) (S.2.1 7) at0) (S.2.1 8) t 4) &&& (rds (S.2.1 1) (wBlk (S.2.1 9) (S.2.1 7) at0) (S.2.1 8) t 5)) ^^^ (((rds (S.2.1 1) (wBlk (S.2.1 9) (S.2.1 7) at0) (S.2.1 8) t 4) ^^^ ((-1))) &&& (rds (S.2.1 1) (wBlk (S.2.1 9) (S.2.1 7) at0) (S.2.1 8) t 6)))) + ((S.2.1 1) t)) + ((wBlk (S.2.1 9) (S.2.1 7) at0) t))), (0, .ref (ad (0))), (1, .int (nI (at0))), (2, .int (rds (S.2.1 1) (wBlk (S.2.1 9) (S.2.1 7) at0) (S.2.1 8) t 0)), (3, .int (rds (S.2.1 1) (wBlk (S.2.1 9) (S.2.1 7) at0) (S.2.1 8) t 1)), (4, .int (rds (S.2.1 1) (wBlk (S.2.1 9) (S.2.1 7) at0) (S.2.1 8) t 2)), (5, .int (rds (S.2.1 1) (wBlk (S.2.1 9) (S.2.1 7) at0) (S.2.1 8) t 3)), (6, .int (rds (S.2.1 1) (wBlk (S.2.1 9) (S.2.1 7) at0) (S.2.1 8) t 4)), (10, .int (nI (t)))]) hx hbc dX8_block_345 hl (by decide) rfl (fun ls hl => ?_)
                    refine lv_iload hx hbc dX8_block_347 (lv_at hl 10 rfl) ?_
                    refine lv_iload hx hbc dX8_block_349 (lv_at hl 4 rfl) ?_
                    refine lv_iadd hx hbc dX8_block_351 ?_
                    refine lv_istore (lv' := [(6, .int ((rds (S.2.1 1) (wBlk (S.2.1 9) (S.2.1 7) at0) (S.2.1 8) t 3) + (((((rds (S.2.1 1) (wBlk (S.2.1 9) (S.2.1 7) at0) (S.2.1 8) t 7) + (((rotr (rds (S.2.1 1) (wBlk (S.2.1 9) (S.2.1 7) at0) (S.2.1 8) t 4) 6) ^^^ (rotr (rds (S.2.1 1) (wBlk (S.2.1 9) (S.2.1 7) at0) (S.2.1 8) t 4) 11)) ^^^ (rotr (rds (S.2.1 1) (wBlk (S.2.1 9) (S.2.1 7) at0) (S.2.1 8) t 4) 25))) + (((rds (S.2.1 1) (wBlk (S.2.1 9) (S.2.1 7) at0) (S.2.1 8) t 4) &&& (rds (S.2.1 1) (wBlk (S.2.1 9) (S.2.1 7) at0) (S.2.1 8) t 5)) ^^^ (((rds (S.2.1 1) (wBlk (S.2.1 9) (S.2.1 7) at0) (S.2.1 8) t 4) ^^^ ((-1))) &&& (rds (S.2.1 1) (wBlk (S.2.1 9) (S.2.1 7) at0) (S.2.1 8) t 6)))) + ((S.2.1 1) t)) + ((wBlk (S.2.1 9) (S.2.1 7) at0) t)))), (7, .int (rds (S.2.1 1) (wBlk (S.2.1 9) (S.2.1 7) at0) (S.2.1 8) t 4)), (8, .int (rds (S.2.1 1) (wBlk (S.2.1 9) (S.2.1 7) at0) (S.2.1 8) t 5)), (9, .int (rds (S.2.1 1) (wBlk (S.2.1 9) (S.2.1 7) at0) (S.2.1 8) t 6)), (12, .int ((((rotr (rds (S.2.1 1) (wBlk (S.2.1 9) (S.2.1 7) at0) (S.2.1 8) t 0) 2) ^^^ (rotr (rds (S.2.1 1) (wBlk (S.2.1 9) (S.2.1 7) at0) (S.2.1 8) t 0) 13)) ^^^ (rotr (rds (S.2.1 1) (wBlk (S.2.1 9) (S.2.1 7) at0) (S.2.1 8) t 0) 22)) + ((((rds (S.2.1 1) (wBlk (S.2.1 9) (S.2.1 7) at0) (S.2.1 8) t 0) &&& (rds (S.2.1 1) (wBlk (S.2.1 9) (S.2.1 7) at0) (S.2.1 8) t 1)) ^^^ ((rds (S.2.1 1) (wBlk (S.2.1 9) (S.2.1 7) at0) (S.2.1 8) t 0) &&& (rds (S.2.1 1) (wBlk (S.2.1 9) (S.2.1 7) at0) (S.2.1 8) t 2))) ^^^ ((rds (S.2.1 1) (wBlk (S.2.1 9) (S.2.1 7) at0) (S.2.1 8) t 1) &&& (rds (S.2.1 1) (wBlk (S.2.1 9) (S.2.1 7) at0) (S.2.1 8) t 2))))), (11, .int (((((rds (S.2.1 1) (wBlk (S.2.1 9) (S.2.1 7) at0) (S.2.1 8) t 7) + (((rotr (rds (S.2.1 1) (wBlk (S.2.1 9) (S.2.1 7) at0) (S.2.1 8) t 4) 6) ^^^ (rotr (rds (S.2.1 1) (wBlk (S.2.1 9) (S.2.1 7) at0) (S.2.1 8) t 4) 11)) ^^^ (rotr (rds (S.2.1 1) (wBlk (S.2.1 9) (S.2.1 7) at0) (S.2.1 8) t 4) 25))) + (((rds (S.2.1 1) (wBlk (S.2.1 9) (S.2.1 7) at0) (S.2.1 8) t 4) &&& (rds (S.2.1 1) (wBlk (S.2.1 9) (S.2.1 7) at0) (S.2.1 8) t 5)) ^^^ (((rds (S.2.1 1) (wBlk (S.2.1 9) (S.2.1 7) at0) (S.2.1 8) t 4) ^^^ ((-1))) &&& (rds (S.2.1 1) (wBlk (S.2.1 9) (S.2.1 7) at0) (S.2.1 8) t 6)))) + ((S.2.1 1) t)) + ((wBlk (S.2.1 9) (S.2.1 7) at0) t))), (0, .ref (ad (0))), (1, .int (nI (at0))), (2, .int (rds (S.2.1 1) (wBlk (S.2.1 9) (S.2.1 7) at0) (S.2.1 8) t 0)), (3, .int (rds (S.2.1 1) (wBlk (S.2.1 9) (S.2.1 7) at0) (S.2.1 8) t 1)), (4, .int (rds (S.2.1 1) (wBlk (S.2.1 9) (S.2.1 7) at0) (S.2.1 8) t 2)), (5, .int (rds (S.2.1 1) (wBlk (S.2.1 9) (S.2.1 7) at0) (S.2.1 8) t 3)), (10, .int (nI (t)))]) hx hbc dX8_block_352 hl (by decide) rfl (fun ls hl => ?_)
                    refine lv_iload hx hbc dX8_block_354 (lv_at hl 10 rfl) ?_
                    refine lv_istore (lv' := [(5, .int (rds (S.2.1 1) (wBlk (S.2.1 9) (S.2.1 7) at0) (S.2.1 8) t 2)), (6, .int ((rds (S.2.1 1) (wBlk (S.2.1 9) (S.2.1 7) at0) (S.2.1 8) t 3) + (((((rds (S.2.1 1) (wBlk (S.2.1 9) (S.2.1 7) at0) (S.2.1 8) t 7) + (((rotr (rds (S.2.1 1) (wBlk (S.2.1 9) (S.2.1 7) at0) (S.2.1 8) t 4) 6) ^^^ (rotr (rds (S.2.1 1) (wBlk (S.2.1 9) (S.2.1 7) at0) (S.2.1 8) t 4) 11)) ^^^ (rotr (rds (S.2.1 1) (wBlk (S.2.1 9) (S.2.1 7) at0) (S.2.1 8) t 4) 25))) + (((rds (S.2.1 1) (wBlk (S.2.1 9) (S.2.1 7) at0) (S.2.1 8) t 4) &&& (rds (S.2.1 1) (wBlk (S.2.1 9) (S.2.1 7) at0) (S.2.1 8) t 5)) ^^^ (((rds (S.2.1 1) (wBlk (S.2.1 9) (S.2.1 7) at0) (S.2.1 8) t 4) ^^^ ((-1))) &&& (rds (S.2.1 1) (wBlk (S.2.1 9) (S.2.1 7) at0) (S.2.1 8) t 6)))) + ((S.2.1 1) t)) + ((wBlk (S.2.1 9) (S.2.1 7) at0) t)))), (7, .int (rds (S.2.1 1) (wBlk (S.2.1 9) (S.2.1 7) at0) (S.2.1 8) t 4)), (8, .int (rds (S.2.1 1) (wBlk (S.2.1 9) (S.2.1 7) at0) (S.2.1 8) t 5)), (9, .int (rds (S.2.1 1) (wBlk (S.2.1 9) (S.2.1 7) at0) (S.2.1 8) t 6)), (12, .int ((((rotr (rds (S.2.1 1) (wBlk (S.2.1 9) (S.2.1 7) at0) (S.2.1 8) t 0) 2) ^^^ (rotr (rds (S.2.1 1) (wBlk (S.2.1 9) (S.2.1 7) at0) (S.2.1 8) t 0) 13)) ^^^ (rotr (rds (S.2.1 1) (wBlk (S.2.1 9) (S.2.1 7) at0) (S.2.1 8) t 0) 22)) + ((((rds (S.2.1 1) (wBlk (S.2.1 9) (S.2.1 7) at0) (S.2.1 8) t 0) &&& (rds (S.2.1 1) (wBlk (S.2.1 9) (S.2.1 7) at0) (S.2.1 8) t 1)) ^^^ ((rds (S.2.1 1) (wBlk (S.2.1 9) (S.2.1 7) at0) (S.2.1 8) t 0) &&& (rds (S.2.1 1) (wBlk (S.2.1 9) (S.2.1 7) at0) (S.2.1 8) t 2))) ^^^ ((rds (S.2.1 1) (wBlk (S.2.1 9) (S.2.1 7) at0) (S.2.1 8) t 1) &&& (rds (S.2.1 1) (wBlk (S.2.1 9) (S.2.1 7) at0) (S.2.1 8) t 2))))), (11, .int (((((rds (S.2.1 1) (wBlk (S.2.1 9) (S.2.1 7) at0) (S.2.1 8) t 7) + (((rotr (rds (S.2.1 1) (wBlk (S.2.1 9) (S.2.1 7) at0) (S.2.1 8) t 4) 6) ^^^ (rotr (rds (S.2.1 1) (wBlk (S.2.1 9) (S.2.1 7) at0) (S.2.1 8) t 4) 11)) ^^^ (rotr (rds (S.2.1 1) (wBlk (S.2.1 9) (S.2.1 7) at0) (S.2.1 8) t 4) 25))) + (((rds (S.2.1 1) (wBlk (S.2.1 9) (S.2.1 7) at0) (S.2.1 8) t 4) &&& (rds (S.2.1 1) (wBlk (S.2.1 9) (S.2.1 7) at0) (S.2.1 8) t 5)) ^^^ (((rds (S.2.1 1) (wBlk (S.2.1 9) (S.2.1 7) at0) (S.2.1 8) t 4) ^^^ ((-1))) &&& (rds (S.2.1 1) (wBlk (S.2.1 9) (S.2.1 7) at0) (S.2.1 8) t 6)))) + ((S.2.1 1) t)) + ((wBlk (S.2.1 9) (S.2.1 7) at0) t))), (0, .ref (ad (0))), (1, .int (nI (at0))), (2, .int (rds (S.2.1 1) (wBlk (S.2.1 9) (S.2.1 7) at0) (S.2.1 8) t 0)), (3, .int (rds (S.2.1 1) (wBlk (S.2.1 9) (S.2.1 7) at0) (S.2.1 8) t 1)), (4, .int (rds (S.2.1 1) (wBlk (S.2.1 9) (S.2.1 7) at0) (S.2.1 8) t 2)), (10, .int (nI (t)))]) hx hbc dX8_block_356 hl (by decide) rfl (fun ls hl => ?_)
                    refine lv_iload_n hx hbc dX8_block_358 rfl (lv_at hl 10 rfl) ?_
                    refine lv_istore (lv' := [(4, .int (rds (S.2.1 1) (wBlk (S.2.1 9) (S.2.1 7) at0) (S.2.1 8) t 1)), (5, .int (rds (S.2.1 1) (wBlk (S.2.1 9) (S.2.1 7) at0) (S.2.1 8) t 2)), (6, .int ((rds (S.2.1 1) (wBlk (S.2.1 9) (S.2.1 7) at0) (S.2.1 8) t 3) + (((((rds (S.2.1 1) (wBlk (S.2.1 9) (S.2.1 7) at0) (S.2.1 8) t 7) + (((rotr (rds (S.2.1 1) (wBlk (S.2.1 9) (S.2.1 7) at0) (S.2.1 8) t 4) 6) ^^^ (rotr (rds (S.2.1 1) (wBlk (S.2.1 9) (S.2.1 7) at0) (S.2.1 8) t 4) 11)) ^^^ (rotr (rds (S.2.1 1) (wBlk (S.2.1 9) (S.2.1 7) at0) (S.2.1 8) t 4) 25))) + (((rds (S.2.1 1) (wBlk (S.2.1 9) (S.2.1 7) at0) (S.2.1 8) t 4) &&& (rds (S.2.1 1) (wBlk (S.2.1 9) (S.2.1 7) at0) (S.2.1 8) t 5)) ^^^ (((rds (S.2.1 1) (wBlk (S.2.1 9) (S.2.1 7) at0) (S.2.1 8) t 4) ^^^ ((-1))) &&& (rds (S.2.1 1) (wBlk (S.2.1 9) (S.2.1 7) at0) (S.2.1 8) t 6)))) + ((S.2.1 1) t)) + ((wBlk (S.2.1 9) (S.2.1 7) at0) t)))), (7, .int (rds (S.2.1 1) (wBlk (S.2.1 9) (S.2.1 7) at0) (S.2.1 8) t 4)), (8, .int (rds (S.2.1 1) (wBlk (S.2.1 9) (S.2.1 7) at0) (S.2.1 8) t 5)), (9, .int (rds (S.2.1 1) (wBlk (S.2.1 9) (S.2.1 7) at0) (S.2.1 8) t 6)), (12, .int ((((rotr (rds (S.2.1 1) (wBlk (S.2.1 9) (S.2.1 7) at0) (S.2.1 8) t 0) 2) ^^^ (rotr (rds (S.2.1 1) (wBlk (S.2.1 9) (S.2.1 7) at0) (S.2.1 8) t 0) 13)) ^^^ (rotr (rds (S.2.1 1) (wBlk (S.2.1 9) (S.2.1 7) at0) (S.2.1 8) t 0) 22)) + ((((rds (S.2.1 1) (wBlk (S.2.1 9) (S.2.1 7) at0) (S.2.1 8) t 0) &&& (rds (S.2.1 1) (wBlk (S.2.1 9) (S.2.1 7) at0) (S.2.1 8) t 1)) ^^^ ((rds (S.2.1 1) (wBlk (S.2.1 9) (S.2.1 7) at0) (S.2.1 8) t 0) &&& (rds (S.2.1 1) (wBlk (S.2.1 9) (S.2.1 7) at0) (S.2.1 8) t 2))) ^^^ ((rds (S.2.1 1) (wBlk (S.2.1 9) (S.2.1 7) at0) (S.2.1 8) t 1) &&& (rds (S.2.1 1) (wBlk (S.2.1 9) (S.2.1 7) at0) (S.2.1 8) t 2))))), (11, .int (((((rds (S.2.1 1) (wBlk (S.2.1 9) (S.2.1 7) at0) (S.2.1 8) t 7) + (((rotr (rds (S.2.1 1) (wBlk (S.2.1 9) (S.2.1 7) at0) (S.2.1 8) t 4) 6) ^^^ (rotr (rds (S.2.1 1) (wBlk (S.2.1 9) (S.2.1 7) at0) (S.2.1 8) t 4) 11)) ^^^ (rotr (rds (S.2.1 1) (wBlk (S.2.1 9) (S.2.1 7) at0) (S.2.1 8) t 4) 25))) + (((rds (S.2.1 1) (wBlk (S.2.1 9) (S.2.1 7) at0) (S.2.1 8) t 4) &&& (rds (S.2.1 1) (wBlk (S.2.1 9) (S.2.1 7) at0) (S.2.1 8) t 5)) ^^^ (((rds (S.2.1 1) (wBlk (S.2.1 9) (S.2.1 7) at0) (S.2.1 8) t 4) ^^^ ((-1))) &&& (rds (S.2.1 1) (wBlk (S.2.1 9) (S.2.1 7) at0) (S.2.1 8) t 6)))) + ((S.2.1 1) t)) + ((wBlk (S.2.1 9) (S.2.1 7) at0) t))), (0, .ref (ad (0))), (1, .int (nI (at0))), (2, .int (rds (S.2.1 1) (wBlk (S.2.1 9) (S.2.1 7) at0) (S.2.1 8) t 0)), (3, .int (rds (S.2.1 1) (wBlk (S.2.1 9) (S.2.1 7) at0) (S.2.1 8) t 1)), (10, .int (nI (t)))]) hx hbc dX8_block_359 hl (by decide) rfl (fun ls hl => ?_)
                    refine lv_iload_n hx hbc dX8_block_361 rfl (lv_at hl 10 rfl) ?_
                    refine lv_istore_n (lv' := [(3, .int (rds (S.2.1 1) (wBlk (S.2.1 9) (S.2.1 7) at0) (S.2.1 8) t 0)), (4, .int (rds (S.2.1 1) (wBlk (S.2.1 9) (S.2.1 7) at0) (S.2.1 8) t 1)), (5, .int (rds (S.2.1 1) (wBlk (S.2.1 9) (S.2.1 7) at0) (S.2.1 8) t 2)), (6, .int ((rds (S.2.1 1) (wBlk (S.2.1 9) (S.2.1 7) at0) (S.2.1 8) t 3) + (((((rds (S.2.1 1) (wBlk (S.2.1 9) (S.2.1 7) at0) (S.2.1 8) t 7) + (((rotr (rds (S.2.1 1) (wBlk (S.2.1 9) (S.2.1 7) at0) (S.2.1 8) t 4) 6) ^^^ (rotr (rds (S.2.1 1) (wBlk (S.2.1 9) (S.2.1 7) at0) (S.2.1 8) t 4) 11)) ^^^ (rotr (rds (S.2.1 1) (wBlk (S.2.1 9) (S.2.1 7) at0) (S.2.1 8) t 4) 25))) + (((rds (S.2.1 1) (wBlk (S.2.1 9) (S.2.1 7) at0) (S.2.1 8) t 4) &&& (rds (S.2.1 1) (wBlk (S.2.1 9) (S.2.1 7) at0) (S.2.1 8) t 5)) ^^^ (((rds (S.2.1 1) (wBlk (S.2.1 9) (S.2.1 7) at0) (S.2.1 8) t 4) ^^^ ((-1))) &&& (rds (S.2.1 1) (wBlk (S.2.1 9) (S.2.1 7) at0) (S.2.1 8) t 6)))) + ((S.2.1 1) t)) + ((wBlk (S.2.1 9) (S.2.1 7) at0) t)))), (7, .int (rds (S.2.1 1) (wBlk (S.2.1 9) (S.2.1 7) at0) (S.2.1 8) t 4)), (8, .int (rds (S.2.1 1) (wBlk (S.2.1 9) (S.2.1 7) at0) (S.2.1 8) t 5)), (9, .int (rds (S.2.1 1) (wBlk (S.2.1 9) (S.2.1 7) at0) (S.2.1 8) t 6)), (12, .int ((((rotr (rds (S.2.1 1) (wBlk (S.2.1 9) (S.2.1 7) at0) (S.2.1 8) t 0) 2) ^^^ (rotr (rds (S.2.1 1) (wBlk (S.2.1 9) (S.2.1 7) at0) (S.2.1 8) t 0) 13)) ^^^ (rotr (rds (S.2.1 1) (wBlk (S.2.1 9) (S.2.1 7) at0) (S.2.1 8) t 0) 22)) + ((((rds (S.2.1 1) (wBlk (S.2.1 9) (S.2.1 7) at0) (S.2.1 8) t 0) &&& (rds (S.2.1 1) (wBlk (S.2.1 9) (S.2.1 7) at0) (S.2.1 8) t 1)) ^^^ ((rds (S.2.1 1) (wBlk (S.2.1 9) (S.2.1 7) at0) (S.2.1 8) t 0) &&& (rds (S.2.1 1) (wBlk (S.2.1 9) (S.2.1 7) at0) (S.2.1 8) t 2))) ^^^ ((rds (S.2.1 1) (wBlk (S.2.1 9) (S.2.1 7) at0) (S.2.1 8) t 1) &&& (rds (S.2.1 1) (wBlk (S.2.1 9) (S.2.1 7) at0) (S.2.1 8) t 2))))), (11, .int (((((rds (S.2.1 1) (wBlk (S.2.1 9) (S.2.1 7) at0) (S.2.1 8) t 7) + (((rotr (rds (S.2.1 1) (wBlk (S.2.1 9) (S.2.1 7) at0) (S.2.1 8) t 4) 6) ^^^ (rotr (rds (S.2.1 1) (wBlk (S.2.1 9) (S.2.1 7) at0) (S.2.1 8) t 4) 11)) ^^^ (rotr (rds (S.2.1 1) (wBlk (S.2.1 9) (S.2.1 7) at0) (S.2.1 8) t 4) 25))) + (((rds (S.2.1 1) (wBlk (S.2.1 9) (S.2.1 7) at0) (S.2.1 8) t 4) &&& (rds (S.2.1 1) (wBlk (S.2.1 9) (S.2.1 7) at0) (S.2.1 8) t 5)) ^^^ (((rds (S.2.1 1) (wBlk (S.2.1 9) (S.2.1 7) at0) (S.2.1 8) t 4) ^^^ ((-1))) &&& (rds (S.2.1 1) (wBlk (S.2.1 9) (S.2.1 7) at0) (S.2.1 8) t 6)))) + ((S.2.1 1) t)) + ((wBlk (S.2.1 9) (S.2.1 7) at0) t))), (0, .ref (ad (0))), (1, .int (nI (at0))), (2, .int (rds (S.2.1 1) (wBlk (S.2.1 9) (S.2.1 7) at0) (S.2.1 8) t 0)), (10, .int (nI (t)))]) hx hbc dX8_block_362 rfl hl (by decide) rfl (fun ls hl => ?_)
                    refine lv_iload hx hbc dX8_block_363 (lv_at hl 8 rfl) ?_
                    refine lv_iload hx hbc dX8_block_365 (lv_at hl 7 rfl) ?_
                    refine lv_iadd hx hbc dX8_block_367 ?_
                    refine lv_istore_n (lv' := [(2, .int ((((((rds (S.2.1 1) (wBlk (S.2.1 9) (S.2.1 7) at0) (S.2.1 8) t 7) + (((rotr (rds (S.2.1 1) (wBlk (S.2.1 9) (S.2.1 7) at0) (S.2.1 8) t 4) 6) ^^^ (rotr (rds (S.2.1 1) (wBlk (S.2.1 9) (S.2.1 7) at0) (S.2.1 8) t 4) 11)) ^^^ (rotr (rds (S.2.1 1) (wBlk (S.2.1 9) (S.2.1 7) at0) (S.2.1 8) t 4) 25))) + (((rds (S.2.1 1) (wBlk (S.2.1 9) (S.2.1 7) at0) (S.2.1 8) t 4) &&& (rds (S.2.1 1) (wBlk (S.2.1 9) (S.2.1 7) at0) (S.2.1 8) t 5)) ^^^ (((rds (S.2.1 1) (wBlk (S.2.1 9) (S.2.1 7) at0) (S.2.1 8) t 4) ^^^ ((-1))) &&& (rds (S.2.1 1) (wBlk (S.2.1 9) (S.2.1 7) at0) (S.2.1 8) t 6)))) + ((S.2.1 1) t)) + ((wBlk (S.2.1 9) (S.2.1 7) at0) t)) + ((((rotr (rds (S.2.1 1) (wBlk (S.2.1 9) (S.2.1 7) at0) (S.2.1 8) t 0) 2) ^^^ (rotr (rds (S.2.1 1) (wBlk (S.2.1 9) (S.2.1 7) at0) (S.2.1 8) t 0) 13)) ^^^ (rotr (rds (S.2.1 1) (wBlk (S.2.1 9) (S.2.1 7) at0) (S.2.1 8) t 0) 22)) + ((((rds (S.2.1 1) (wBlk (S.2.1 9) (S.2.1 7) at0) (S.2.1 8) t 0) &&& (rds (S.2.1 1) (wBlk (S.2.1 9) (S.2.1 7) at0) (S.2.1 8) t 1)) ^^^ ((rds (S.2.1 1) (wBlk (S.2.1 9) (S.2.1 7) at0) (S.2.1 8) t 0) &&& (rds (S.2.1 1) (wBlk (S.2.1 9) (S.2.1 7) at0) (S.2.1 8) t 2))) ^^^ ((rds (S.2.1 1) (wBlk (S.2.1 9) (S.2.1 7) at0) (S.2.1 8) t 1) &&& (rds (S.2.1 1) (wBlk (S.2.1 9) (S.2.1 7) at0) (S.2.1 8) t 2)))))), (3, .int (rds (S.2.1 1) (wBlk (S.2.1 9) (S.2.1 7) at0) (S.2.1 8) t 0)), (4, .int (rds (S.2.1 1) (wBlk (S.2.1 9) (S.2.1 7) at0) (S.2.1 8) t 1)), (5, .int (rds (S.2.1 1) (wBlk (S.2.1 9) (S.2.1 7) at0) (S.2.1 8) t 2)), (6, .int ((rds (S.2.1 1) (wBlk (S.2.1 9) (S.2.1 7) at0) (S.2.1 8) t 3) + (((((rds (S.2.1 1) (wBlk (S.2.1 9) (S.2.1 7) at0) (S.2.1 8) t 7) + (((rotr (rds (S.2.1 1) (wBlk (S.2.1 9) (S.2.1 7) at0) (S.2.1 8) t 4) 6) ^^^ (rotr (rds (S.2.1 1) (wBlk (S.2.1 9) (S.2.1 7) at0) (S.2.1 8) t 4) 11)) ^^^ (rotr (rds (S.2.1 1) (wBlk (S.2.1 9) (S.2.1 7) at0) (S.2.1 8) t 4) 25))) + (((rds (S.2.1 1) (wBlk (S.2.1 9) (S.2.1 7) at0) (S.2.1 8) t 4) &&& (rds (S.2.1 1) (wBlk (S.2.1 9) (S.2.1 7) at0) (S.2.1 8) t 5)) ^^^ (((rds (S.2.1 1) (wBlk (S.2.1 9) (S.2.1 7) at0) (S.2.1 8) t 4) ^^^ ((-1))) &&& (rds (S.2.1 1) (wBlk (S.2.1 9) (S.2.1 7) at0) (S.2.1 8) t 6)))) + ((S.2.1 1) t)) + ((wBlk (S.2.1 9) (S.2.1 7) at0) t)))), (7, .int (rds (S.2.1 1) (wBlk (S.2.1 9) (S.2.1 7) at0) (S.2.1 8) t 4)), (8, .int (rds (S.2.1 1) (wBlk (S.2.1 9) (S.2.1 7) at0) (S.2.1 8) t 5)), (9, .int (rds (S.2.1 1) (wBlk (S.2.1 9) (S.2.1 7) at0) (S.2.1 8) t 6)), (12, .int ((((rotr (rds (S.2.1 1) (wBlk (S.2.1 9) (S.2.1 7) at0) (S.2.1 8) t 0) 2) ^^^ (rotr (rds (S.2.1 1) (wBlk (S.2.1 9) (S.2.1 7) at0) (S.2.1 8) t 0) 13)) ^^^ (rotr (rds (S.2.1 1) (wBlk (S.2.1 9) (S.2.1 7) at0) (S.2.1 8) t 0) 22)) + ((((rds (S.2.1 1) (wBlk (S.2.1 9) (S.2.1 7) at0) (S.2.1 8) t 0) &&& (rds (S.2.1 1) (wBlk (S.2.1 9) (S.2.1 7) at0) (S.2.1 8) t 1)) ^^^ ((rds (S.2.1 1) (wBlk (S.2.1 9) (S.2.1 7) at0) (S.2.1 8) t 0) &&& (rds (S.2.1 1) (wBlk (S.2.1 9) (S.2.1 7) at0) (S.2.1 8) t 2))) ^^^ ((rds (S.2.1 1) (wBlk (S.2.1 9) (S.2.1 7) at0) (S.2.1 8) t 1) &&& (rds (S.2.1 1) (wBlk (S.2.1 9) (S.2.1 7) at0) (S.2.1 8) t 2))))), (11, .int (((((rds (S.2.1 1) (wBlk (S.2.1 9) (S.2.1 7) at0) (S.2.1 8) t 7) + (((rotr (rds (S.2.1 1) (wBlk (S.2.1 9) (S.2.1 7) at0) (S.2.1 8) t 4) 6) ^^^ (rotr (rds (S.2.1 1) (wBlk (S.2.1 9) (S.2.1 7) at0) (S.2.1 8) t 4) 11)) ^^^ (rotr (rds (S.2.1 1) (wBlk (S.2.1 9) (S.2.1 7) at0) (S.2.1 8) t 4) 25))) + (((rds (S.2.1 1) (wBlk (S.2.1 9) (S.2.1 7) at0) (S.2.1 8) t 4) &&& (rds (S.2.1 1) (wBlk (S.2.1 9) (S.2.1 7) at0) (S.2.1 8) t 5)) ^^^ (((rds (S.2.1 1) (wBlk (S.2.1 9) (S.2.1 7) at0) (S.2.1 8) t 4) ^^^ ((-1))) &&& (rds (S.2.1 1) (wBlk (S.2.1 9) (S.2.1 7) at0) (S.2.1 8) t 6)))) + ((S.2.1 1) t)) + ((wBlk (S.2.1 9) (S.2.1 7) at0) t))), (0, .ref (ad (0))), (1, .int (nI (at0))), (10, .int (nI (t)))]) hx hbc dX8_block_368 rfl hl (by decide) rfl (fun ls hl => ?_)
                    refine lv_iinc (v := nI (t + 1)) (lv' := [(10, .int (nI (t + 1))), (2, .int ((((((rds (S.2.1 1) (wBlk (S.2.1 9) (S.2.1 7) at0) (S.2.1 8) t 7) + (((rotr (rds (S.2.1 1) (wBlk (S.2.1 9) (S.2.1 7) at0) (S.2.1 8) t 4) 6) ^^^ (rotr (rds (S.2.1 1) (wBlk (S.2.1 9) (S.2.1 7) at0) (S.2.1 8) t 4) 11)) ^^^ (rotr (rds (S.2.1 1) (wBlk (S.2.1 9) (S.2.1 7) at0) (S.2.1 8) t 4) 25))) + (((rds (S.2.1 1) (wBlk (S.2.1 9) (S.2.1 7) at0) (S.2.1 8) t 4) &&& (rds (S.2.1 1) (wBlk (S.2.1 9) (S.2.1 7) at0) (S.2.1 8) t 5)) ^^^ (((rds (S.2.1 1) (wBlk (S.2.1 9) (S.2.1 7) at0) (S.2.1 8) t 4) ^^^ ((-1))) &&& (rds (S.2.1 1) (wBlk (S.2.1 9) (S.2.1 7) at0) (S.2.1 8) t 6)))) + ((S.2.1 1) t)) + ((wBlk (S.2.1 9) (S.2.1 7) at0) t)) + ((((rotr (rds (S.2.1 1) (wBlk (S.2.1 9) (S.2.1 7) at0) (S.2.1 8) t 0) 2) ^^^ (rotr (rds (S.2.1 1) (wBlk (S.2.1 9) (S.2.1 7) at0) (S.2.1 8) t 0) 13)) ^^^ (rotr (rds (S.2.1 1) (wBlk (S.2.1 9) (S.2.1 7) at0) (S.2.1 8) t 0) 22)) + ((((rds (S.2.1 1) (wBlk (S.2.1 9) (S.2.1 7) at0) (S.2.1 8) t 0) &&& (rds (S.2.1 1) (wBlk (S.2.1 9) (S.2.1 7) at0) (S.2.1 8) t 1)) ^^^ ((rds (S.2.1 1) (wBlk (S.2.1 9) (S.2.1 7) at0) (S.2.1 8) t 0) &&& (rds (S.2.1 1) (wBlk (S.2.1 9) (S.2.1 7) at0) (S.2.1 8) t 2))) ^^^ ((rds (S.2.1 1) (wBlk (S.2.1 9) (S.2.1 7) at0) (S.2.1 8) t 1) &&& (rds (S.2.1 1) (wBlk (S.2.1 9) (S.2.1 7) at0) (S.2.1 8) t 2)))))), (3, .int (rds (S.2.1 1) (wBlk (S.2.1 9) (S.2.1 7) at0) (S.2.1 8) t 0)), (4, .int (rds (S.2.1 1) (wBlk (S.2.1 9) (S.2.1 7) at0) (S.2.1 8) t 1)), (5, .int (rds (S.2.1 1) (wBlk (S.2.1 9) (S.2.1 7) at0) (S.2.1 8) t 2)), (6, .int ((rds (S.2.1 1) (wBlk (S.2.1 9) (S.2.1 7) at0) (S.2.1 8) t 3) + (((((rds (S.2.1 1) (wBlk (S.2.1 9) (S.2.1 7) at0) (S.2.1 8) t 7) + (((rotr (rds (S.2.1 1) (wBlk (S.2.1 9) (S.2.1 7) at0) (S.2.1 8) t 4) 6) ^^^ (rotr (rds (S.2.1 1) (wBlk (S.2.1 9) (S.2.1 7) at0) (S.2.1 8) t 4) 11)) ^^^ (rotr (rds (S.2.1 1) (wBlk (S.2.1 9) (S.2.1 7) at0) (S.2.1 8) t 4) 25))) + (((rds (S.2.1 1) (wBlk (S.2.1 9) (S.2.1 7) at0) (S.2.1 8) t 4) &&& (rds (S.2.1 1) (wBlk (S.2.1 9) (S.2.1 7) at0) (S.2.1 8) t 5)) ^^^ (((rds (S.2.1 1) (wBlk (S.2.1 9) (S.2.1 7) at0) (S.2.1 8) t 4) ^^^ ((-1))) &&& (rds (S.2.1 1) (wBlk (S.2.1 9) (S.2.1 7) at0) (S.2.1 8) t 6)))) + ((S.2.1 1) t)) + ((wBlk (S.2.1 9) (S.2.1 7) at0) t)))), (7, .int (rds (S.2.1 1) (wBlk (S.2.1 9) (S.2.1 7) at0) (S.2.1 8) t 4)), (8, .int (rds (S.2.1 1) (wBlk (S.2.1 9) (S.2.1 7) at0) (S.2.1 8) t 5)), (9, .int (rds (S.2.1 1) (wBlk (S.2.1 9) (S.2.1 7) at0) (S.2.1 8) t 6)), (12, .int ((((rotr (rds (S.2.1 1) (wBlk (S.2.1 9) (S.2.1 7) at0) (S.2.1 8) t 0) 2) ^^^ (rotr (rds (S.2.1 1) (wBlk (S.2.1 9) (S.2.1 7) at0) (S.2.1 8) t 0) 13)) ^^^ (rotr (rds (S.2.1 1) (wBlk (S.2.1 9) (S.2.1 7) at0) (S.2.1 8) t 0) 22)) + ((((rds (S.2.1 1) (wBlk (S.2.1 9) (S.2.1 7) at0) (S.2.1 8) t 0) &&& (rds (S.2.1 1) (wBlk (S.2.1 9) (S.2.1 7) at0) (S.2.1 8) t 1)) ^^^ ((rds (S.2.1 1) (wBlk (S.2.1 9) (S.2.1 7) at0) (S.2.1 8) t 0) &&& (rds (S.2.1 1) (wBlk (S.2.1 9) (S.2.1 7) at0) (S.2.1 8) t 2))) ^^^ ((rds (S.2.1 1) (wBlk (S.2.1 9) (S.2.1 7) at0) (S.2.1 8) t 1) &&& (rds (S.2.1 1) (wBlk (S.2.1 9) (S.2.1 7) at0) (S.2.1 8) t 2))))), (11, .int (((((rds (S.2.1 1) (wBlk (S.2.1 9) (S.2.1 7) at0) (S.2.1 8) t 7) + (((rotr (rds (S.2.1 1) (wBlk (S.2.1 9) (S.2.1 7) at0) (S.2.1 8) t 4) 6) ^^^ (rotr (rds (S.2.1 1) (wBlk (S.2.1 9) (S.2.1 7) at0) (S.2.1 8) t 4) 11)) ^^^ (rotr (rds (S.2.1 1) (wBlk (S.2.1 9) (S.2.1 7) at0) (S.2.1 8) t 4) 25))) + (((rds (S.2.1 1) (wBlk (S.2.1 9) (S.2.1 7) at0) (S.2.1 8) t 4) &&& (rds (S.2.1 1) (wBlk (S.2.1 9) (S.2.1 7) at0) (S.2.1 8) t 5)) ^^^ (((rds (S.2.1 1) (wBlk (S.2.1 9) (S.2.1 7) at0) (S.2.1 8) t 4) ^^^ ((-1))) &&& (rds (S.2.1 1) (wBlk (S.2.1 9) (S.2.1 7) at0) (S.2.1 8) t 6)))) + ((S.2.1 1) t)) + ((wBlk (S.2.1 9) (S.2.1 7) at0) t))), (0, .ref (ad (0))), (1, .int (nI (at0)))]) hx hbc dX8_block_369 hl (k := 12) rfl (ni_inc _ _) (by decide) rfl (fun ls hl => ?_)
                    refine lv_goto (tgt := 235) hx hbc dX8_block_372 (by decide) ?_
                    exact ih_235 (t + 1) _ _ _ (by omega) (by omega) w (lv_sub hl [11, 12, 1, 2, 3, 4, 5, 6, 7, 8, 0] rfl)
              exact lp_235 65 0 _ _ _ (by decide) (by decide) w (lv_sub hl [9, 10, 8, 7, 6, 5, 4, 3, 2, 1, 0] rfl)
            · refine lv_aload_n hx hbc dX8_block_77 rfl (lv_at hl 0 rfl) ?_
              refine wb_gr (t := 9) hx hbc hg hown w inG_X8 0 (by decide) rfl rfl 10 (by decide) rfl wk_677 dX8_block_78 ?_
              refine lv_iload_n hx hbc dX8_block_81 rfl (lv_at hl 2 rfl) ?_
              refine lv_bipush (v := nI (15)) hx hbc dX8_block_82 (by decide) ?_
              refine n_isub (by omega) hx hbc dX8_block_84 ?_
              refine wb_iald (k := (16 + u) - 15) (v := (schN (wfl (S.2.1 9) (S.2.1 7) at0 16) u) ((16 + u) - 15)) hx hbc w 9 (by decide) rfl 0 rfl rfl (by omega) (by decide) rfl dX8_block_85 ?_
              refine lv_istore_n (lv' := [(3, .int ((schN (wfl (S.2.1 9) (S.2.1 7) at0 16) u) ((16 + u) - 15))), (0, .ref (ad (0))), (1, .int (nI (at0))), (2, .int (nI (16 + u)))]) hx hbc dX8_block_86 rfl hl (by decide) rfl (fun ls hl => ?_)
              refine lv_aload_n hx hbc dX8_block_87 rfl (lv_at hl 1 rfl) ?_
              refine wb_gr (t := 9) hx hbc hg hown w inG_X8 0 (by decide) rfl rfl 10 (by decide) rfl wk_677 dX8_block_88 ?_
              refine lv_iload_n hx hbc dX8_block_91 rfl (lv_at hl 3 rfl) ?_
              refine lv_iconst (v := nI (2)) hx hbc dX8_block_92 (by decide) ?_
              refine n_isub (by omega) hx hbc dX8_block_93 ?_
              refine wb_iald (k := (16 + u) - 2) (v := (schN (wfl (S.2.1 9) (S.2.1 7) at0 16) u) ((16 + u) - 2)) hx hbc w 9 (by decide) rfl 0 rfl rfl (by omega) (by decide) rfl dX8_block_94 ?_
              refine lv_istore (lv' := [(4, .int ((schN (wfl (S.2.1 9) (S.2.1 7) at0 16) u) ((16 + u) - 2))), (3, .int ((schN (wfl (S.2.1 9) (S.2.1 7) at0 16) u) ((16 + u) - 15))), (0, .ref (ad (0))), (1, .int (nI (at0))), (2, .int (nI (16 + u)))]) hx hbc dX8_block_95 hl (by decide) rfl (fun ls hl => ?_)
              refine lv_aload_n hx hbc dX8_block_97 rfl (lv_at hl 2 rfl) ?_
              refine wb_gr (t := 9) hx hbc hg hown w inG_X8 0 (by decide) rfl rfl 10 (by decide) rfl wk_677 dX8_block_98 ?_
              refine lv_iload_n hx hbc dX8_block_101 rfl (lv_at hl 4 rfl) ?_
              refine lv_iload hx hbc dX8_block_102 (lv_at hl 0 rfl) ?_
              refine lv_bipush (v := nI (17)) hx hbc dX8_block_104 (by decide) ?_
              refine wb_Si (na := 2) (As := [.int ((schN (wfl (S.2.1 9) (S.2.1 7) at0 16) u) ((16 + u) - 2)), .int (nI (17))]) (rest := [.int (nI (16 + u)), .ref (ad (9))]) hx hbc hml hg hown w E0_ok trivial w.1 Sub.none (k_X8_right l D cy ad (sB S 9 (schN (wfl (S.2.1 9) (S.2.1 7) at0 16) u)) ((schN (wfl (S.2.1 9) (S.2.1 7) at0 16) u) ((16 + u) - 2)) 17 ((by decide))) wk_828 wk_9 wk_826 wk_827 ⟨by decide, by decide, by decide⟩ ⟨by rw [hRf]; decide, by rw [hRl]; decide⟩ rfl hl.1 rfl (Nat.le_of_ble_eq_true rfl) dX8_block_106 ⟨Nat.zero_le _, Nat.zero_le _⟩ (fun r S9 H locs hp w => ?_)
              subst hp
              refine lv_iload hx hbc dX8_block_109 (lv_at hl 0 rfl) ?_
              refine lv_bipush (v := nI (19)) hx hbc dX8_block_111 (by decide) ?_
              refine wb_Si (na := 2) (As := [.int ((schN (wfl (S.2.1 9) (S.2.1 7) at0 16) u) ((16 + u) - 2)), .int (nI (19))]) (rest := [.int (rotr ((schN (wfl (S.2.1 9) (S.2.1 7) at0 16) u) ((16 + u) - 2)) 17), .int (nI (16 + u)), .ref (ad (9))]) hx hbc hml hg hown w E0_ok trivial w.1 Sub.none (k_X8_right l D cy ad (sB S 9 (schN (wfl (S.2.1 9) (S.2.1 7) at0 16) u)) ((schN (wfl (S.2.1 9) (S.2.1 7) at0 16) u) ((16 + u) - 2)) 19 ((by decide))) wk_828 wk_9 wk_826 wk_827 ⟨by decide, by decide, by decide⟩ ⟨by rw [hRf]; decide, by rw [hRl]; decide⟩ rfl hl.1 rfl (Nat.le_of_ble_eq_true rfl) dX8_block_113 ⟨Nat.zero_le _, Nat.zero_le _⟩ (fun r S9 H locs hp w => ?_)
              subst hp
              refine lv_ixor hx hbc dX8_block_116 ?_
              refine lv_iload hx hbc dX8_block_117 (lv_at hl 0 rfl) ?_
              refine lv_bipush (v := nI (10)) hx hbc dX8_block_119 (by decide) ?_
              refine lv_iushr hx hbc dX8_block_121 rfl ?_
              refine lv_ixor hx hbc dX8_block_122 ?_
              refine lv_aload_n hx hbc dX8_block_123 rfl (lv_at hl 2 rfl) ?_
              refine wb_gr (t := 9) hx hbc hg hown w inG_X8 0 (by decide) rfl rfl 10 (by decide) rfl wk_677 dX8_block_124 ?_
              refine lv_iload_n hx hbc dX8_block_127 rfl (lv_at hl 4 rfl) ?_
              refine lv_bipush (v := nI (7)) hx hbc dX8_block_128 (by decide) ?_
              refine n_isub (by omega) hx hbc dX8_block_130 ?_
              refine wb_iald (k := (16 + u) - 7) (v := (schN (wfl (S.2.1 9) (S.2.1 7) at0 16) u) ((16 + u) - 7)) hx hbc w 9 (by decide) rfl 0 rfl rfl (by omega) (by decide) rfl dX8_block_131 ?_
              refine lv_iadd hx hbc dX8_block_132 ?_
              refine lv_iload_n hx hbc dX8_block_133 rfl (lv_at hl 1 rfl) ?_
              refine lv_bipush (v := nI (7)) hx hbc dX8_block_134 (by decide) ?_
              refine wb_Si (na := 2) (As := [.int ((schN (wfl (S.2.1 9) (S.2.1 7) at0 16) u) ((16 + u) - 15)), .int (nI (7))]) (rest := [.int ((((rotr ((schN (wfl (S.2.1 9) (S.2.1 7) at0 16) u) ((16 + u) - 2)) 17) ^^^ (rotr ((schN (wfl (S.2.1 9) (S.2.1 7) at0 16) u) ((16 + u) - 2)) 19)) ^^^ ((((schN (wfl (S.2.1 9) (S.2.1 7) at0 16) u) ((16 + u) - 2)).toUInt32 >>> ((nI (10)).toUInt32 &&& Int32.toUInt32 31)).toInt32)) + ((schN (wfl (S.2.1 9) (S.2.1 7) at0 16) u) ((16 + u) - 7))), .int (nI (16 + u)), .ref (ad (9))]) hx hbc hml hg hown w E0_ok trivial w.1 Sub.none (k_X8_right l D cy ad (sB S 9 (schN (wfl (S.2.1 9) (S.2.1 7) at0 16) u)) ((schN (wfl (S.2.1 9) (S.2.1 7) at0 16) u) ((16 + u) - 15)) 7 ((by decide))) wk_828 wk_9 wk_826 wk_827 ⟨by decide, by decide, by decide⟩ ⟨by rw [hRf]; decide, by rw [hRl]; decide⟩ rfl hl.1 rfl (Nat.le_of_ble_eq_true rfl) dX8_block_136 ⟨Nat.zero_le _, Nat.zero_le _⟩ (fun r S9 H locs hp w => ?_)
              subst hp
              refine lv_iload_n hx hbc dX8_block_139 rfl (lv_at hl 1 rfl) ?_
              refine lv_bipush (v := nI (18)) hx hbc dX8_block_140 (by decide) ?_
              refine wb_Si (na := 2) (As := [.int ((schN (wfl (S.2.1 9) (S.2.1 7) at0 16) u) ((16 + u) - 15)), .int (nI (18))]) (rest := [.int (rotr ((schN (wfl (S.2.1 9) (S.2.1 7) at0 16) u) ((16 + u) - 15)) 7), .int ((((rotr ((schN (wfl (S.2.1 9) (S.2.1 7) at0 16) u) ((16 + u) - 2)) 17) ^^^ (rotr ((schN (wfl (S.2.1 9) (S.2.1 7) at0 16) u) ((16 + u) - 2)) 19)) ^^^ ((((schN (wfl (S.2.1 9) (S.2.1 7) at0 16) u) ((16 + u) - 2)).toUInt32 >>> ((nI (10)).toUInt32 &&& Int32.toUInt32 31)).toInt32)) + ((schN (wfl (S.2.1 9) (S.2.1 7) at0 16) u) ((16 + u) - 7))), .int (nI (16 + u)), .ref (ad (9))]) hx hbc hml hg hown w E0_ok trivial w.1 Sub.none (k_X8_right l D cy ad (sB S 9 (schN (wfl (S.2.1 9) (S.2.1 7) at0 16) u)) ((schN (wfl (S.2.1 9) (S.2.1 7) at0 16) u) ((16 + u) - 15)) 18 ((by decide))) wk_828 wk_9 wk_826 wk_827 ⟨by decide, by decide, by decide⟩ ⟨by rw [hRf]; decide, by rw [hRl]; decide⟩ rfl hl.1 rfl (Nat.le_of_ble_eq_true rfl) dX8_block_142 ⟨Nat.zero_le _, Nat.zero_le _⟩ (fun r S9 H locs hp w => ?_)
              subst hp
              refine lv_ixor hx hbc dX8_block_145 ?_
              refine lv_iload_n hx hbc dX8_block_146 rfl (lv_at hl 1 rfl) ?_
              refine lv_iconst (v := nI (3)) hx hbc dX8_block_147 (by decide) ?_
              refine lv_iushr hx hbc dX8_block_148 rfl ?_
              refine lv_ixor hx hbc dX8_block_149 ?_
              refine lv_iadd hx hbc dX8_block_150 ?_
              refine lv_aload_n hx hbc dX8_block_151 rfl (lv_at hl 2 rfl) ?_
              refine wb_gr (t := 9) hx hbc hg hown w inG_X8 0 (by decide) rfl rfl 10 (by decide) rfl wk_677 dX8_block_152 ?_
              refine lv_iload_n hx hbc dX8_block_155 rfl (lv_at hl 4 rfl) ?_
              refine lv_bipush (v := nI (16)) hx hbc dX8_block_156 (by decide) ?_
              refine n_isub (by omega) hx hbc dX8_block_158 ?_
              refine wb_iald (k := (16 + u) - 16) (v := (schN (wfl (S.2.1 9) (S.2.1 7) at0 16) u) ((16 + u) - 16)) hx hbc w 9 (by decide) rfl 0 rfl rfl (by omega) (by decide) rfl dX8_block_159 ?_
              refine lv_iadd hx hbc dX8_block_160 ?_
              refine wb_iast (k := 16 + u) (f := schN (wfl (S.2.1 9) (S.2.1 7) at0 16) u) hx hbc w 9 (by decide) rfl 0 rfl rfl (by omega) (by decide) rfl (sB_sB _ _ _ _) dX8_block_161 (fun H locs w => ?_)
              refine lv_iinc (v := nI (16 + u + 1)) (lv' := [(2, .int (nI (16 + u + 1))), (4, .int ((schN (wfl (S.2.1 9) (S.2.1 7) at0 16) u) ((16 + u) - 2))), (3, .int ((schN (wfl (S.2.1 9) (S.2.1 7) at0 16) u) ((16 + u) - 15))), (0, .ref (ad (0))), (1, .int (nI (at0)))]) hx hbc dX8_block_162 hl (k := 4) rfl (ni_inc _ _) (by decide) rfl (fun ls hl => ?_)
              refine lv_goto (tgt := 71) hx hbc dX8_block_165 (by decide) ?_
              exact ih_71 (u + 1) _ _ _ (by omega) (by omega) w (lv_sub hl [3, 4, 0] rfl)
        exact lp_71 49 0 _ _ _ (by decide) (by decide) w (lv_sub hl [1, 2, 0] rfl)
      · refine lv_iload_n hx hbc dX8_block_8 rfl (lv_at hl 1 rfl) ?_
        refine lv_iconst (v := nI (4)) hx hbc dX8_block_9 (by decide) ?_
        refine lv_iload_n hx hbc dX8_block_10 rfl (lv_at hl 2 rfl) ?_
        refine n_imul hx hbc dX8_block_11 ?_
        refine n_iadd hx hbc dX8_block_12 ?_
        refine lv_istore_n (lv' := [(3, .int (nI (at0 + (4 * t)))), (0, .ref (ad (0))), (1, .int (nI (at0))), (2, .int (nI (t)))]) hx hbc dX8_block_13 rfl hl (by decide) rfl (fun ls hl => ?_)
        refine lv_aload_n hx hbc dX8_block_14 rfl (lv_at hl 1 rfl) ?_
        refine wb_gr (t := 9) hx hbc hg hown w inG_X8 0 (by decide) rfl rfl 10 (by decide) rfl wk_677 dX8_block_15 ?_
        refine lv_iload_n hx hbc dX8_block_18 rfl (lv_at hl 3 rfl) ?_
        refine lv_aload_n hx hbc dX8_block_19 rfl (lv_at hl 1 rfl) ?_
        refine wb_gr (t := 7) hx hbc hg hown w inG_X8 0 (by decide) rfl rfl 7 (by decide) rfl wk_674 dX8_block_20 ?_
        refine lv_iload_n hx hbc dX8_block_23 rfl (lv_at hl 0 rfl) ?_
        refine wb_iald (k := at0 + (4 * t)) (v := (S.2.1 7) (at0 + (4 * t))) hx hbc w 7 (by decide) rfl 0 rfl rfl (by omega) (by decide) rfl dX8_block_24 ?_
        refine lv_bipush (v := nI (24)) hx hbc dX8_block_25 (by decide) ?_
        refine lv_ishl hx hbc dX8_block_27 ?_
        refine lv_aload_n hx hbc dX8_block_28 rfl (lv_at hl 1 rfl) ?_
        refine wb_gr (t := 7) hx hbc hg hown w inG_X8 0 (by decide) rfl rfl 7 (by decide) rfl wk_674 dX8_block_29 ?_
        refine lv_iload_n hx hbc dX8_block_32 rfl (lv_at hl 0 rfl) ?_
        refine lv_iconst (v := nI (1)) hx hbc dX8_block_33 (by decide) ?_
        refine n_iadd hx hbc dX8_block_34 ?_
        refine wb_iald (k := (at0 + (4 * t)) + 1) (v := (S.2.1 7) ((at0 + (4 * t)) + 1)) hx hbc w 7 (by decide) rfl 0 rfl rfl (by omega) (by decide) rfl dX8_block_35 ?_
        refine lv_bipush (v := nI (16)) hx hbc dX8_block_36 (by decide) ?_
        refine lv_ishl hx hbc dX8_block_38 ?_
        refine lv_ior hx hbc dX8_block_39 ?_
        refine lv_aload_n hx hbc dX8_block_40 rfl (lv_at hl 1 rfl) ?_
        refine wb_gr (t := 7) hx hbc hg hown w inG_X8 0 (by decide) rfl rfl 7 (by decide) rfl wk_674 dX8_block_41 ?_
        refine lv_iload_n hx hbc dX8_block_44 rfl (lv_at hl 0 rfl) ?_
        refine lv_iconst (v := nI (2)) hx hbc dX8_block_45 (by decide) ?_
        refine n_iadd hx hbc dX8_block_46 ?_
        refine wb_iald (k := (at0 + (4 * t)) + 2) (v := (S.2.1 7) ((at0 + (4 * t)) + 2)) hx hbc w 7 (by decide) rfl 0 rfl rfl (by omega) (by decide) rfl dX8_block_47 ?_
        refine lv_bipush (v := nI (8)) hx hbc dX8_block_48 (by decide) ?_
        refine lv_ishl hx hbc dX8_block_50 ?_
        refine lv_ior hx hbc dX8_block_51 ?_
        refine lv_aload_n hx hbc dX8_block_52 rfl (lv_at hl 1 rfl) ?_
        refine wb_gr (t := 7) hx hbc hg hown w inG_X8 0 (by decide) rfl rfl 7 (by decide) rfl wk_674 dX8_block_53 ?_
        refine lv_iload_n hx hbc dX8_block_56 rfl (lv_at hl 0 rfl) ?_
        refine lv_iconst (v := nI (3)) hx hbc dX8_block_57 (by decide) ?_
        refine n_iadd hx hbc dX8_block_58 ?_
        refine wb_iald (k := (at0 + (4 * t)) + 3) (v := (S.2.1 7) ((at0 + (4 * t)) + 3)) hx hbc w 7 (by decide) rfl 0 rfl rfl (by omega) (by decide) rfl dX8_block_59 ?_
        refine lv_ior hx hbc dX8_block_60 ?_
        refine wb_iast (k := t) (f := wfl (S.2.1 9) (S.2.1 7) at0 t) hx hbc w 9 (by decide) rfl 0 rfl rfl (by omega) (by decide) rfl (sB_sB _ _ _ _) dX8_block_61 (fun H locs w => ?_)
        refine lv_iinc (v := nI (t + 1)) (lv' := [(2, .int (nI (t + 1))), (3, .int (nI (at0 + (4 * t)))), (0, .ref (ad (0))), (1, .int (nI (at0)))]) hx hbc dX8_block_62 hl (k := 3) rfl (ni_inc _ _) (by decide) rfl (fun ls hl => ?_)
        refine lv_goto (tgt := 2) hx hbc dX8_block_65 (by decide) ?_
        exact ih_2 (t + 1) _ _ _ (by omega) (by omega) w (lv_sub hl [2, 3, 0] rfl)
  exact lp_2 17 0 _ _ _ (by decide) (by decide) (WB_cast w (by simp [sB, wfl, up_id])) (lv_sub hl [1, 2, 0] rfl)
set_option maxHeartbeats 4000000 in
set_option maxRecDepth 100000 in
theorem k_X8_work (l : Launch) (D : va_G) (cy : Nat → ClassId) (ad : Nat → Nat) (S : wS) (g : Nat → Int32) (z : Int32) (n q : Nat) (hn : n + 72 ≤ 2400) (hq : S.1 0 11 = nI q) : CtV l yX8_work (Cond.code yX8_work cX8_work 5 none :: wsG) 2 53 [.ref (ad (0)), .int (z)] D (tyM cy) 31 cy ad skM E0 (pst S g n) (fun S' => S' = wst (pst S (padM g n) 0) (bks (S.2.1 1) (padM g n) (cps (S.2.1 8) (hSrc S z) 8) (S.2.1 9) (padL n / 64)).1 (bks (S.2.1 1) (padM g n) (cps (S.2.1 8) (hSrc S z) 8) (S.2.1 9) (padL n / 64)).2 (q + padL n / 64)) := by
  refine CtV_of (by decide) (Nat.le_of_ble_eq_true rfl) ?_
  intro p e s m args below meth c A ls R Q hB hRf hRl hend
  obtain ⟨hx, hbc, hr, hg, hown, hml, hlk, w, hE, hl⟩ := hB
  have hl : lv_has ls 5 [(0, .ref (ad (0))), (1, .int (z))] := hl
  refine lv_ldc2 (v := (8)) hx hbc hown (hg _ wk_821) dX8_work_0 ?_
  refine lv_aload_n hx hbc dX8_work_3 rfl (lv_at hl 0 rfl) ?_
  refine wb_gi (v := nI (n)) hx hbc hg hown w inG_X8 0 (by decide) rfl rfl 8 (by decide) rfl wk_675 rfl dX8_work_4 ?_
  refine lv_i2l hx hbc dX8_work_7 rfl ?_
  refine lv_lmul hx hbc dX8_work_8 ?_
  refine lv_lstore_n (lv' := [(2, .long (((8)) * ((nI (n)).toInt64))), (0, .ref (ad (0))), (1, .int (z))]) hx hbc dX8_work_9 rfl hl (by decide) rfl (fun ls hl => ?_)
  refine lv_aload_n hx hbc dX8_work_10 rfl (lv_at hl 1 rfl) ?_
  refine lv_sipush (v := nI (128)) hx hbc dX8_work_11 (by decide) ?_
  refine wb_Vv (na := 1) (As := [.int (nI (128))]) (rest := []) hx hbc hml hg hown w E0_ok trivial w.1 Sub.self 0 (by decide) rfl rfl (k_X8_put l D cy ad (pst S g n) (nI (128)) n rfl (by omega)) wk_816 wk_9 wk_813 wk_815 ws_14 ⟨by decide, by decide, by decide⟩ ⟨by rw [hRf]; decide, by rw [hRl]; decide⟩ rfl hl.1 rfl (Nat.le_of_ble_eq_true rfl) dX8_work_14 ⟨Nat.zero_le _, Nat.zero_le _⟩ (fun S9 H locs hp w => ?_)
  subst hp
  have w := WB_cast w (pst_pst _ _ _ _ _)
  have w : WB D (tyM cy) 31 cy ad skM A s (pst S (upd g n (nI (128))) (n + 1)) H locs := w
  have lp_17 : ∀ (fu : Nat) (j : Nat) (H : Heap) (locs : List Loc) (ls : Array Slot), (padZ n < j + fu) → (j ≤ padZ n) → WB D (tyM cy) 31 cy ad skM A s (pst S (pts (upd g n (nI 128)) (n + 1) (fun _ => nI 0) j) (n + 1 + j)) H locs → lv_has ls 5 [(0, .ref (ad (0))), (1, .int (z)), (2, .long ((8) * (nI n).toInt64))] → W p l e R s m args below meth c H locs 0 0 Q (F0 m 17 ls []) := by
    intro fu
    induction fu with
    | zero =>
      intro j H locs ls h1 h2 w hl
      exact absurd h1 (by omega)
    | succ fu ih_17 =>
      intro j H locs ls h1 h2 w hl
      have hz : padZ n = (119 - n % 64) % 64 := rfl
      refine lv_aload_n hx hbc dX8_work_17 rfl (lv_at hl 0 rfl) ?_
      refine wb_gi (v := nI (n + 1 + j)) hx hbc hg hown w inG_X8 0 (by decide) rfl rfl 8 (by decide) rfl wk_675 rfl dX8_work_18 ?_
      refine lv_bipush (v := nI (64)) hx hbc dX8_work_21 (by decide) ?_
      refine n_irem (by omega) (by omega) (by omega) hx hbc dX8_work_23 ?_
      refine lv_bipush (v := nI (56)) hx hbc dX8_work_24 (by decide) ?_
      refine n_cmp_eq (tgt := 37) (by omega) (by omega) hx hbc dX8_work_26 (by decide) (fun c_26 => ?_) (fun c_26 => ?_)
      · obtain rfl : j = padZ n := by omega
        refine lv_bipush (v := nI (56)) hx hbc dX8_work_37 (by decide) ?_
        refine lv_istore (lv' := [(4, .int (nI (56))), (0, .ref (ad (0))), (1, .int (z)), (2, .long ((8) * (nI n).toInt64))]) hx hbc dX8_work_39 hl (by decide) rfl (fun ls hl => ?_)
        refine lv_iload hx hbc dX8_work_41 (lv_at hl 0 rfl) ?_
        refine lv_if_lt (tgt := 65) hx hbc dX8_work_43 (by decide) (fun c_43 => ?_) (fun c_43 => ?_)
        · exact absurd c_43 (by decide)
        · refine lv_aload_n hx hbc dX8_work_46 rfl (lv_at hl 1 rfl) ?_
          refine lv_lload_n hx hbc dX8_work_47 rfl (lv_at hl 3 rfl) ?_
          refine lv_iload hx hbc dX8_work_48 (lv_at hl 0 rfl) ?_
          refine lv_lushr hx hbc dX8_work_50 rfl ?_
          refine lv_ldc2 (v := (255)) hx hbc hown (hg _ wk_800) dX8_work_51 ?_
          refine lv_land hx hbc dX8_work_54 ?_
          refine lv_l2i hx hbc dX8_work_55 rfl ?_
          refine wb_Vv (na := 1) (As := [.int ((((((8) * (nI n).toInt64).toUInt64 >>> ((nI (56)).toInt64.toUInt64 &&& Int64.toUInt64 63)).toInt64) &&& ((255))).toInt32)]) (rest := []) hx hbc hml hg hown w E0_ok trivial w.1 Sub.self 0 (by decide) rfl rfl (k_X8_put l D cy ad (pst S (pts (upd g n (nI 128)) (n + 1) (fun _ => nI 0) (padZ n)) (n + 1 + padZ n)) ((((((8) * (nI n).toInt64).toUInt64 >>> ((nI (56)).toInt64.toUInt64 &&& Int64.toUInt64 63)).toInt64) &&& ((255))).toInt32) (n + 1 + padZ n) rfl (by omega)) wk_816 wk_9 wk_813 wk_815 ws_14 ⟨by decide, by decide, by decide⟩ ⟨by rw [hRf]; decide, by rw [hRl]; decide⟩ rfl hl.1 rfl (Nat.le_of_ble_eq_true rfl) dX8_work_56 ⟨Nat.zero_le _, Nat.zero_le _⟩ (fun S9 H locs hp w => ?_)
          subst hp
          have w := WB_cast w (pst_pst _ _ _ _ _)
          have w : WB D (tyM cy) 31 cy ad skM A s (pst S (upd (pts (upd g n (nI 128)) (n + 1) (fun _ => nI 0) (padZ n)) (n + 1 + padZ n) ((((((8) * (nI n).toInt64).toUInt64 >>> ((nI (56)).toInt64.toUInt64 &&& Int64.toUInt64 63)).toInt64) &&& ((255))).toInt32)) (n + 1 + padZ n + 1)) H locs := w
          refine lv_iinc (v := nI (48)) (lv' := [(4, .int (nI (48))), (0, .ref (ad (0))), (1, .int (z)), (2, .long ((8) * (nI n).toInt64))]) hx hbc dX8_work_59 hl (k := 0) rfl (by decide) (by decide) rfl (fun ls hl => ?_)
          refine lv_goto (tgt := 41) hx hbc dX8_work_62 (by decide) ?_
          refine lv_iload hx hbc dX8_work_41 (lv_at hl 0 rfl) ?_
          refine lv_if_lt (tgt := 65) hx hbc dX8_work_43 (by decide) (fun c_43 => ?_) (fun c_43 => ?_)
          · exact absurd c_43 (by decide)
          · refine lv_aload_n hx hbc dX8_work_46 rfl (lv_at hl 1 rfl) ?_
            refine lv_lload_n hx hbc dX8_work_47 rfl (lv_at hl 3 rfl) ?_
            refine lv_iload hx hbc dX8_work_48 (lv_at hl 0 rfl) ?_
            refine lv_lushr hx hbc dX8_work_50 rfl ?_
            refine lv_ldc2 (v := (255)) hx hbc hown (hg _ wk_800) dX8_work_51 ?_
            refine lv_land hx hbc dX8_work_54 ?_
            refine lv_l2i hx hbc dX8_work_55 rfl ?_
            refine wb_Vv (na := 1) (As := [.int ((((((8) * (nI n).toInt64).toUInt64 >>> ((nI (48)).toInt64.toUInt64 &&& Int64.toUInt64 63)).toInt64) &&& ((255))).toInt32)]) (rest := []) hx hbc hml hg hown w E0_ok trivial w.1 Sub.self 0 (by decide) rfl rfl (k_X8_put l D cy ad (pst S (upd (pts (upd g n (nI 128)) (n + 1) (fun _ => nI 0) (padZ n)) (n + 1 + padZ n) ((((((8) * (nI n).toInt64).toUInt64 >>> ((nI (56)).toInt64.toUInt64 &&& Int64.toUInt64 63)).toInt64) &&& ((255))).toInt32)) (n + 1 + padZ n + 1)) ((((((8) * (nI n).toInt64).toUInt64 >>> ((nI (48)).toInt64.toUInt64 &&& Int64.toUInt64 63)).toInt64) &&& ((255))).toInt32) (n + 1 + padZ n + 1) rfl (by omega)) wk_816 wk_9 wk_813 wk_815 ws_14 ⟨by decide, by decide, by decide⟩ ⟨by rw [hRf]; decide, by rw [hRl]; decide⟩ rfl hl.1 rfl (Nat.le_of_ble_eq_true rfl) dX8_work_56 ⟨Nat.zero_le _, Nat.zero_le _⟩ (fun S9 H locs hp w => ?_)
            subst hp
            have w := WB_cast w (pst_pst _ _ _ _ _)
            have w : WB D (tyM cy) 31 cy ad skM A s (pst S (upd (upd (pts (upd g n (nI 128)) (n + 1) (fun _ => nI 0) (padZ n)) (n + 1 + padZ n) ((((((8) * (nI n).toInt64).toUInt64 >>> ((nI (56)).toInt64.toUInt64 &&& Int64.toUInt64 63)).toInt64) &&& ((255))).toInt32)) (n + 1 + padZ n + 1) ((((((8) * (nI n).toInt64).toUInt64 >>> ((nI (48)).toInt64.toUInt64 &&& Int64.toUInt64 63)).toInt64) &&& ((255))).toInt32)) (n + 1 + padZ n + 1 + 1)) H locs := w
            refine lv_iinc (v := nI (40)) (lv' := [(4, .int (nI (40))), (0, .ref (ad (0))), (1, .int (z)), (2, .long ((8) * (nI n).toInt64))]) hx hbc dX8_work_59 hl (k := 0) rfl (by decide) (by decide) rfl (fun ls hl => ?_)
            refine lv_goto (tgt := 41) hx hbc dX8_work_62 (by decide) ?_
            refine lv_iload hx hbc dX8_work_41 (lv_at hl 0 rfl) ?_
            refine lv_if_lt (tgt := 65) hx hbc dX8_work_43 (by decide) (fun c_43 => ?_) (fun c_43 => ?_)
            · exact absurd c_43 (by decide)
            · refine lv_aload_n hx hbc dX8_work_46 rfl (lv_at hl 1 rfl) ?_
              refine lv_lload_n hx hbc dX8_work_47 rfl (lv_at hl 3 rfl) ?_
              refine lv_iload hx hbc dX8_work_48 (lv_at hl 0 rfl) ?_
              refine lv_lushr hx hbc dX8_work_50 rfl ?_
              refine lv_ldc2 (v := (255)) hx hbc hown (hg _ wk_800) dX8_work_51 ?_
              refine lv_land hx hbc dX8_work_54 ?_
              refine lv_l2i hx hbc dX8_work_55 rfl ?_
              refine wb_Vv (na := 1) (As := [.int ((((((8) * (nI n).toInt64).toUInt64 >>> ((nI (40)).toInt64.toUInt64 &&& Int64.toUInt64 63)).toInt64) &&& ((255))).toInt32)]) (rest := []) hx hbc hml hg hown w E0_ok trivial w.1 Sub.self 0 (by decide) rfl rfl (k_X8_put l D cy ad (pst S (upd (upd (pts (upd g n (nI 128)) (n + 1) (fun _ => nI 0) (padZ n)) (n + 1 + padZ n) ((((((8) * (nI n).toInt64).toUInt64 >>> ((nI (56)).toInt64.toUInt64 &&& Int64.toUInt64 63)).toInt64) &&& ((255))).toInt32)) (n + 1 + padZ n + 1) ((((((8) * (nI n).toInt64).toUInt64 >>> ((nI (48)).toInt64.toUInt64 &&& Int64.toUInt64 63)).toInt64) &&& ((255))).toInt32)) (n + 1 + padZ n + 1 + 1)) ((((((8) * (nI n).toInt64).toUInt64 >>> ((nI (40)).toInt64.toUInt64 &&& Int64.toUInt64 63)).toInt64) &&& ((255))).toInt32) (n + 1 + padZ n + 1 + 1) rfl (by omega)) wk_816 wk_9 wk_813 wk_815 ws_14 ⟨by decide, by decide, by decide⟩ ⟨by rw [hRf]; decide, by rw [hRl]; decide⟩ rfl hl.1 rfl (Nat.le_of_ble_eq_true rfl) dX8_work_56 ⟨Nat.zero_le _, Nat.zero_le _⟩ (fun S9 H locs hp w => ?_)
              subst hp
              have w := WB_cast w (pst_pst _ _ _ _ _)
              have w : WB D (tyM cy) 31 cy ad skM A s (pst S (upd (upd (upd (pts (upd g n (nI 128)) (n + 1) (fun _ => nI 0) (padZ n)) (n + 1 + padZ n) ((((((8) * (nI n).toInt64).toUInt64 >>> ((nI (56)).toInt64.toUInt64 &&& Int64.toUInt64 63)).toInt64) &&& ((255))).toInt32)) (n + 1 + padZ n + 1) ((((((8) * (nI n).toInt64).toUInt64 >>> ((nI (48)).toInt64.toUInt64 &&& Int64.toUInt64 63)).toInt64) &&& ((255))).toInt32)) (n + 1 + padZ n + 1 + 1) ((((((8) * (nI n).toInt64).toUInt64 >>> ((nI (40)).toInt64.toUInt64 &&& Int64.toUInt64 63)).toInt64) &&& ((255))).toInt32)) (n + 1 + padZ n + 1 + 1 + 1)) H locs := w
              refine lv_iinc (v := nI (32)) (lv' := [(4, .int (nI (32))), (0, .ref (ad (0))), (1, .int (z)), (2, .long ((8) * (nI n).toInt64))]) hx hbc dX8_work_59 hl (k := 0) rfl (by decide) (by decide) rfl (fun ls hl => ?_)
              refine lv_goto (tgt := 41) hx hbc dX8_work_62 (by decide) ?_
              refine lv_iload hx hbc dX8_work_41 (lv_at hl 0 rfl) ?_
              refine lv_if_lt (tgt := 65) hx hbc dX8_work_43 (by decide) (fun c_43 => ?_) (fun c_43 => ?_)
              · exact absurd c_43 (by decide)
              · refine lv_aload_n hx hbc dX8_work_46 rfl (lv_at hl 1 rfl) ?_
                refine lv_lload_n hx hbc dX8_work_47 rfl (lv_at hl 3 rfl) ?_
                refine lv_iload hx hbc dX8_work_48 (lv_at hl 0 rfl) ?_
                refine lv_lushr hx hbc dX8_work_50 rfl ?_
                refine lv_ldc2 (v := (255)) hx hbc hown (hg _ wk_800) dX8_work_51 ?_
                refine lv_land hx hbc dX8_work_54 ?_
                refine lv_l2i hx hbc dX8_work_55 rfl ?_
                refine wb_Vv (na := 1) (As := [.int ((((((8) * (nI n).toInt64).toUInt64 >>> ((nI (32)).toInt64.toUInt64 &&& Int64.toUInt64 63)).toInt64) &&& ((255))).toInt32)]) (rest := []) hx hbc hml hg hown w E0_ok trivial w.1 Sub.self 0 (by decide) rfl rfl (k_X8_put l D cy ad (pst S (upd (upd (upd (pts (upd g n (nI 128)) (n + 1) (fun _ => nI 0) (padZ n)) (n + 1 + padZ n) ((((((8) * (nI n).toInt64).toUInt64 >>> ((nI (56)).toInt64.toUInt64 &&& Int64.toUInt64 63)).toInt64) &&& ((255))).toInt32)) (n + 1 + padZ n + 1) ((((((8) * (nI n).toInt64).toUInt64 >>> ((nI (48)).toInt64.toUInt64 &&& Int64.toUInt64 63)).toInt64) &&& ((255))).toInt32)) (n + 1 + padZ n + 1 + 1) ((((((8) * (nI n).toInt64).toUInt64 >>> ((nI (40)).toInt64.toUInt64 &&& Int64.toUInt64 63)).toInt64) &&& ((255))).toInt32)) (n + 1 + padZ n + 1 + 1 + 1)) ((((((8) * (nI n).toInt64).toUInt64 >>> ((nI (32)).toInt64.toUInt64 &&& Int64.toUInt64 63)).toInt64) &&& ((255))).toInt32) (n + 1 + padZ n + 1 + 1 + 1) rfl (by omega)) wk_816 wk_9 wk_813 wk_815 ws_14 ⟨by decide, by decide, by decide⟩ ⟨by rw [hRf]; decide, by rw [hRl]; decide⟩ rfl hl.1 rfl (Nat.le_of_ble_eq_true rfl) dX8_work_56 ⟨Nat.zero_le _, Nat.zero_le _⟩ (fun S9 H locs hp w => ?_)
                subst hp
                have w := WB_cast w (pst_pst _ _ _ _ _)
                have w : WB D (tyM cy) 31 cy ad skM A s (pst S (upd (upd (upd (upd (pts (upd g n (nI 128)) (n + 1) (fun _ => nI 0) (padZ n)) (n + 1 + padZ n) ((((((8) * (nI n).toInt64).toUInt64 >>> ((nI (56)).toInt64.toUInt64 &&& Int64.toUInt64 63)).toInt64) &&& ((255))).toInt32)) (n + 1 + padZ n + 1) ((((((8) * (nI n).toInt64).toUInt64 >>> ((nI (48)).toInt64.toUInt64 &&& Int64.toUInt64 63)).toInt64) &&& ((255))).toInt32)) (n + 1 + padZ n + 1 + 1) ((((((8) * (nI n).toInt64).toUInt64 >>> ((nI (40)).toInt64.toUInt64 &&& Int64.toUInt64 63)).toInt64) &&& ((255))).toInt32)) (n + 1 + padZ n + 1 + 1 + 1) ((((((8) * (nI n).toInt64).toUInt64 >>> ((nI (32)).toInt64.toUInt64 &&& Int64.toUInt64 63)).toInt64) &&& ((255))).toInt32)) (n + 1 + padZ n + 1 + 1 + 1 + 1)) H locs := w
                refine lv_iinc (v := nI (24)) (lv' := [(4, .int (nI (24))), (0, .ref (ad (0))), (1, .int (z)), (2, .long ((8) * (nI n).toInt64))]) hx hbc dX8_work_59 hl (k := 0) rfl (by decide) (by decide) rfl (fun ls hl => ?_)
                refine lv_goto (tgt := 41) hx hbc dX8_work_62 (by decide) ?_
                refine lv_iload hx hbc dX8_work_41 (lv_at hl 0 rfl) ?_
                refine lv_if_lt (tgt := 65) hx hbc dX8_work_43 (by decide) (fun c_43 => ?_) (fun c_43 => ?_)
                · exact absurd c_43 (by decide)
                · refine lv_aload_n hx hbc dX8_work_46 rfl (lv_at hl 1 rfl) ?_
                  refine lv_lload_n hx hbc dX8_work_47 rfl (lv_at hl 3 rfl) ?_
                  refine lv_iload hx hbc dX8_work_48 (lv_at hl 0 rfl) ?_
                  refine lv_lushr hx hbc dX8_work_50 rfl ?_
                  refine lv_ldc2 (v := (255)) hx hbc hown (hg _ wk_800) dX8_work_51 ?_
                  refine lv_land hx hbc dX8_work_54 ?_
                  refine lv_l2i hx hbc dX8_work_55 rfl ?_
                  refine wb_Vv (na := 1) (As := [.int ((((((8) * (nI n).toInt64).toUInt64 >>> ((nI (24)).toInt64.toUInt64 &&& Int64.toUInt64 63)).toInt64) &&& ((255))).toInt32)]) (rest := []) hx hbc hml hg hown w E0_ok trivial w.1 Sub.self 0 (by decide) rfl rfl (k_X8_put l D cy ad (pst S (upd (upd (upd (upd (pts (upd g n (nI 128)) (n + 1) (fun _ => nI 0) (padZ n)) (n + 1 + padZ n) ((((((8) * (nI n).toInt64).toUInt64 >>> ((nI (56)).toInt64.toUInt64 &&& Int64.toUInt64 63)).toInt64) &&& ((255))).toInt32)) (n + 1 + padZ n + 1) ((((((8) * (nI n).toInt64).toUInt64 >>> ((nI (48)).toInt64.toUInt64 &&& Int64.toUInt64 63)).toInt64) &&& ((255))).toInt32)) (n + 1 + padZ n + 1 + 1) ((((((8) * (nI n).toInt64).toUInt64 >>> ((nI (40)).toInt64.toUInt64 &&& Int64.toUInt64 63)).toInt64) &&& ((255))).toInt32)) (n + 1 + padZ n + 1 + 1 + 1) ((((((8) * (nI n).toInt64).toUInt64 >>> ((nI (32)).toInt64.toUInt64 &&& Int64.toUInt64 63)).toInt64) &&& ((255))).toInt32)) (n + 1 + padZ n + 1 + 1 + 1 + 1)) ((((((8) * (nI n).toInt64).toUInt64 >>> ((nI (24)).toInt64.toUInt64 &&& Int64.toUInt64 63)).toInt64) &&& ((255))).toInt32) (n + 1 + padZ n + 1 + 1 + 1 + 1) rfl (by omega)) wk_816 wk_9 wk_813 wk_815 ws_14 ⟨by decide, by decide, by decide⟩ ⟨by rw [hRf]; decide, by rw [hRl]; decide⟩ rfl hl.1 rfl (Nat.le_of_ble_eq_true rfl) dX8_work_56 ⟨Nat.zero_le _, Nat.zero_le _⟩ (fun S9 H locs hp w => ?_)
                  subst hp
                  have w := WB_cast w (pst_pst _ _ _ _ _)
                  have w : WB D (tyM cy) 31 cy ad skM A s (pst S (upd (upd (upd (upd (upd (pts (upd g n (nI 128)) (n + 1) (fun _ => nI 0) (padZ n)) (n + 1 + padZ n) ((((((8) * (nI n).toInt64).toUInt64 >>> ((nI (56)).toInt64.toUInt64 &&& Int64.toUInt64 63)).toInt64) &&& ((255))).toInt32)) (n + 1 + padZ n + 1) ((((((8) * (nI n).toInt64).toUInt64 >>> ((nI (48)).toInt64.toUInt64 &&& Int64.toUInt64 63)).toInt64) &&& ((255))).toInt32)) (n + 1 + padZ n + 1 + 1) ((((((8) * (nI n).toInt64).toUInt64 >>> ((nI (40)).toInt64.toUInt64 &&& Int64.toUInt64 63)).toInt64) &&& ((255))).toInt32)) (n + 1 + padZ n + 1 + 1 + 1) ((((((8) * (nI n).toInt64).toUInt64 >>> ((nI (32)).toInt64.toUInt64 &&& Int64.toUInt64 63)).toInt64) &&& ((255))).toInt32)) (n + 1 + padZ n + 1 + 1 + 1 + 1) ((((((8) * (nI n).toInt64).toUInt64 >>> ((nI (24)).toInt64.toUInt64 &&& Int64.toUInt64 63)).toInt64) &&& ((255))).toInt32)) (n + 1 + padZ n + 1 + 1 + 1 + 1 + 1)) H locs := w
                  refine lv_iinc (v := nI (16)) (lv' := [(4, .int (nI (16))), (0, .ref (ad (0))), (1, .int (z)), (2, .long ((8) * (nI n).toInt64))]) hx hbc dX8_work_59 hl (k := 0) rfl (by decide) (by decide) rfl (fun ls hl => ?_)
                  refine lv_goto (tgt := 41) hx hbc dX8_work_62 (by decide) ?_
                  refine lv_iload hx hbc dX8_work_41 (lv_at hl 0 rfl) ?_
                  refine lv_if_lt (tgt := 65) hx hbc dX8_work_43 (by decide) (fun c_43 => ?_) (fun c_43 => ?_)
                  · exact absurd c_43 (by decide)
                  · refine lv_aload_n hx hbc dX8_work_46 rfl (lv_at hl 1 rfl) ?_
                    refine lv_lload_n hx hbc dX8_work_47 rfl (lv_at hl 3 rfl) ?_
                    refine lv_iload hx hbc dX8_work_48 (lv_at hl 0 rfl) ?_
                    refine lv_lushr hx hbc dX8_work_50 rfl ?_
                    refine lv_ldc2 (v := (255)) hx hbc hown (hg _ wk_800) dX8_work_51 ?_
                    refine lv_land hx hbc dX8_work_54 ?_
                    refine lv_l2i hx hbc dX8_work_55 rfl ?_
                    refine wb_Vv (na := 1) (As := [.int ((((((8) * (nI n).toInt64).toUInt64 >>> ((nI (16)).toInt64.toUInt64 &&& Int64.toUInt64 63)).toInt64) &&& ((255))).toInt32)]) (rest := []) hx hbc hml hg hown w E0_ok trivial w.1 Sub.self 0 (by decide) rfl rfl (k_X8_put l D cy ad (pst S (upd (upd (upd (upd (upd (pts (upd g n (nI 128)) (n + 1) (fun _ => nI 0) (padZ n)) (n + 1 + padZ n) ((((((8) * (nI n).toInt64).toUInt64 >>> ((nI (56)).toInt64.toUInt64 &&& Int64.toUInt64 63)).toInt64) &&& ((255))).toInt32)) (n + 1 + padZ n + 1) ((((((8) * (nI n).toInt64).toUInt64 >>> ((nI (48)).toInt64.toUInt64 &&& Int64.toUInt64 63)).toInt64) &&& ((255))).toInt32)) (n + 1 + padZ n + 1 + 1) ((((((8) * (nI n).toInt64).toUInt64 >>> ((nI (40)).toInt64.toUInt64 &&& Int64.toUInt64 63)).toInt64) &&& ((255))).toInt32)) (n + 1 + padZ n + 1 + 1 + 1) ((((((8) * (nI n).toInt64).toUInt64 >>> ((nI (32)).toInt64.toUInt64 &&& Int64.toUInt64 63)).toInt64) &&& ((255))).toInt32)) (n + 1 + padZ n + 1 + 1 + 1 + 1) ((((((8) * (nI n).toInt64).toUInt64 >>> ((nI (24)).toInt64.toUInt64 &&& Int64.toUInt64 63)).toInt64) &&& ((255))).toInt32)) (n + 1 + padZ n + 1 + 1 + 1 + 1 + 1)) ((((((8) * (nI n).toInt64).toUInt64 >>> ((nI (16)).toInt64.toUInt64 &&& Int64.toUInt64 63)).toInt64) &&& ((255))).toInt32) (n + 1 + padZ n + 1 + 1 + 1 + 1 + 1) rfl (by omega)) wk_816 wk_9 wk_813 wk_815 ws_14 ⟨by decide, by decide, by decide⟩ ⟨by rw [hRf]; decide, by rw [hRl]; decide⟩ rfl hl.1 rfl (Nat.le_of_ble_eq_true rfl) dX8_work_56 ⟨Nat.zero_le _, Nat.zero_le _⟩ (fun S9 H locs hp w => ?_)
                    subst hp
                    have w := WB_cast w (pst_pst _ _ _ _ _)
                    have w : WB D (tyM cy) 31 cy ad skM A s (pst S (upd (upd (upd (upd (upd (upd (pts (upd g n (nI 128)) (n + 1) (fun _ => nI 0) (padZ n)) (n + 1 + padZ n) ((((((8) * (nI n).toInt64).toUInt64 >>> ((nI (56)).toInt64.toUInt64 &&& Int64.toUInt64 63)).toInt64) &&& ((255))).toInt32)) (n + 1 + padZ n + 1) ((((((8) * (nI n).toInt64).toUInt64 >>> ((nI (48)).toInt64.toUInt64 &&& Int64.toUInt64 63)).toInt64) &&& ((255))).toInt32)) (n + 1 + padZ n + 1 + 1) ((((((8) * (nI n).toInt64).toUInt64 >>> ((nI (40)).toInt64.toUInt64 &&& Int64.toUInt64 63)).toInt64) &&& ((255))).toInt32)) (n + 1 + padZ n + 1 + 1 + 1) ((((((8) * (nI n).toInt64).toUInt64 >>> ((nI (32)).toInt64.toUInt64 &&& Int64.toUInt64 63)).toInt64) &&& ((255))).toInt32)) (n + 1 + padZ n + 1 + 1 + 1 + 1) ((((((8) * (nI n).toInt64).toUInt64 >>> ((nI (24)).toInt64.toUInt64 &&& Int64.toUInt64 63)).toInt64) &&& ((255))).toInt32)) (n + 1 + padZ n + 1 + 1 + 1 + 1 + 1) ((((((8) * (nI n).toInt64).toUInt64 >>> ((nI (16)).toInt64.toUInt64 &&& Int64.toUInt64 63)).toInt64) &&& ((255))).toInt32)) (n + 1 + padZ n + 1 + 1 + 1 + 1 + 1 + 1)) H locs := w
                    refine lv_iinc (v := nI (8)) (lv' := [(4, .int (nI (8))), (0, .ref (ad (0))), (1, .int (z)), (2, .long ((8) * (nI n).toInt64))]) hx hbc dX8_work_59 hl (k := 0) rfl (by decide) (by decide) rfl (fun ls hl => ?_)
                    refine lv_goto (tgt := 41) hx hbc dX8_work_62 (by decide) ?_
                    refine lv_iload hx hbc dX8_work_41 (lv_at hl 0 rfl) ?_
                    refine lv_if_lt (tgt := 65) hx hbc dX8_work_43 (by decide) (fun c_43 => ?_) (fun c_43 => ?_)
                    · exact absurd c_43 (by decide)
                    · refine lv_aload_n hx hbc dX8_work_46 rfl (lv_at hl 1 rfl) ?_
                      refine lv_lload_n hx hbc dX8_work_47 rfl (lv_at hl 3 rfl) ?_
                      refine lv_iload hx hbc dX8_work_48 (lv_at hl 0 rfl) ?_
                      refine lv_lushr hx hbc dX8_work_50 rfl ?_
                      refine lv_ldc2 (v := (255)) hx hbc hown (hg _ wk_800) dX8_work_51 ?_
                      refine lv_land hx hbc dX8_work_54 ?_
                      refine lv_l2i hx hbc dX8_work_55 rfl ?_
                      refine wb_Vv (na := 1) (As := [.int ((((((8) * (nI n).toInt64).toUInt64 >>> ((nI (8)).toInt64.toUInt64 &&& Int64.toUInt64 63)).toInt64) &&& ((255))).toInt32)]) (rest := []) hx hbc hml hg hown w E0_ok trivial w.1 Sub.self 0 (by decide) rfl rfl (k_X8_put l D cy ad (pst S (upd (upd (upd (upd (upd (upd (pts (upd g n (nI 128)) (n + 1) (fun _ => nI 0) (padZ n)) (n + 1 + padZ n) ((((((8) * (nI n).toInt64).toUInt64 >>> ((nI (56)).toInt64.toUInt64 &&& Int64.toUInt64 63)).toInt64) &&& ((255))).toInt32)) (n + 1 + padZ n + 1) ((((((8) * (nI n).toInt64).toUInt64 >>> ((nI (48)).toInt64.toUInt64 &&& Int64.toUInt64 63)).toInt64) &&& ((255))).toInt32)) (n + 1 + padZ n + 1 + 1) ((((((8) * (nI n).toInt64).toUInt64 >>> ((nI (40)).toInt64.toUInt64 &&& Int64.toUInt64 63)).toInt64) &&& ((255))).toInt32)) (n + 1 + padZ n + 1 + 1 + 1) ((((((8) * (nI n).toInt64).toUInt64 >>> ((nI (32)).toInt64.toUInt64 &&& Int64.toUInt64 63)).toInt64) &&& ((255))).toInt32)) (n + 1 + padZ n + 1 + 1 + 1 + 1) ((((((8) * (nI n).toInt64).toUInt64 >>> ((nI (24)).toInt64.toUInt64 &&& Int64.toUInt64 63)).toInt64) &&& ((255))).toInt32)) (n + 1 + padZ n + 1 + 1 + 1 + 1 + 1) ((((((8) * (nI n).toInt64).toUInt64 >>> ((nI (16)).toInt64.toUInt64 &&& Int64.toUInt64 63)).toInt64) &&& ((255))).toInt32)) (n + 1 + padZ n + 1 + 1 + 1 + 1 + 1 + 1)) ((((((8) * (nI n).toInt64).toUInt64 >>> ((nI (8)).toInt64.toUInt64 &&& Int64.toUInt64 63)).toInt64) &&& ((255))).toInt32) (n + 1 + padZ n + 1 + 1 + 1 + 1 + 1 + 1) rfl (by omega)) wk_816 wk_9 wk_813 wk_815 ws_14 ⟨by decide, by decide, by decide⟩ ⟨by rw [hRf]; decide, by rw [hRl]; decide⟩ rfl hl.1 rfl (Nat.le_of_ble_eq_true rfl) dX8_work_56 ⟨Nat.zero_le _, Nat.zero_le _⟩ (fun S9 H locs hp w => ?_)
                      subst hp
                      have w := WB_cast w (pst_pst _ _ _ _ _)
                      have w : WB D (tyM cy) 31 cy ad skM A s (pst S (upd (upd (upd (upd (upd (upd (upd (pts (upd g n (nI 128)) (n + 1) (fun _ => nI 0) (padZ n)) (n + 1 + padZ n) ((((((8) * (nI n).toInt64).toUInt64 >>> ((nI (56)).toInt64.toUInt64 &&& Int64.toUInt64 63)).toInt64) &&& ((255))).toInt32)) (n + 1 + padZ n + 1) ((((((8) * (nI n).toInt64).toUInt64 >>> ((nI (48)).toInt64.toUInt64 &&& Int64.toUInt64 63)).toInt64) &&& ((255))).toInt32)) (n + 1 + padZ n + 1 + 1) ((((((8) * (nI n).toInt64).toUInt64 >>> ((nI (40)).toInt64.toUInt64 &&& Int64.toUInt64 63)).toInt64) &&& ((255))).toInt32)) (n + 1 + padZ n + 1 + 1 + 1) ((((((8) * (nI n).toInt64).toUInt64 >>> ((nI (32)).toInt64.toUInt64 &&& Int64.toUInt64 63)).toInt64) &&& ((255))).toInt32)) (n + 1 + padZ n + 1 + 1 + 1 + 1) ((((((8) * (nI n).toInt64).toUInt64 >>> ((nI (24)).toInt64.toUInt64 &&& Int64.toUInt64 63)).toInt64) &&& ((255))).toInt32)) (n + 1 + padZ n + 1 + 1 + 1 + 1 + 1) ((((((8) * (nI n).toInt64).toUInt64 >>> ((nI (16)).toInt64.toUInt64 &&& Int64.toUInt64 63)).toInt64) &&& ((255))).toInt32)) (n + 1 + padZ n + 1 + 1 + 1 + 1 + 1 + 1) ((((((8) * (nI n).toInt64).toUInt64 >>> ((nI (8)).toInt64.toUInt64 &&& Int64.toUInt64 63)).toInt64) &&& ((255))).toInt32)) (n + 1 + padZ n + 1 + 1 + 1 + 1 + 1 + 1 + 1)) H locs := w
                      refine lv_iinc (v := nI (0)) (lv' := [(4, .int (nI (0))), (0, .ref (ad (0))), (1, .int (z)), (2, .long ((8) * (nI n).toInt64))]) hx hbc dX8_work_59 hl (k := 0) rfl (by decide) (by decide) rfl (fun ls hl => ?_)
                      refine lv_goto (tgt := 41) hx hbc dX8_work_62 (by decide) ?_
                      refine lv_iload hx hbc dX8_work_41 (lv_at hl 0 rfl) ?_
                      refine lv_if_lt (tgt := 65) hx hbc dX8_work_43 (by decide) (fun c_43 => ?_) (fun c_43 => ?_)
                      · exact absurd c_43 (by decide)
                      · refine lv_aload_n hx hbc dX8_work_46 rfl (lv_at hl 1 rfl) ?_
                        refine lv_lload_n hx hbc dX8_work_47 rfl (lv_at hl 3 rfl) ?_
                        refine lv_iload hx hbc dX8_work_48 (lv_at hl 0 rfl) ?_
                        refine lv_lushr hx hbc dX8_work_50 rfl ?_
                        refine lv_ldc2 (v := (255)) hx hbc hown (hg _ wk_800) dX8_work_51 ?_
                        refine lv_land hx hbc dX8_work_54 ?_
                        refine lv_l2i hx hbc dX8_work_55 rfl ?_
                        refine wb_Vv (na := 1) (As := [.int ((((((8) * (nI n).toInt64).toUInt64 >>> ((nI (0)).toInt64.toUInt64 &&& Int64.toUInt64 63)).toInt64) &&& ((255))).toInt32)]) (rest := []) hx hbc hml hg hown w E0_ok trivial w.1 Sub.self 0 (by decide) rfl rfl (k_X8_put l D cy ad (pst S (upd (upd (upd (upd (upd (upd (upd (pts (upd g n (nI 128)) (n + 1) (fun _ => nI 0) (padZ n)) (n + 1 + padZ n) ((((((8) * (nI n).toInt64).toUInt64 >>> ((nI (56)).toInt64.toUInt64 &&& Int64.toUInt64 63)).toInt64) &&& ((255))).toInt32)) (n + 1 + padZ n + 1) ((((((8) * (nI n).toInt64).toUInt64 >>> ((nI (48)).toInt64.toUInt64 &&& Int64.toUInt64 63)).toInt64) &&& ((255))).toInt32)) (n + 1 + padZ n + 1 + 1) ((((((8) * (nI n).toInt64).toUInt64 >>> ((nI (40)).toInt64.toUInt64 &&& Int64.toUInt64 63)).toInt64) &&& ((255))).toInt32)) (n + 1 + padZ n + 1 + 1 + 1) ((((((8) * (nI n).toInt64).toUInt64 >>> ((nI (32)).toInt64.toUInt64 &&& Int64.toUInt64 63)).toInt64) &&& ((255))).toInt32)) (n + 1 + padZ n + 1 + 1 + 1 + 1) ((((((8) * (nI n).toInt64).toUInt64 >>> ((nI (24)).toInt64.toUInt64 &&& Int64.toUInt64 63)).toInt64) &&& ((255))).toInt32)) (n + 1 + padZ n + 1 + 1 + 1 + 1 + 1) ((((((8) * (nI n).toInt64).toUInt64 >>> ((nI (16)).toInt64.toUInt64 &&& Int64.toUInt64 63)).toInt64) &&& ((255))).toInt32)) (n + 1 + padZ n + 1 + 1 + 1 + 1 + 1 + 1) ((((((8) * (nI n).toInt64).toUInt64 >>> ((nI (8)).toInt64.toUInt64 &&& Int64.toUInt64 63)).toInt64) &&& ((255))).toInt32)) (n + 1 + padZ n + 1 + 1 + 1 + 1 + 1 + 1 + 1)) ((((((8) * (nI n).toInt64).toUInt64 >>> ((nI (0)).toInt64.toUInt64 &&& Int64.toUInt64 63)).toInt64) &&& ((255))).toInt32) (n + 1 + padZ n + 1 + 1 + 1 + 1 + 1 + 1 + 1) rfl (by omega)) wk_816 wk_9 wk_813 wk_815 ws_14 ⟨by decide, by decide, by decide⟩ ⟨by rw [hRf]; decide, by rw [hRl]; decide⟩ rfl hl.1 rfl (Nat.le_of_ble_eq_true rfl) dX8_work_56 ⟨Nat.zero_le _, Nat.zero_le _⟩ (fun S9 H locs hp w => ?_)
                        subst hp
                        have w := WB_cast w (pst_pst _ _ _ _ _)
                        have w : WB D (tyM cy) 31 cy ad skM A s (pst S (upd (upd (upd (upd (upd (upd (upd (upd (pts (upd g n (nI 128)) (n + 1) (fun _ => nI 0) (padZ n)) (n + 1 + padZ n) ((((((8) * (nI n).toInt64).toUInt64 >>> ((nI (56)).toInt64.toUInt64 &&& Int64.toUInt64 63)).toInt64) &&& ((255))).toInt32)) (n + 1 + padZ n + 1) ((((((8) * (nI n).toInt64).toUInt64 >>> ((nI (48)).toInt64.toUInt64 &&& Int64.toUInt64 63)).toInt64) &&& ((255))).toInt32)) (n + 1 + padZ n + 1 + 1) ((((((8) * (nI n).toInt64).toUInt64 >>> ((nI (40)).toInt64.toUInt64 &&& Int64.toUInt64 63)).toInt64) &&& ((255))).toInt32)) (n + 1 + padZ n + 1 + 1 + 1) ((((((8) * (nI n).toInt64).toUInt64 >>> ((nI (32)).toInt64.toUInt64 &&& Int64.toUInt64 63)).toInt64) &&& ((255))).toInt32)) (n + 1 + padZ n + 1 + 1 + 1 + 1) ((((((8) * (nI n).toInt64).toUInt64 >>> ((nI (24)).toInt64.toUInt64 &&& Int64.toUInt64 63)).toInt64) &&& ((255))).toInt32)) (n + 1 + padZ n + 1 + 1 + 1 + 1 + 1) ((((((8) * (nI n).toInt64).toUInt64 >>> ((nI (16)).toInt64.toUInt64 &&& Int64.toUInt64 63)).toInt64) &&& ((255))).toInt32)) (n + 1 + padZ n + 1 + 1 + 1 + 1 + 1 + 1) ((((((8) * (nI n).toInt64).toUInt64 >>> ((nI (8)).toInt64.toUInt64 &&& Int64.toUInt64 63)).toInt64) &&& ((255))).toInt32)) (n + 1 + padZ n + 1 + 1 + 1 + 1 + 1 + 1 + 1) ((((((8) * (nI n).toInt64).toUInt64 >>> ((nI (0)).toInt64.toUInt64 &&& Int64.toUInt64 63)).toInt64) &&& ((255))).toInt32)) (n + 1 + padZ n + 1 + 1 + 1 + 1 + 1 + 1 + 1 + 1)) H locs := w
                        refine lv_iinc (v := (-8)) (lv' := [(4, .int ((-8))), (0, .ref (ad (0))), (1, .int (z)), (2, .long ((8) * (nI n).toInt64))]) hx hbc dX8_work_59 hl (k := 0) rfl (by decide) (by decide) rfl (fun ls hl => ?_)
                        refine lv_goto (tgt := 41) hx hbc dX8_work_62 (by decide) ?_
                        refine lv_iload hx hbc dX8_work_41 (lv_at hl 0 rfl) ?_
                        refine lv_if_lt (tgt := 65) hx hbc dX8_work_43 (by decide) (fun c_43 => ?_) (fun c_43 => ?_)
                        · refine lv_iconst (v := nI (0)) hx hbc dX8_work_65 (by decide) ?_
                          refine lv_istore (lv' := [(4, .int (nI (0))), (0, .ref (ad (0))), (1, .int (z)), (2, .long ((8) * (nI n).toInt64))]) hx hbc dX8_work_66 hl (by decide) rfl (fun ls hl => ?_)
                          have w : WB D (tyM cy) 31 cy ad skM A s (pst S (padM g n) (padL n)) H locs := w
                          have lp_68 : ∀ (fu : Nat) (k : Nat) (H : Heap) (locs : List Loc) (ls : Array Slot), (8 < k + fu) → (k ≤ 8) → WB D (tyM cy) 31 cy ad skM A s (sB (pst S (padM g n) (padL n)) 8 (cps (S.2.1 8) (hSrc S z) k)) H locs → lv_has ls 5 [(0, .ref (ad (0))), (1, .int (z)), (4, .int (nI (k)))] → W p l e R s m args below meth c H locs 0 0 Q (F0 m 68 ls []) := by
                            intro fu
                            induction fu with
                            | zero =>
                              intro k H locs ls h1 h2 w hl
                              exact absurd h1 (by omega)
                            | succ fu ih_68 =>
                              intro k H locs ls h1 h2 w hl
                              refine lv_iload hx hbc dX8_work_68 (lv_at hl 2 rfl) ?_
                              refine lv_bipush (v := nI (8)) hx hbc dX8_work_70 (by decide) ?_
                              refine n_cmp_ge (tgt := 109) (by omega) (by omega) hx hbc dX8_work_72 (by decide) (fun c_72 => ?_) (fun c_72 => ?_)
                              · obtain rfl : k = 8 := by omega
                                have hl := lv_sub (l' := [(0, .ref (ad (0)))]) hl [0] rfl
                                refine lv_iconst (v := nI (0)) hx hbc dX8_work_109 (by decide) ?_
                                refine lv_istore (lv' := [(4, .int (nI (0))), (0, .ref (ad (0)))]) hx hbc dX8_work_110 hl (by decide) rfl (fun ls hl => ?_)
                                have hz : padL n = n + 1 + (119 - n % 64) % 64 + 8 := rfl
                                have lp_112 : ∀ (fu : Nat) (b : Nat) (H : Heap) (locs : List Loc) (ls : Array Slot), (padL n < 64 * b + 64 * fu) → (64 * b ≤ padL n) → WB D (tyM cy) 31 cy ad skM A s (wst (pst S (padM g n) (padL n)) (bks (S.2.1 1) (padM g n) (cps (S.2.1 8) (hSrc S z) 8) (S.2.1 9) b).1 (bks (S.2.1 1) (padM g n) (cps (S.2.1 8) (hSrc S z) 8) (S.2.1 9) b).2 (q + b)) H locs → lv_has ls 5 [(0, .ref (ad (0))), (4, .int (nI (64 * b)))] → W p l e R s m args below meth c H locs 0 0 Q (F0 m 112 ls []) := by
                                  intro fu
                                  induction fu with
                                  | zero =>
                                    intro b H locs ls h1 h2 w hl
                                    exact absurd h1 (by omega)
                                  | succ fu ih_112 =>
                                    intro b H locs ls h1 h2 w hl
                                    refine lv_iload hx hbc dX8_work_112 (lv_at hl 1 rfl) ?_
                                    refine lv_aload_n hx hbc dX8_work_114 rfl (lv_at hl 0 rfl) ?_
                                    refine wb_gi (v := nI (padL n)) hx hbc hg hown w inG_X8 0 (by decide) rfl rfl 8 (by decide) rfl wk_675 rfl dX8_work_115 ?_
                                    refine n_cmp_ge (tgt := 143) (by omega) (by omega) hx hbc dX8_work_118 (by decide) (fun c_118 => ?_) (fun c_118 => ?_)
                                    · obtain rfl : b = padL n / 64 := by omega
                                      refine lv_aload_n hx hbc dX8_work_143 rfl (lv_at hl 0 rfl) ?_
                                      refine lv_iconst (v := nI (0)) hx hbc dX8_work_144 (by decide) ?_
                                      refine wb_pi (v := nI (0)) hx hbc hg hown w inG_X8 tyX8 tyX8_ok nmX8 0 (by decide) rfl rfl 8 (by decide) rfl wk_675 rfl rfl rfl rfl dX8_work_145 (fun H locs w => ?_)
                                      exact hend _ _ _ _ _ (wst_size S (padM g n) _ _ (padL n) _) w dX8_work_148
                                    · refine lv_aload_n hx hbc dX8_work_121 rfl (lv_at hl 0 rfl) ?_
                                      refine lv_iload hx hbc dX8_work_122 (lv_at hl 1 rfl) ?_
                                      refine wb_Vv (na := 1) (As := [.int (nI (64 * b))]) (rest := []) hx hbc hml hg hown w E0_ok trivial w.1 Sub.self 0 (by decide) rfl rfl (k_X8_block l D cy ad (wst (pst S (padM g n) (padL n)) (bks (S.2.1 1) (padM g n) (cps (S.2.1 8) (hSrc S z) 8) (S.2.1 9) b).1 (bks (S.2.1 1) (padM g n) (cps (S.2.1 8) (hSrc S z) 8) (S.2.1 9) b).2 (q + b)) (64 * b) (by omega)) wk_825 wk_9 wk_822 wk_824 ws_16 ⟨by decide, by decide, by decide⟩ ⟨by rw [hRf]; decide, by rw [hRl]; decide⟩ rfl hl.1 rfl (Nat.le_of_ble_eq_true rfl) dX8_work_124 ⟨Nat.zero_le _, Nat.zero_le _⟩ (fun S9 H locs hp w => ?_)
                                      subst hp
                                      have w := WB_cast w (wst_blk _ _ _ _ _ _)
                                      have w : WB D (tyM cy) 31 cy ad skM A s (wst (pst S (padM g n) (padL n)) (cmpB (S.2.1 1) ((bks (S.2.1 1) (padM g n) (cps (S.2.1 8) (hSrc S z) 8) (S.2.1 9) b).1) (wBlk ((bks (S.2.1 1) (padM g n) (cps (S.2.1 8) (hSrc S z) 8) (S.2.1 9) b).2) (padM g n) (64 * b))) (wBlk ((bks (S.2.1 1) (padM g n) (cps (S.2.1 8) (hSrc S z) 8) (S.2.1 9) b).2) (padM g n) (64 * b)) (q + b)) H locs := w
                                      refine lv_aload_n hx hbc dX8_work_127 rfl (lv_at hl 0 rfl) ?_
                                      refine lv_dup hx hbc dX8_work_128 rfl ?_
                                      refine wb_gi (v := nI (q + b)) hx hbc hg hown w inG_X8 0 (by decide) rfl rfl 11 (by decide) rfl wk_678 rfl dX8_work_129 ?_
                                      refine lv_iconst (v := nI (1)) hx hbc dX8_work_132 (by decide) ?_
                                      refine n_iadd hx hbc dX8_work_133 ?_
                                      refine wb_pi (v := nI ((q + b) + 1)) hx hbc hg hown w inG_X8 tyX8 tyX8_ok nmX8 0 (by decide) rfl rfl 11 (by decide) rfl wk_678 rfl rfl rfl rfl dX8_work_134 (fun H locs w => ?_)
                                      refine lv_iinc (v := nI (64 * b + 64)) (lv' := [(4, .int (nI (64 * b + 64))), (0, .ref (ad (0)))]) hx hbc dX8_work_137 hl (k := 1) rfl (ni_inc _ _) (by decide) rfl (fun ls hl => ?_)
                                      refine lv_goto (tgt := 112) hx hbc dX8_work_140 (by decide) ?_
                                      exact ih_112 (b + 1) _ _ _ (by omega) (by omega) (WB_cast w (by rw [wst_gone]; rfl)) (lv_sub hl [1, 0] rfl)
                                exact lp_112 (padL n) 0 _ _ _ (by omega) (by omega) (WB_cast w (wst_beg S (padM g n) (padL n) _ q hq)) (lv_sub hl [1, 0] rfl)
                              · refine lv_aload_n hx hbc dX8_work_75 rfl (lv_at hl 0 rfl) ?_
                                refine wb_gr (t := 8) hx hbc hg hown w inG_X8 0 (by decide) rfl rfl 9 (by decide) rfl wk_676 dX8_work_76 ?_
                                refine lv_iload hx hbc dX8_work_79 (lv_at hl 2 rfl) ?_
                                refine lv_iload_n hx hbc dX8_work_81 rfl (lv_at hl 1 rfl) ?_
                                refine lv_if_eq (tgt := 95) hx hbc dX8_work_82 (by decide) (fun c_82 => ?_) (fun c_82 => ?_)
                                · refine lv_aload_n hx hbc dX8_work_95 rfl (lv_at hl 0 rfl) ?_
                                  refine wb_gr (t := 2) hx hbc hg hown w inG_X8 0 (by decide) rfl rfl 2 (by decide) rfl wk_669 dX8_work_96 ?_
                                  refine lv_iload hx hbc dX8_work_99 (lv_at hl 2 rfl) ?_
                                  refine wb_iald (k := k) (v := (S.2.1 2) k) hx hbc w 2 (by decide) rfl 0 rfl rfl (by omega) (by decide) rfl dX8_work_101 ?_
                                  refine wb_iast (k := k) (f := cps (S.2.1 8) (hSrc S z) k) hx hbc w 8 (by decide) rfl 0 rfl rfl (by omega) (by decide) rfl rfl dX8_work_102 (fun H locs w => ?_)
                                  refine lv_iinc (v := nI (k + 1)) (lv' := [(4, .int (nI (k + 1))), (0, .ref (ad (0))), (1, .int (z))]) hx hbc dX8_work_103 hl (k := 2) rfl (ni_inc _ _) (by decide) rfl (fun ls hl => ?_)
                                  refine lv_goto (tgt := 68) hx hbc dX8_work_106 (by decide) ?_
                                  exact ih_68 (k + 1) _ _ _ (by omega) (by omega) (WB_cast w (by first | (rw [sB_sB]; simp only [cps]; have e9 : hSrc S z = S.2.1 2 := if_pos c_82; rw [e9]) | (rw [sB_sB]; simp only [cps]; have e9 : hSrc S z = S.2.1 3 := if_neg c_82; rw [e9]))) (lv_sub hl [1, 2, 0] rfl)
                                · refine lv_aload_n hx hbc dX8_work_85 rfl (lv_at hl 0 rfl) ?_
                                  refine wb_gr (t := 3) hx hbc hg hown w inG_X8 0 (by decide) rfl rfl 3 (by decide) rfl wk_670 dX8_work_86 ?_
                                  refine lv_iload hx hbc dX8_work_89 (lv_at hl 2 rfl) ?_
                                  refine wb_iald (k := k) (v := (S.2.1 3) k) hx hbc w 3 (by decide) rfl 0 rfl rfl (by omega) (by decide) rfl dX8_work_91 ?_
                                  refine lv_goto (tgt := 102) hx hbc dX8_work_92 (by decide) ?_
                                  refine wb_iast (k := k) (f := cps (S.2.1 8) (hSrc S z) k) hx hbc w 8 (by decide) rfl 0 rfl rfl (by omega) (by decide) rfl rfl dX8_work_102 (fun H locs w => ?_)
                                  refine lv_iinc (v := nI (k + 1)) (lv' := [(4, .int (nI (k + 1))), (0, .ref (ad (0))), (1, .int (z))]) hx hbc dX8_work_103 hl (k := 2) rfl (ni_inc _ _) (by decide) rfl (fun ls hl => ?_)
                                  refine lv_goto (tgt := 68) hx hbc dX8_work_106 (by decide) ?_
                                  exact ih_68 (k + 1) _ _ _ (by omega) (by omega) (WB_cast w (by first | (rw [sB_sB]; simp only [cps]; have e9 : hSrc S z = S.2.1 2 := if_pos c_82; rw [e9]) | (rw [sB_sB]; simp only [cps]; have e9 : hSrc S z = S.2.1 3 := if_neg c_82; rw [e9]))) (lv_sub hl [1, 2, 0] rfl)
                          exact lp_68 9 0 _ _ _ (by decide) (by decide) (WB_cast w (by simp only [cps]; exact (pst_8 S (padM g n) (padL n)).symm)) (lv_sub hl [1, 2, 0] rfl)
                        · exact absurd c_43 (by decide)
      · have hj : j < padZ n := by omega
        refine lv_aload_n hx hbc dX8_work_29 rfl (lv_at hl 0 rfl) ?_
        refine lv_iconst (v := nI (0)) hx hbc dX8_work_30 (by decide) ?_
        refine wb_Vv (na := 1) (As := [.int (nI (0))]) (rest := []) hx hbc hml hg hown w E0_ok trivial w.1 Sub.self 0 (by decide) rfl rfl (k_X8_put l D cy ad (pst S (pts (upd g n (nI 128)) (n + 1) (fun _ => nI 0) j) (n + 1 + j)) (nI (0)) (n + 1 + j) rfl (by omega)) wk_816 wk_9 wk_813 wk_815 ws_14 ⟨by decide, by decide, by decide⟩ ⟨by rw [hRf]; decide, by rw [hRl]; decide⟩ rfl hl.1 rfl (Nat.le_of_ble_eq_true rfl) dX8_work_31 ⟨Nat.zero_le _, Nat.zero_le _⟩ (fun S9 H locs hp w => ?_)
        subst hp
        have w := WB_cast w (pst_pst _ _ _ _ _)
        have w : WB D (tyM cy) 31 cy ad skM A s (pst S (upd (pts (upd g n (nI 128)) (n + 1) (fun _ => nI 0) j) (n + 1 + j) (nI (0))) (n + 1 + j + 1)) H locs := w
        refine lv_goto (tgt := 17) hx hbc dX8_work_34 (by decide) ?_
        exact ih_17 (j + 1) _ _ _ (by omega) (by omega) w (lv_sub hl [0, 1, 2] rfl)
  exact lp_17 (padZ n + 1) 0 _ _ _ (by omega) (Nat.zero_le _) w (lv_sub hl [1, 2, 0] rfl)
