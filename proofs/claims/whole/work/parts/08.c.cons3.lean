set_option maxHeartbeats 2000000 in
set_option maxRecDepth 100000 in
theorem k_nBytes (l : Launch) (D : va_G) (cy : Nat → ClassId) (a : Nat) : CtN l yX0_init (Cond.code yX0_init cX0_init 1 none :: wsG) 1 12 1 200 [.ref a] D cy [(a, .inr (3, [.null, .int 0]))] (fun w1 => ∃ b, w1 = [(a, .inr (3, [.ref b, .int 0])), (b, eI cy 1 200)]) := by
  refine CtN_of (by decide) (Nat.le_of_ble_eq_true rfl) ?_
  intro p e s m args below meth c A ls R Q hB hin hR hret
  subst hR
  obtain ⟨hx, hbc, hr, hg, hown, hml, hlk, w, hE, hl⟩ := hB
  have hin : meth.name = "<init>" := hin
  have hl : lv_has ls 1 [(0, .ref a)] := hl
  refine lv_aload_n hx hbc dX0_init_0 rfl (lv_at hl 0 rfl) ?_
  refine W.objInit hx hbc hown (hg _ wk_33) (hg _ wk_26) (hg _ wk_27) rfl (by rw [hml]; exact hl.1) rfl dX0_init_1 (Nat.le_of_ble_eq_true rfl) (Nat.le_of_ble_eq_true rfl) ?_
  refine lv_aload_n hx hbc dX0_init_4 rfl (lv_at hl 0 rfl) ?_
  refine lv_sipush (v := nI 200) hx hbc dX0_init_5 (by decide) ?_
  refine cb_newB (n := 200) hx hbc hg wk_46 w (by decide) (Nat.le_of_ble_eq_true rfl) (Nat.le_of_ble_eq_true rfl) dX0_init_8 (fun q1 H w => ?_)
  refine cb_putF (v := .ref q1) hx hbc hg inG_X0 tyX0 tyX0_ok nmX0 hown w 0 rfl rfl 0 (by decide) wk_34 rfl hin rfl rfl rfl (Nat.le_of_ble_eq_true rfl) dX0_init_10 (L' := ([(a, .inr (3, [.ref q1, .int 0]))] ++ [(q1, eI cy 1 200)])) rfl (fun H locs w => ?_)
  exact hret _ _ _ _ _ ⟨q1, rfl⟩ w dX0_init_13
set_option maxHeartbeats 2000000 in
set_option maxRecDepth 100000 in
theorem k_nMill (l : Launch) (D : va_G) (cy : Nat → ClassId) (a : Nat) : CtN l yX2_init (Cond.code yX2_init cX2_init 1 none :: wsG) 1 12 2 72 [.ref a] D cy [(a, .inr (5, [.null, .null, .int 0, .int 0, .int 0]))] (fun w1 => ∃ b c, w1 = [(a, .inr (5, [.ref b, .ref c, .int 0, .int 0, .int 0])), (b, eI cy 0 8), (c, eI cy 0 64)]) := by
  refine CtN_of (by decide) (Nat.le_of_ble_eq_true rfl) ?_
  intro p e s m args below meth c A ls R Q hB hin hR hret
  subst hR
  obtain ⟨hx, hbc, hr, hg, hown, hml, hlk, w, hE, hl⟩ := hB
  have hin : meth.name = "<init>" := hin
  have hl : lv_has ls 1 [(0, .ref a)] := hl
  refine lv_aload_n hx hbc dX2_init_0 rfl (lv_at hl 0 rfl) ?_
  refine W.objInit hx hbc hown (hg _ wk_52) (hg _ wk_26) (hg _ wk_27) rfl (by rw [hml]; exact hl.1) rfl dX2_init_1 (Nat.le_of_ble_eq_true rfl) (Nat.le_of_ble_eq_true rfl) ?_
  refine lv_aload_n hx hbc dX2_init_4 rfl (lv_at hl 0 rfl) ?_
  refine lv_bipush (v := nI 8) hx hbc dX2_init_5 (by decide) ?_
  refine cb_newI (n := 8) hx hbc hg wk_72 w (by decide) (Nat.le_of_ble_eq_true rfl) (Nat.le_of_ble_eq_true rfl) dX2_init_7 (fun q1 H w => ?_)
  refine cb_putF (v := .ref q1) hx hbc hg inG_X2 tyX2 tyX2_ok nmX2 hown w 0 rfl rfl 0 (by decide) wk_53 rfl hin rfl rfl rfl (Nat.le_of_ble_eq_true rfl) dX2_init_9 (L' := ([(a, .inr (5, [.ref q1, .null, .int 0, .int 0, .int 0]))] ++ [(q1, eI cy 0 8)])) rfl (fun H locs w => ?_)
  refine lv_aload_n hx hbc dX2_init_12 rfl (lv_at hl 0 rfl) ?_
  refine lv_bipush (v := nI 64) hx hbc dX2_init_13 (by decide) ?_
  refine cb_newI (n := 64) hx hbc hg wk_72 w (by decide) (Nat.le_of_ble_eq_true rfl) (Nat.le_of_ble_eq_true rfl) dX2_init_15 (fun q2 H w => ?_)
  refine cb_putF (v := .ref q2) hx hbc hg inG_X2 tyX2 tyX2_ok nmX2 hown w 0 rfl rfl 1 (by decide) wk_54 rfl hin rfl rfl rfl (Nat.le_of_ble_eq_true rfl) dX2_init_17 (L' := (([(a, .inr (5, [.ref q1, .ref q2, .int 0, .int 0, .int 0]))] ++ [(q1, eI cy 0 8)]) ++ [(q2, eI cy 0 64)])) rfl (fun H locs w => ?_)
  exact hret _ _ _ _ _ ⟨q1, q2, rfl⟩ w dX2_init_20
set_option maxHeartbeats 2000000 in
set_option maxRecDepth 100000 in
theorem k_nMsg (l : Launch) (D : va_G) (cy : Nat → ClassId) (a : Nat) (mm : Nat) : CtN l yX1_init (Cond.code yX1_init cX1_init 2 none :: wsG) 1 12 2 96 [.ref a, .ref mm] D cy [(a, .inr (4, [.null, .null, .null, .int 0, .int 0, .int 0, .int 0]))] (fun w1 => ∃ b c, w1 = [(a, .inr (4, [.ref mm, .ref b, .ref c, .int 0, .int 0, .int 0, .int 0])), (b, eI cy 1 64), (c, eI cy 1 32)]) := by
  refine CtN_of (by decide) (Nat.le_of_ble_eq_true rfl) ?_
  intro p e s m args below meth c A ls R Q hB hin hR hret
  subst hR
  obtain ⟨hx, hbc, hr, hg, hown, hml, hlk, w, hE, hl⟩ := hB
  have hin : meth.name = "<init>" := hin
  have hl : lv_has ls 2 [(0, .ref a), (1, .ref mm)] := hl
  refine lv_aload_n hx hbc dX1_init_0 rfl (lv_at hl 0 rfl) ?_
  refine W.objInit hx hbc hown (hg _ wk_78) (hg _ wk_26) (hg _ wk_27) rfl (by rw [hml]; exact hl.1) rfl dX1_init_1 (Nat.le_of_ble_eq_true rfl) (Nat.le_of_ble_eq_true rfl) ?_
  refine lv_aload_n hx hbc dX1_init_4 rfl (lv_at hl 0 rfl) ?_
  refine lv_bipush (v := nI 64) hx hbc dX1_init_5 (by decide) ?_
  refine cb_newB (n := 64) hx hbc hg wk_46 w (by decide) (Nat.le_of_ble_eq_true rfl) (Nat.le_of_ble_eq_true rfl) dX1_init_7 (fun q1 H w => ?_)
  refine cb_putF (v := .ref q1) hx hbc hg inG_X1 tyX1 tyX1_ok nmX1 hown w 0 rfl rfl 1 (by decide) wk_80 rfl hin rfl rfl rfl (Nat.le_of_ble_eq_true rfl) dX1_init_9 (L' := ([(a, .inr (4, [.null, .ref q1, .null, .int 0, .int 0, .int 0, .int 0]))] ++ [(q1, eI cy 1 64)])) rfl (fun H locs w => ?_)
  refine lv_aload_n hx hbc dX1_init_12 rfl (lv_at hl 0 rfl) ?_
  refine lv_bipush (v := nI 32) hx hbc dX1_init_13 (by decide) ?_
  refine cb_newB (n := 32) hx hbc hg wk_46 w (by decide) (Nat.le_of_ble_eq_true rfl) (Nat.le_of_ble_eq_true rfl) dX1_init_15 (fun q2 H w => ?_)
  refine cb_putF (v := .ref q2) hx hbc hg inG_X1 tyX1 tyX1_ok nmX1 hown w 0 rfl rfl 2 (by decide) wk_81 rfl hin rfl rfl rfl (Nat.le_of_ble_eq_true rfl) dX1_init_17 (L' := (([(a, .inr (4, [.null, .ref q1, .ref q2, .int 0, .int 0, .int 0, .int 0]))] ++ [(q1, eI cy 1 64)]) ++ [(q2, eI cy 1 32)])) rfl (fun H locs w => ?_)
  refine lv_aload_n hx hbc dX1_init_20 rfl (lv_at hl 0 rfl) ?_
  refine lv_aload_n hx hbc dX1_init_21 rfl (lv_at hl 1 rfl) ?_
  refine cb_putF (v := .ref mm) hx hbc hg inG_X1 tyX1 tyX1_ok nmX1 hown w 0 rfl rfl 0 (by decide) wk_79 rfl hin rfl rfl rfl (Nat.le_of_ble_eq_true rfl) dX1_init_22 (L' := (([(a, .inr (4, [.ref mm, .ref q1, .ref q2, .int 0, .int 0, .int 0, .int 0]))] ++ [(q1, eI cy 1 64)]) ++ [(q2, eI cy 1 32)])) rfl (fun H locs w => ?_)
  exact hret _ _ _ _ _ ⟨q1, q2, rfl⟩ w dX1_init_25
set_option maxHeartbeats 2000000 in
set_option maxRecDepth 100000 in
theorem k_nProof (l : Launch) (D : va_G) (cy : Nat → ClassId) (a : Nat) : CtN l yX3_init (Cond.code yX3_init cX3_init 1 none :: wsG) 1 12 5 132 [.ref a] D cy [(a, .inr (6, [.null, .int 0]))] (fun w1 => ∃ q r, w1 = ([(a, .inr (6, [.ref q, .int 0]))] ++ ([(q, eQ cy 5 4 (rwQ 4 r))] ++ rwL 4 r (eI cy 1 32)))) := by
  refine CtN_of (by decide) (Nat.le_of_ble_eq_true rfl) ?_
  intro p e s m args below meth c A ls R Q hB hin hR hret
  subst hR
  obtain ⟨hx, hbc, hr, hg, hown, hml, hlk, w, hE, hl⟩ := hB
  have hin : meth.name = "<init>" := hin
  have hl : lv_has ls 1 [(0, .ref a)] := hl
  refine lv_aload_n hx hbc dX3_init_0 rfl (lv_at hl 0 rfl) ?_
  refine W.objInit hx hbc hown (hg _ wk_143) (hg _ wk_26) (hg _ wk_27) rfl (by rw [hml]; exact hl.1) rfl dX3_init_1 (Nat.le_of_ble_eq_true rfl) (Nat.le_of_ble_eq_true rfl) ?_
  refine lv_aload_n hx hbc dX3_init_4 rfl (lv_at hl 0 rfl) ?_
  refine lv_iconst (v := nI 4) hx hbc dX3_init_5 (by decide) ?_
  refine lv_bipush (v := nI 32) hx hbc dX3_init_6 (by decide) ?_
  refine cb_mna (ty := .byte) (k := 5) (k0 := 1) (n := 4) (n2 := 32) hx hbc hg hown wk_144 hE.2.1 wk_46 w rfl (Or.inr ⟨rfl, rfl⟩) (by decide) (by decide) (Nat.le_of_ble_eq_true rfl) (Nat.le_of_ble_eq_true rfl) dX3_init_8 (fun q1 r2 H w => ?_)
  refine cb_putF (v := .ref q1) hx hbc hg inG_X3 tyX3 tyX3_ok nmX3 hown w 0 rfl rfl 0 (by decide) wk_145 rfl hin rfl rfl rfl (Nat.le_of_ble_eq_true rfl) dX3_init_12 (L' := ([(a, .inr (6, [.ref q1, .int 0]))] ++ ([(q1, eQ cy 5 4 (rwQ 4 r2))] ++ rwL 4 r2 (eI cy 1 32)))) rfl (fun H locs w => ?_)
  exact hret _ _ _ _ _ ⟨q1, r2, rfl⟩ w dX3_init_15
set_option maxHeartbeats 2000000 in
set_option maxRecDepth 100000 in
theorem k_nStore (l : Launch) (D : va_G) (cy : Nat → ClassId) (a : Nat) : CtN l yX5_init (Cond.code yX5_init cX5_init 1 none :: wsG) 1 12 43 1720 [.ref a] D cy [(a, .inr (8, [.null, .null, .null, .int 0, .int 0, .int 0]))] (fun w1 => ∃ q r b c, w1 = ((([(a, .inr (8, [.ref q, .ref b, .ref c, .int 0, .int 0, .int 0]))] ++ ([(q, eQ cy 5 40 (rwQ 40 r))] ++ rwL 40 r (eI cy 1 40))) ++ [(b, eI cy 0 40)]) ++ [(c, eI cy 0 40)])) := by
  refine CtN_of (by decide) (Nat.le_of_ble_eq_true rfl) ?_
  intro p e s m args below meth c A ls R Q hB hin hR hret
  subst hR
  obtain ⟨hx, hbc, hr, hg, hown, hml, hlk, w, hE, hl⟩ := hB
  have hin : meth.name = "<init>" := hin
  have hl : lv_has ls 1 [(0, .ref a)] := hl
  refine lv_aload_n hx hbc dX5_init_0 rfl (lv_at hl 0 rfl) ?_
  refine W.objInit hx hbc hown (hg _ wk_159) (hg _ wk_26) (hg _ wk_27) rfl (by rw [hml]; exact hl.1) rfl dX5_init_1 (Nat.le_of_ble_eq_true rfl) (Nat.le_of_ble_eq_true rfl) ?_
  refine lv_aload_n hx hbc dX5_init_4 rfl (lv_at hl 0 rfl) ?_
  refine lv_bipush (v := nI 40) hx hbc dX5_init_5 (by decide) ?_
  refine lv_bipush (v := nI 40) hx hbc dX5_init_7 (by decide) ?_
  refine cb_mna (ty := .byte) (k := 5) (k0 := 1) (n := 40) (n2 := 40) hx hbc hg hown wk_160 hE.2.1 wk_46 w rfl (Or.inr ⟨rfl, rfl⟩) (by decide) (by decide) (Nat.le_of_ble_eq_true rfl) (Nat.le_of_ble_eq_true rfl) dX5_init_9 (fun q1 r2 H w => ?_)
  refine cb_putF (v := .ref q1) hx hbc hg inG_X5 tyX5 tyX5_ok nmX5 hown w 0 rfl rfl 0 (by decide) wk_161 rfl hin rfl rfl rfl (Nat.le_of_ble_eq_true rfl) dX5_init_13 (L' := ([(a, .inr (8, [.ref q1, .null, .null, .int 0, .int 0, .int 0]))] ++ ([(q1, eQ cy 5 40 (rwQ 40 r2))] ++ rwL 40 r2 (eI cy 1 40)))) rfl (fun H locs w => ?_)
  refine lv_aload_n hx hbc dX5_init_16 rfl (lv_at hl 0 rfl) ?_
  refine lv_bipush (v := nI 40) hx hbc dX5_init_17 (by decide) ?_
  refine cb_newI (n := 40) hx hbc hg wk_72 w (by decide) (Nat.le_of_ble_eq_true rfl) (Nat.le_of_ble_eq_true rfl) dX5_init_19 (fun q3 H w => ?_)
  refine cb_putF (v := .ref q3) hx hbc hg inG_X5 tyX5 tyX5_ok nmX5 hown w 0 rfl rfl 1 (by decide) wk_163 rfl hin rfl rfl rfl (Nat.le_of_ble_eq_true rfl) dX5_init_21 (L' := (([(a, .inr (8, [.ref q1, .ref q3, .null, .int 0, .int 0, .int 0]))] ++ ([(q1, eQ cy 5 40 (rwQ 40 r2))] ++ rwL 40 r2 (eI cy 1 40))) ++ [(q3, eI cy 0 40)])) rfl (fun H locs w => ?_)
  refine lv_aload_n hx hbc dX5_init_24 rfl (lv_at hl 0 rfl) ?_
  refine lv_bipush (v := nI 40) hx hbc dX5_init_25 (by decide) ?_
  refine cb_newI (n := 40) hx hbc hg wk_72 w (by decide) (Nat.le_of_ble_eq_true rfl) (Nat.le_of_ble_eq_true rfl) dX5_init_27 (fun q4 H w => ?_)
  refine cb_putF (v := .ref q4) hx hbc hg inG_X5 tyX5 tyX5_ok nmX5 hown w 0 rfl rfl 2 (by decide) wk_165 rfl hin rfl rfl rfl (Nat.le_of_ble_eq_true rfl) dX5_init_29 (L' := ((([(a, .inr (8, [.ref q1, .ref q3, .ref q4, .int 0, .int 0, .int 0]))] ++ ([(q1, eQ cy 5 40 (rwQ 40 r2))] ++ rwL 40 r2 (eI cy 1 40))) ++ [(q3, eI cy 0 40)]) ++ [(q4, eI cy 0 40)])) rfl (fun H locs w => ?_)
  exact hret _ _ _ _ _ ⟨q1, r2, q3, q4, rfl⟩ w dX5_init_32
set_option maxHeartbeats 2000000 in
set_option maxRecDepth 100000 in
theorem k_nTree (l : Launch) (D : va_G) (cy : Nat → ClassId) (a : Nat) : CtN l yX6_init (Cond.code yX6_init cX6_init 1 none :: wsG) 1 12 26 804 [.ref a] D cy [(a, .inr (9, [.null, .null, .int 0]))] (fun w1 => ∃ b q r, w1 = (([(a, .inr (9, [.ref b, .ref q, .int 0]))] ++ [(b, eI cy 0 12)]) ++ ([(q, eQ cy 5 24 (rwQ 24 r))] ++ rwL 24 r (eI cy 1 32)))) := by
  refine CtN_of (by decide) (Nat.le_of_ble_eq_true rfl) ?_
  intro p e s m args below meth c A ls R Q hB hin hR hret
  subst hR
  obtain ⟨hx, hbc, hr, hg, hown, hml, hlk, w, hE, hl⟩ := hB
  have hin : meth.name = "<init>" := hin
  have hl : lv_has ls 1 [(0, .ref a)] := hl
  refine lv_aload_n hx hbc dX6_init_0 rfl (lv_at hl 0 rfl) ?_
  refine W.objInit hx hbc hown (hg _ wk_188) (hg _ wk_26) (hg _ wk_27) rfl (by rw [hml]; exact hl.1) rfl dX6_init_1 (Nat.le_of_ble_eq_true rfl) (Nat.le_of_ble_eq_true rfl) ?_
  refine lv_aload_n hx hbc dX6_init_4 rfl (lv_at hl 0 rfl) ?_
  refine lv_bipush (v := nI 12) hx hbc dX6_init_5 (by decide) ?_
  refine cb_newI (n := 12) hx hbc hg wk_72 w (by decide) (Nat.le_of_ble_eq_true rfl) (Nat.le_of_ble_eq_true rfl) dX6_init_7 (fun q1 H w => ?_)
  refine cb_putF (v := .ref q1) hx hbc hg inG_X6 tyX6 tyX6_ok nmX6 hown w 0 rfl rfl 0 (by decide) wk_190 rfl hin rfl rfl rfl (Nat.le_of_ble_eq_true rfl) dX6_init_9 (L' := ([(a, .inr (9, [.ref q1, .null, .int 0]))] ++ [(q1, eI cy 0 12)])) rfl (fun H locs w => ?_)
  refine lv_aload_n hx hbc dX6_init_12 rfl (lv_at hl 0 rfl) ?_
  refine lv_bipush (v := nI 24) hx hbc dX6_init_13 (by decide) ?_
  refine lv_bipush (v := nI 32) hx hbc dX6_init_15 (by decide) ?_
  refine cb_mna (ty := .byte) (k := 5) (k0 := 1) (n := 24) (n2 := 32) hx hbc hg hown wk_189 hE.2.1 wk_46 w rfl (Or.inr ⟨rfl, rfl⟩) (by decide) (by decide) (Nat.le_of_ble_eq_true rfl) (Nat.le_of_ble_eq_true rfl) dX6_init_17 (fun q2 r3 H w => ?_)
  refine cb_putF (v := .ref q2) hx hbc hg inG_X6 tyX6 tyX6_ok nmX6 hown w 0 rfl rfl 1 (by decide) wk_192 rfl hin rfl rfl rfl (Nat.le_of_ble_eq_true rfl) dX6_init_21 (L' := (([(a, .inr (9, [.ref q1, .ref q2, .int 0]))] ++ [(q1, eI cy 0 12)]) ++ ([(q2, eQ cy 5 24 (rwQ 24 r3))] ++ rwL 24 r3 (eI cy 1 32)))) rfl (fun H locs w => ?_)
  exact hret _ _ _ _ _ ⟨q1, q2, r3, rfl⟩ w dX6_init_24
set_option maxHeartbeats 2000000 in
set_option maxRecDepth 100000 in
theorem k_nShelf (l : Launch) (D : va_G) (cy : Nat → ClassId) (a : Nat) : CtN l yX4_init (Cond.code yX4_init cX4_init 1 none :: wsG) 1 12 125 3184 [.ref a] D cy [(a, .inr (7, [.null, .null, .null, .null, .null, .int 0]))] (fun w1 => ∃ q r q9 r9 b c d, w1 = ((((([(a, .inr (7, [.ref q, .ref q9, .ref b, .ref c, .ref d, .int 0]))] ++ ([(q, eQ cy 5 60 (rwQ 60 r))] ++ rwL 60 r (eI cy 1 32))) ++ ([(q9, eQ cy 6 60 (rwQ 60 r9))] ++ rwL 60 r9 (eI cy 0 16))) ++ [(b, eI cy 0 60)]) ++ [(c, eI cy 0 60)]) ++ [(d, eI cy 0 64)])) := by
  refine CtN_of (by decide) (Nat.le_of_ble_eq_true rfl) ?_
  intro p e s m args below meth c A ls R Q hB hin hR hret
  subst hR
  obtain ⟨hx, hbc, hr, hg, hown, hml, hlk, w, hE, hl⟩ := hB
  have hin : meth.name = "<init>" := hin
  have hl : lv_has ls 1 [(0, .ref a)] := hl
  refine lv_aload_n hx hbc dX4_init_0 rfl (lv_at hl 0 rfl) ?_
  refine W.objInit hx hbc hown (hg _ wk_108) (hg _ wk_26) (hg _ wk_27) rfl (by rw [hml]; exact hl.1) rfl dX4_init_1 (Nat.le_of_ble_eq_true rfl) (Nat.le_of_ble_eq_true rfl) ?_
  refine lv_aload_n hx hbc dX4_init_4 rfl (lv_at hl 0 rfl) ?_
  refine lv_bipush (v := nI 60) hx hbc dX4_init_5 (by decide) ?_
  refine lv_bipush (v := nI 32) hx hbc dX4_init_7 (by decide) ?_
  refine cb_mna (ty := .byte) (k := 5) (k0 := 1) (n := 60) (n2 := 32) hx hbc hg hown wk_109 hE.2.1 wk_46 w rfl (Or.inr ⟨rfl, rfl⟩) (by decide) (by decide) (Nat.le_of_ble_eq_true rfl) (Nat.le_of_ble_eq_true rfl) dX4_init_9 (fun q1 r2 H w => ?_)
  refine cb_putF (v := .ref q1) hx hbc hg inG_X4 tyX4 tyX4_ok nmX4 hown w 0 rfl rfl 0 (by decide) wk_113 rfl hin rfl rfl rfl (Nat.le_of_ble_eq_true rfl) dX4_init_13 (L' := ([(a, .inr (7, [.ref q1, .null, .null, .null, .null, .int 0]))] ++ ([(q1, eQ cy 5 60 (rwQ 60 r2))] ++ rwL 60 r2 (eI cy 1 32)))) rfl (fun H locs w => ?_)
  refine lv_aload_n hx hbc dX4_init_16 rfl (lv_at hl 0 rfl) ?_
  refine lv_bipush (v := nI 60) hx hbc dX4_init_17 (by decide) ?_
  refine lv_bipush (v := nI 16) hx hbc dX4_init_19 (by decide) ?_
  refine cb_mna (ty := .int) (k := 6) (k0 := 0) (n := 60) (n2 := 16) hx hbc hg hown wk_111 hE.2.2.1 wk_72 w rfl (Or.inl ⟨rfl, rfl⟩) (by decide) (by decide) (Nat.le_of_ble_eq_true rfl) (Nat.le_of_ble_eq_true rfl) dX4_init_21 (fun q3 r4 H w => ?_)
  refine cb_putF (v := .ref q3) hx hbc hg inG_X4 tyX4 tyX4_ok nmX4 hown w 0 rfl rfl 1 (by decide) wk_115 rfl hin rfl rfl rfl (Nat.le_of_ble_eq_true rfl) dX4_init_25 (L' := (([(a, .inr (7, [.ref q1, .ref q3, .null, .null, .null, .int 0]))] ++ ([(q1, eQ cy 5 60 (rwQ 60 r2))] ++ rwL 60 r2 (eI cy 1 32))) ++ ([(q3, eQ cy 6 60 (rwQ 60 r4))] ++ rwL 60 r4 (eI cy 0 16)))) rfl (fun H locs w => ?_)
  refine lv_aload_n hx hbc dX4_init_28 rfl (lv_at hl 0 rfl) ?_
  refine lv_bipush (v := nI 60) hx hbc dX4_init_29 (by decide) ?_
  refine cb_newI (n := 60) hx hbc hg wk_72 w (by decide) (Nat.le_of_ble_eq_true rfl) (Nat.le_of_ble_eq_true rfl) dX4_init_31 (fun q5 H w => ?_)
  refine cb_putF (v := .ref q5) hx hbc hg inG_X4 tyX4 tyX4_ok nmX4 hown w 0 rfl rfl 2 (by decide) wk_116 rfl hin rfl rfl rfl (Nat.le_of_ble_eq_true rfl) dX4_init_33 (L' := ((([(a, .inr (7, [.ref q1, .ref q3, .ref q5, .null, .null, .int 0]))] ++ ([(q1, eQ cy 5 60 (rwQ 60 r2))] ++ rwL 60 r2 (eI cy 1 32))) ++ ([(q3, eQ cy 6 60 (rwQ 60 r4))] ++ rwL 60 r4 (eI cy 0 16))) ++ [(q5, eI cy 0 60)])) rfl (fun H locs w => ?_)
  refine lv_aload_n hx hbc dX4_init_36 rfl (lv_at hl 0 rfl) ?_
  refine lv_bipush (v := nI 60) hx hbc dX4_init_37 (by decide) ?_
  refine cb_newI (n := 60) hx hbc hg wk_72 w (by decide) (Nat.le_of_ble_eq_true rfl) (Nat.le_of_ble_eq_true rfl) dX4_init_39 (fun q6 H w => ?_)
  refine cb_putF (v := .ref q6) hx hbc hg inG_X4 tyX4 tyX4_ok nmX4 hown w 0 rfl rfl 3 (by decide) wk_118 rfl hin rfl rfl rfl (Nat.le_of_ble_eq_true rfl) dX4_init_41 (L' := (((([(a, .inr (7, [.ref q1, .ref q3, .ref q5, .ref q6, .null, .int 0]))] ++ ([(q1, eQ cy 5 60 (rwQ 60 r2))] ++ rwL 60 r2 (eI cy 1 32))) ++ ([(q3, eQ cy 6 60 (rwQ 60 r4))] ++ rwL 60 r4 (eI cy 0 16))) ++ [(q5, eI cy 0 60)]) ++ [(q6, eI cy 0 60)])) rfl (fun H locs w => ?_)
  refine lv_aload_n hx hbc dX4_init_44 rfl (lv_at hl 0 rfl) ?_
  refine lv_bipush (v := nI 64) hx hbc dX4_init_45 (by decide) ?_
  refine cb_newI (n := 64) hx hbc hg wk_72 w (by decide) (Nat.le_of_ble_eq_true rfl) (Nat.le_of_ble_eq_true rfl) dX4_init_47 (fun q7 H w => ?_)
  refine cb_putF (v := .ref q7) hx hbc hg inG_X4 tyX4 tyX4_ok nmX4 hown w 0 rfl rfl 4 (by decide) wk_120 rfl hin rfl rfl rfl (Nat.le_of_ble_eq_true rfl) dX4_init_49 (L' := ((((([(a, .inr (7, [.ref q1, .ref q3, .ref q5, .ref q6, .ref q7, .int 0]))] ++ ([(q1, eQ cy 5 60 (rwQ 60 r2))] ++ rwL 60 r2 (eI cy 1 32))) ++ ([(q3, eQ cy 6 60 (rwQ 60 r4))] ++ rwL 60 r4 (eI cy 0 16))) ++ [(q5, eI cy 0 60)]) ++ [(q6, eI cy 0 60)]) ++ [(q7, eI cy 0 64)])) rfl (fun H locs w => ?_)
  exact hret _ _ _ _ _ ⟨q1, r2, q3, r4, q5, q6, q7, rfl⟩ w dX4_init_52
