set_option maxHeartbeats 1000000 in
set_option maxRecDepth 100000 in
theorem lc_read {p : Program} {l : Launch} {e : Env} {s : State} {m : MethodId} {args : Array Value} {below : List Frame} {meth : Method} {c : Code} {Q : State → Prop} {D : va_G} {cy : Nat → ClassId} {ad al sx : Nat → Nat} {A : Nat → Prop} {b L : Nat} {xs : Nat → Int32} {S : wS} {H : Heap} {locs : List Loc} {ls : Array Slot} {i cN sN : Nat} (B : lB p l s m args c A al sx b L xs) (hi : i + 5 ≤ L) (hc9 : cN + 1 ≤ 603072) (hs9 : sN + 8 ≤ 7211114) (hR : LR S) (w : WB D (tyC cy) 354 cy ad skL A s S H locs) (hl : lv_has ls 8 [(4, .int (nI i)), (3, .ref (ad 353)), (2, .ref (ad 322)), (1, .ref (ad 57)), (0, .ref b)])
    (k : ∀ (S : wS) (H : Heap) (locs : List Loc) (ls : Array Slot) (c9 s9 : Nat), LR S → WB D (tyC cy) 354 cy ad skL A s S H locs → lv_has ls 8 [(4, .int (nI i)), (3, .ref (ad 353)), (2, .ref (ad 322)), (1, .ref (ad 57)), (0, .ref b)] → c9 ≤ cN + 1 → s9 ≤ sN + 8 → W p l e room_1 s m args below meth c H locs c9 s9 Q (F0 m 1029 ls [])) : W p l e room_1 s m args below meth c H locs cN sN Q (F0 m 375 ls []) := by
  obtain ⟨hx, hbc, hml, hg, hown, hE, hX, hbl, hbA, hlt, hL9⟩ := B
  have hR0 := hR
  obtain ⟨⟨kq1, kq2, kq3, q, hq⟩, ⟨t, hT⟩, ⟨ks, hS⟩, ⟨d, hD⟩, hG, ⟨lv, lz, hB⟩, ⟨pv, hP⟩, ⟨R9, rz, hRR⟩⟩ := hR0
  refine lv_aload_n hx hbc dL_law_375 rfl (lv_at hl 3 rfl) ?_
  refine lv_aload_n hx hbc dL_law_376 rfl (lv_at hl 4 rfl) ?_
  refine lv_iload hx hbc dL_law_377 (lv_at hl 0 rfl) ?_
  refine lv_iconst (v := nI 1) hx hbc dL_law_379 (by decide) ?_
  refine n_iadd hx hbc dL_law_380 ?_
  refine va_sld hx hbc hX hbl hbA w.2.2.2.1 (vp_in_nI (n := i + 1) (N := L) (by omega) (by omega)) dL_law_381 ?_
  rw [nI_clamp (show i + 1 < 2 ^ 31 by omega)]
  refine lv_aload_n hx hbc dL_law_382 rfl (lv_at hl 4 rfl) ?_
  refine lv_iload hx hbc dL_law_383 (lv_at hl 0 rfl) ?_
  refine lv_iconst (v := nI 2) hx hbc dL_law_385 (by decide) ?_
  refine n_iadd hx hbc dL_law_386 ?_
  refine va_sld hx hbc hX hbl hbA w.2.2.2.1 (vp_in_nI (n := i + 2) (N := L) (by omega) (by omega)) dL_law_387 ?_
  rw [nI_clamp (show i + 2 < 2 ^ 31 by omega)]
  refine lv_aload_n hx hbc dL_law_388 rfl (lv_at hl 4 rfl) ?_
  refine lv_iload hx hbc dL_law_389 (lv_at hl 0 rfl) ?_
  refine lv_iconst (v := nI 3) hx hbc dL_law_391 (by decide) ?_
  refine n_iadd hx hbc dL_law_392 ?_
  refine va_sld hx hbc hX hbl hbA w.2.2.2.1 (vp_in_nI (n := i + 3) (N := L) (by omega) (by omega)) dL_law_393 ?_
  rw [nI_clamp (show i + 3 < 2 ^ 31 by omega)]
  refine lv_aload_n hx hbc dL_law_394 rfl (lv_at hl 1 rfl) ?_
  refine wc_H (na := 5) (As := [.ref (ad 57), .int (xs (i + 1)), .int (xs (i + 2)), .int (xs (i + 3)), .ref (ad 353)]) (rest := []) hx hbc hml hg hown w (EX_ok al sx) hE.1 (k_L_read l D cy ad al S sx hlt ((xs (i + 1))) ((xs (i + 2))) ((xs (i + 3))) d hD.1 hD.2.2.1) wk_479 wk_0 wk_477 wk_478 ⟨by decide, by decide, by decide⟩ ⟨Nat.le_of_ble_eq_true rfl, Nat.le_of_ble_eq_true rfl⟩ rfl hl.1 rfl (Nat.le_of_ble_eq_true rfl) dL_law_395 ⟨by show cN + 1 ≤ 603072; omega, by show sN + 6 ≤ 7211114; omega⟩ (fun r S1 H locs hp w => ?_)
  rcases hp with hp | hp
  · obtain ⟨rfl, v, T, hpc, rfl⟩ := hp
    refine lv_istore (lv' := [(5, .int (nI 0)), (4, .int (nI i)), (3, .ref (ad 353)), (2, .ref (ad 322)), (1, .ref (ad 57)), (0, .ref b)]) hx hbc dL_law_398 hl (by decide) rfl (fun ls hl => ?_)
    refine lv_aload_n hx hbc dL_law_400 rfl (lv_at hl 3 rfl) ?_
    refine lv_aload_n hx hbc dL_law_401 rfl (lv_at hl 5 rfl) ?_
    refine lv_iload hx hbc dL_law_402 (lv_at hl 1 rfl) ?_
    refine lv_iconst (v := nI 1) hx hbc dL_law_404 (by decide) ?_
    refine n_iadd hx hbc dL_law_405 ?_
    refine va_sld hx hbc hX hbl hbA w.2.2.2.1 (vp_in_nI (n := i + 1) (N := L) (by omega) (by omega)) dL_law_406 ?_
    rw [nI_clamp (show i + 1 < 2 ^ 31 by omega)]
    refine lv_aload_n hx hbc dL_law_407 rfl (lv_at hl 5 rfl) ?_
    refine lv_iload hx hbc dL_law_408 (lv_at hl 1 rfl) ?_
    refine lv_iconst (v := nI 2) hx hbc dL_law_410 (by decide) ?_
    refine n_iadd hx hbc dL_law_411 ?_
    refine va_sld hx hbc hX hbl hbA w.2.2.2.1 (vp_in_nI (n := i + 2) (N := L) (by omega) (by omega)) dL_law_412 ?_
    rw [nI_clamp (show i + 2 < 2 ^ 31 by omega)]
    refine lv_aload_n hx hbc dL_law_413 rfl (lv_at hl 5 rfl) ?_
    refine lv_iload hx hbc dL_law_414 (lv_at hl 1 rfl) ?_
    refine lv_iconst (v := nI 3) hx hbc dL_law_416 (by decide) ?_
    refine n_iadd hx hbc dL_law_417 ?_
    refine va_sld hx hbc hX hbl hbA w.2.2.2.1 (vp_in_nI (n := i + 3) (N := L) (by omega) (by omega)) dL_law_418 ?_
    rw [nI_clamp (show i + 3 < 2 ^ 31 by omega)]
    refine wc_Vl9 (na := 3) (f := fRf) (As := [.int (xs (i + 1)), .int (xs (i + 2)), .int (xs (i + 3))]) (rest := []) hx hbc hml hg hown w E0_ok trivial (tyM_of w.1) (subMJ S T _) 322 (by decide) skL_322 rfl (k_X8_read l D cy (fun z9 => ad (fRf z9)) (pul S fRf) ((xs (i + 1))) ((xs (i + 2))) ((xs (i + 3))) d hD.2.1 hD.2.2.1) wk_867 wk_9 wk_864 wk_865 wk_866 ⟨by decide, by decide, by decide⟩ ⟨Nat.le_of_ble_eq_true rfl, Nat.le_of_ble_eq_true rfl⟩ rfl hl.1 rfl (Nat.le_of_ble_eq_true rfl) dL_law_419 ⟨by show cN + 1 ≤ 603072; omega, by show sN + 6 ≤ 7211114; omega⟩ (fun r9 M9 hpm H locs w => ?_)
    have w := w _ (lieM.T M9)
    obtain ⟨eth, erv, hR9⟩ := simR_read hR ((xs (i + 1))) ((xs (i + 2))) ((xs (i + 3))) d hD hpc hpm
    refine lv_lstore (lv' := [(6, .long r9), (5, .int (nI 0)), (4, .int (nI i)), (3, .ref (ad 353)), (2, .ref (ad 322)), (1, .ref (ad 57)), (0, .ref b)]) hx hbc dL_law_422 hl (by decide) rfl (fun ls hl => ?_)
    refine lv_aload_n hx hbc dL_law_424 rfl (lv_at hl 4 rfl) ?_
    refine wc_Vi (na := 0) (f := fRf) (As := []) (rest := []) hx hbc hml hg hown w E0_ok trivial (tyM_of w.1) lieM.A 322 (by decide) skL_322 rfl (k_X8_thrown l D cy (fun z9 => ad (fRf z9)) (pul (psh (sJ (psh S fiC T) 353 (vp_updL (S.2.2 353) 0 v)) fiRf M9) fRf) ) wk_792 wk_9 wk_789 wk_790 wk_791 ⟨by decide, by decide, by decide⟩ ⟨Nat.le_of_ble_eq_true rfl, Nat.le_of_ble_eq_true rfl⟩ rfl hl.1 rfl (Nat.le_of_ble_eq_true rfl) dL_law_425 ⟨by show cN + 1 ≤ 603072; omega, by show sN + 6 ≤ 7211114; omega⟩ (fun r3 M3 hp3 H locs w => ?_)
    have w := w _ (lieM.T M3)
    obtain ⟨hp3, rfl⟩ := hp3
    rw [psh_pul lieM] at w
    rw [psh_th, eth] at hp3
    subst hp3
    refine lv_iload hx hbc dL_law_428 (lv_at hl 1 rfl) ?_
    refine lv_icmp_eq (tgt := 435) hx hbc dL_law_430 (by decide) (fun c9 => ?_) (fun c9 => absurd rfl c9)
    refine lv_iload hx hbc dL_law_435 (lv_at hl 1 rfl) ?_
    refine lv_if_ne (tgt := 451) hx hbc dL_law_437 (by decide) (fun c9 => absurd rfl c9) (fun c9 => ?_)
    refine lv_aload_n hx hbc dL_law_440 rfl (lv_at hl 3 rfl) ?_
    refine lv_iconst (v := nI 0) hx hbc dL_law_441 (by decide) ?_
    refine wb_lald (k := 0) (v := v) hx hbc w 353 (by decide) skL_out 2 rfl rfl (by decide) (by decide) (by rw [psh_out, sJ_out]; exact pk_uLs) dL_law_442 ?_
    refine lv_lload hx hbc dL_law_443 (lv_at hl 0 rfl) ?_
    refine W.lcmp hx hbc dL_law_445 ?_
    refine lv_if_eq (tgt := 451) hx hbc dL_law_446 (by decide) (fun c9 => ?_) (fun c9 => absurd (by rw [erv]; exact lg_cmp_rf _) c9)
    refine lv_goto (tgt := 1029) hx hbc dL_law_451 (by decide) ?_
    exact k _ _ _ _ _ _ (LR.bothJ hR9) w (lv_sub hl [2, 3, 4, 5, 6] rfl) (Nat.le_refl _) (by omega)
  · obtain ⟨rfl, T, hpc, rfl⟩ := hp
    refine lv_istore (lv' := [(5, .int (nI 1)), (4, .int (nI i)), (3, .ref (ad 353)), (2, .ref (ad 322)), (1, .ref (ad 57)), (0, .ref b)]) hx hbc dL_law_398 hl (by decide) rfl (fun ls hl => ?_)
    refine lv_aload_n hx hbc dL_law_400 rfl (lv_at hl 3 rfl) ?_
    refine lv_aload_n hx hbc dL_law_401 rfl (lv_at hl 5 rfl) ?_
    refine lv_iload hx hbc dL_law_402 (lv_at hl 1 rfl) ?_
    refine lv_iconst (v := nI 1) hx hbc dL_law_404 (by decide) ?_
    refine n_iadd hx hbc dL_law_405 ?_
    refine va_sld hx hbc hX hbl hbA w.2.2.2.1 (vp_in_nI (n := i + 1) (N := L) (by omega) (by omega)) dL_law_406 ?_
    rw [nI_clamp (show i + 1 < 2 ^ 31 by omega)]
    refine lv_aload_n hx hbc dL_law_407 rfl (lv_at hl 5 rfl) ?_
    refine lv_iload hx hbc dL_law_408 (lv_at hl 1 rfl) ?_
    refine lv_iconst (v := nI 2) hx hbc dL_law_410 (by decide) ?_
    refine n_iadd hx hbc dL_law_411 ?_
    refine va_sld hx hbc hX hbl hbA w.2.2.2.1 (vp_in_nI (n := i + 2) (N := L) (by omega) (by omega)) dL_law_412 ?_
    rw [nI_clamp (show i + 2 < 2 ^ 31 by omega)]
    refine lv_aload_n hx hbc dL_law_413 rfl (lv_at hl 5 rfl) ?_
    refine lv_iload hx hbc dL_law_414 (lv_at hl 1 rfl) ?_
    refine lv_iconst (v := nI 3) hx hbc dL_law_416 (by decide) ?_
    refine n_iadd hx hbc dL_law_417 ?_
    refine va_sld hx hbc hX hbl hbA w.2.2.2.1 (vp_in_nI (n := i + 3) (N := L) (by omega) (by omega)) dL_law_418 ?_
    rw [nI_clamp (show i + 3 < 2 ^ 31 by omega)]
    refine wc_Vl9 (na := 3) (f := fRf) (As := [.int (xs (i + 1)), .int (xs (i + 2)), .int (xs (i + 3))]) (rest := []) hx hbc hml hg hown w E0_ok trivial (tyM_of w.1) (subM0 S T) 322 (by decide) skL_322 rfl (k_X8_read l D cy (fun z9 => ad (fRf z9)) (pul S fRf) ((xs (i + 1))) ((xs (i + 2))) ((xs (i + 3))) d hD.2.1 hD.2.2.1) wk_867 wk_9 wk_864 wk_865 wk_866 ⟨by decide, by decide, by decide⟩ ⟨Nat.le_of_ble_eq_true rfl, Nat.le_of_ble_eq_true rfl⟩ rfl hl.1 rfl (Nat.le_of_ble_eq_true rfl) dL_law_419 ⟨by show cN + 1 ≤ 603072; omega, by show sN + 6 ≤ 7211114; omega⟩ (fun r9 M9 hpm H locs w => ?_)
    have w := w _ (lieM.T M9)
    obtain ⟨eth, hR9⟩ := simE_read hR ((xs (i + 1))) ((xs (i + 2))) ((xs (i + 3))) d hD hpc hpm
    refine lv_lstore (lv' := [(6, .long r9), (5, .int (nI 1)), (4, .int (nI i)), (3, .ref (ad 353)), (2, .ref (ad 322)), (1, .ref (ad 57)), (0, .ref b)]) hx hbc dL_law_422 hl (by decide) rfl (fun ls hl => ?_)
    refine lv_aload_n hx hbc dL_law_424 rfl (lv_at hl 4 rfl) ?_
    refine wc_Vi (na := 0) (f := fRf) (As := []) (rest := []) hx hbc hml hg hown w E0_ok trivial (tyM_of w.1) lieM.A 322 (by decide) skL_322 rfl (k_X8_thrown l D cy (fun z9 => ad (fRf z9)) (pul (psh (psh S fiC T) fiRf M9) fRf) ) wk_792 wk_9 wk_789 wk_790 wk_791 ⟨by decide, by decide, by decide⟩ ⟨Nat.le_of_ble_eq_true rfl, Nat.le_of_ble_eq_true rfl⟩ rfl hl.1 rfl (Nat.le_of_ble_eq_true rfl) dL_law_425 ⟨by show cN + 1 ≤ 603072; omega, by show sN + 6 ≤ 7211114; omega⟩ (fun r3 M3 hp3 H locs w => ?_)
    have w := w _ (lieM.T M3)
    obtain ⟨hp3, rfl⟩ := hp3
    rw [psh_pul lieM] at w
    rw [psh_th, eth] at hp3
    subst hp3
    refine lv_iload hx hbc dL_law_428 (lv_at hl 1 rfl) ?_
    refine lv_icmp_eq (tgt := 435) hx hbc dL_law_430 (by decide) (fun c9 => ?_) (fun c9 => absurd rfl c9)
    refine lv_iload hx hbc dL_law_435 (lv_at hl 1 rfl) ?_
    refine lv_if_ne (tgt := 451) hx hbc dL_law_437 (by decide) (fun c9 => ?_) (fun c9 => absurd c9 (by decide))
    refine lv_goto (tgt := 1029) hx hbc dL_law_451 (by decide) ?_
    exact k _ _ _ _ _ _ (LR.both hR9) w (lv_sub hl [2, 3, 4, 5, 6] rfl) (Nat.le_refl _) (by omega)
set_option maxHeartbeats 1000000 in
set_option maxRecDepth 100000 in
theorem lc_plan {p : Program} {l : Launch} {e : Env} {s : State} {m : MethodId} {args : Array Value} {below : List Frame} {meth : Method} {c : Code} {Q : State → Prop} {D : va_G} {cy : Nat → ClassId} {ad al sx : Nat → Nat} {A : Nat → Prop} {b L : Nat} {xs : Nat → Int32} {S : wS} {H : Heap} {locs : List Loc} {ls : Array Slot} {i cN sN : Nat} (B : lB p l s m args c A al sx b L xs) (hi : i + 5 ≤ L) (hc9 : cN + 1 ≤ 603072) (hs9 : sN + 8 ≤ 7211114) (hR : LR S) (w : WB D (tyC cy) 354 cy ad skL A s S H locs) (hl : lv_has ls 8 [(4, .int (nI i)), (3, .ref (ad 353)), (2, .ref (ad 322)), (1, .ref (ad 57)), (0, .ref b)])
    (k : ∀ (S : wS) (H : Heap) (locs : List Loc) (ls : Array Slot) (c9 s9 : Nat), LR S → WB D (tyC cy) 354 cy ad skL A s S H locs → lv_has ls 8 [(4, .int (nI i)), (3, .ref (ad 353)), (2, .ref (ad 322)), (1, .ref (ad 57)), (0, .ref b)] → c9 ≤ cN + 1 → s9 ≤ sN + 8 → W p l e room_1 s m args below meth c H locs c9 s9 Q (F0 m 1029 ls [])) : W p l e room_1 s m args below meth c H locs cN sN Q (F0 m 454 ls []) := by
  obtain ⟨hx, hbc, hml, hg, hown, hE, hX, hbl, hbA, hlt, hL9⟩ := B
  have hR0 := hR
  obtain ⟨⟨kq1, kq2, kq3, q, hq⟩, ⟨t, hT⟩, ⟨ks, hS⟩, ⟨d, hD⟩, hG, ⟨lv, lz, hB⟩, ⟨pv, hP⟩, ⟨R9, rz, hRR⟩⟩ := hR0
  refine lv_aload_n hx hbc dL_law_454 rfl (lv_at hl 3 rfl) ?_
  refine lv_aload_n hx hbc dL_law_455 rfl (lv_at hl 4 rfl) ?_
  refine lv_iload hx hbc dL_law_456 (lv_at hl 0 rfl) ?_
  refine lv_iconst (v := nI 1) hx hbc dL_law_458 (by decide) ?_
  refine n_iadd hx hbc dL_law_459 ?_
  refine va_sld hx hbc hX hbl hbA w.2.2.2.1 (vp_in_nI (n := i + 1) (N := L) (by omega) (by omega)) dL_law_460 ?_
  rw [nI_clamp (show i + 1 < 2 ^ 31 by omega)]
  refine lv_aload_n hx hbc dL_law_461 rfl (lv_at hl 4 rfl) ?_
  refine lv_iload hx hbc dL_law_462 (lv_at hl 0 rfl) ?_
  refine lv_iconst (v := nI 2) hx hbc dL_law_464 (by decide) ?_
  refine n_iadd hx hbc dL_law_465 ?_
  refine va_sld hx hbc hX hbl hbA w.2.2.2.1 (vp_in_nI (n := i + 2) (N := L) (by omega) (by omega)) dL_law_466 ?_
  rw [nI_clamp (show i + 2 < 2 ^ 31 by omega)]
  refine lv_aload_n hx hbc dL_law_467 rfl (lv_at hl 1 rfl) ?_
  refine wc_H (na := 4) (As := [.ref (ad 57), .int (xs (i + 1)), .int (xs (i + 2)), .ref (ad 353)]) (rest := []) hx hbc hml hg hown w (EX_ok al sx) hE.1 (k_L_plan l D cy ad al S sx hlt ((xs (i + 1))) ((xs (i + 2))) d hD.1 hD.2.2.1) wk_580 wk_0 wk_578 wk_579 ⟨by decide, by decide, by decide⟩ ⟨Nat.le_of_ble_eq_true rfl, Nat.le_of_ble_eq_true rfl⟩ rfl hl.1 rfl (Nat.le_of_ble_eq_true rfl) dL_law_468 ⟨by show cN + 1 ≤ 603072; omega, by show sN + 6 ≤ 7211114; omega⟩ (fun r S1 H locs hp w => ?_)
  rcases hp with hp | hp
  · obtain ⟨rfl, v, T, hpc, rfl⟩ := hp
    refine lv_istore (lv' := [(5, .int (nI 0)), (4, .int (nI i)), (3, .ref (ad 353)), (2, .ref (ad 322)), (1, .ref (ad 57)), (0, .ref b)]) hx hbc dL_law_471 hl (by decide) rfl (fun ls hl => ?_)
    refine lv_aload_n hx hbc dL_law_473 rfl (lv_at hl 3 rfl) ?_
    refine lv_aload_n hx hbc dL_law_474 rfl (lv_at hl 5 rfl) ?_
    refine lv_iload hx hbc dL_law_475 (lv_at hl 1 rfl) ?_
    refine lv_iconst (v := nI 1) hx hbc dL_law_477 (by decide) ?_
    refine n_iadd hx hbc dL_law_478 ?_
    refine va_sld hx hbc hX hbl hbA w.2.2.2.1 (vp_in_nI (n := i + 1) (N := L) (by omega) (by omega)) dL_law_479 ?_
    rw [nI_clamp (show i + 1 < 2 ^ 31 by omega)]
    refine lv_aload_n hx hbc dL_law_480 rfl (lv_at hl 5 rfl) ?_
    refine lv_iload hx hbc dL_law_481 (lv_at hl 1 rfl) ?_
    refine lv_iconst (v := nI 2) hx hbc dL_law_483 (by decide) ?_
    refine n_iadd hx hbc dL_law_484 ?_
    refine va_sld hx hbc hX hbl hbA w.2.2.2.1 (vp_in_nI (n := i + 2) (N := L) (by omega) (by omega)) dL_law_485 ?_
    rw [nI_clamp (show i + 2 < 2 ^ 31 by omega)]
    refine wc_Vl9 (na := 2) (f := fRf) (As := [.int (xs (i + 1)), .int (xs (i + 2))]) (rest := []) hx hbc hml hg hown w E0_ok trivial (tyM_of w.1) (subMJ S T _) 322 (by decide) skL_322 rfl (k_X8_plan l D cy (fun z9 => ad (fRf z9)) (pul S fRf) ((xs (i + 1))) ((xs (i + 2))) d hD.2.1 hD.2.2.1) wk_873 wk_9 wk_870 wk_871 wk_872 ⟨by decide, by decide, by decide⟩ ⟨Nat.le_of_ble_eq_true rfl, Nat.le_of_ble_eq_true rfl⟩ rfl hl.1 rfl (Nat.le_of_ble_eq_true rfl) dL_law_486 ⟨by show cN + 1 ≤ 603072; omega, by show sN + 6 ≤ 7211114; omega⟩ (fun r9 M9 hpm H locs w => ?_)
    have w := w _ (lieM.T M9)
    obtain ⟨eth, erv, hR9⟩ := simR_plan hR ((xs (i + 1))) ((xs (i + 2))) d hD hpc hpm
    refine lv_lstore (lv' := [(6, .long r9), (5, .int (nI 0)), (4, .int (nI i)), (3, .ref (ad 353)), (2, .ref (ad 322)), (1, .ref (ad 57)), (0, .ref b)]) hx hbc dL_law_489 hl (by decide) rfl (fun ls hl => ?_)
    refine lv_aload_n hx hbc dL_law_491 rfl (lv_at hl 4 rfl) ?_
    refine wc_Vi (na := 0) (f := fRf) (As := []) (rest := []) hx hbc hml hg hown w E0_ok trivial (tyM_of w.1) lieM.A 322 (by decide) skL_322 rfl (k_X8_thrown l D cy (fun z9 => ad (fRf z9)) (pul (psh (sJ (psh S fiC T) 353 (vp_updL (S.2.2 353) 0 v)) fiRf M9) fRf) ) wk_792 wk_9 wk_789 wk_790 wk_791 ⟨by decide, by decide, by decide⟩ ⟨Nat.le_of_ble_eq_true rfl, Nat.le_of_ble_eq_true rfl⟩ rfl hl.1 rfl (Nat.le_of_ble_eq_true rfl) dL_law_492 ⟨by show cN + 1 ≤ 603072; omega, by show sN + 6 ≤ 7211114; omega⟩ (fun r3 M3 hp3 H locs w => ?_)
    have w := w _ (lieM.T M3)
    obtain ⟨hp3, rfl⟩ := hp3
    rw [psh_pul lieM] at w
    rw [psh_th, eth] at hp3
    subst hp3
    refine lv_iload hx hbc dL_law_495 (lv_at hl 1 rfl) ?_
    refine lv_icmp_eq (tgt := 502) hx hbc dL_law_497 (by decide) (fun c9 => ?_) (fun c9 => absurd rfl c9)
    refine lv_iload hx hbc dL_law_502 (lv_at hl 1 rfl) ?_
    refine lv_if_ne (tgt := 518) hx hbc dL_law_504 (by decide) (fun c9 => absurd rfl c9) (fun c9 => ?_)
    refine lv_aload_n hx hbc dL_law_507 rfl (lv_at hl 3 rfl) ?_
    refine lv_iconst (v := nI 0) hx hbc dL_law_508 (by decide) ?_
    refine wb_lald (k := 0) (v := v) hx hbc w 353 (by decide) skL_out 2 rfl rfl (by decide) (by decide) (by rw [psh_out, sJ_out]; exact pk_uLs) dL_law_509 ?_
    refine lv_lload hx hbc dL_law_510 (lv_at hl 0 rfl) ?_
    refine W.lcmp hx hbc dL_law_512 ?_
    refine lv_if_eq (tgt := 518) hx hbc dL_law_513 (by decide) (fun c9 => ?_) (fun c9 => absurd (by rw [erv]; exact lg_cmp_rf _) c9)
    refine lv_goto (tgt := 1029) hx hbc dL_law_518 (by decide) ?_
    exact k _ _ _ _ _ _ (LR.bothJ hR9) w (lv_sub hl [2, 3, 4, 5, 6] rfl) (Nat.le_refl _) (by omega)
  · obtain ⟨rfl, T, hpc, rfl⟩ := hp
    refine lv_istore (lv' := [(5, .int (nI 1)), (4, .int (nI i)), (3, .ref (ad 353)), (2, .ref (ad 322)), (1, .ref (ad 57)), (0, .ref b)]) hx hbc dL_law_471 hl (by decide) rfl (fun ls hl => ?_)
    refine lv_aload_n hx hbc dL_law_473 rfl (lv_at hl 3 rfl) ?_
    refine lv_aload_n hx hbc dL_law_474 rfl (lv_at hl 5 rfl) ?_
    refine lv_iload hx hbc dL_law_475 (lv_at hl 1 rfl) ?_
    refine lv_iconst (v := nI 1) hx hbc dL_law_477 (by decide) ?_
    refine n_iadd hx hbc dL_law_478 ?_
    refine va_sld hx hbc hX hbl hbA w.2.2.2.1 (vp_in_nI (n := i + 1) (N := L) (by omega) (by omega)) dL_law_479 ?_
    rw [nI_clamp (show i + 1 < 2 ^ 31 by omega)]
    refine lv_aload_n hx hbc dL_law_480 rfl (lv_at hl 5 rfl) ?_
    refine lv_iload hx hbc dL_law_481 (lv_at hl 1 rfl) ?_
    refine lv_iconst (v := nI 2) hx hbc dL_law_483 (by decide) ?_
    refine n_iadd hx hbc dL_law_484 ?_
    refine va_sld hx hbc hX hbl hbA w.2.2.2.1 (vp_in_nI (n := i + 2) (N := L) (by omega) (by omega)) dL_law_485 ?_
    rw [nI_clamp (show i + 2 < 2 ^ 31 by omega)]
    refine wc_Vl9 (na := 2) (f := fRf) (As := [.int (xs (i + 1)), .int (xs (i + 2))]) (rest := []) hx hbc hml hg hown w E0_ok trivial (tyM_of w.1) (subM0 S T) 322 (by decide) skL_322 rfl (k_X8_plan l D cy (fun z9 => ad (fRf z9)) (pul S fRf) ((xs (i + 1))) ((xs (i + 2))) d hD.2.1 hD.2.2.1) wk_873 wk_9 wk_870 wk_871 wk_872 ⟨by decide, by decide, by decide⟩ ⟨Nat.le_of_ble_eq_true rfl, Nat.le_of_ble_eq_true rfl⟩ rfl hl.1 rfl (Nat.le_of_ble_eq_true rfl) dL_law_486 ⟨by show cN + 1 ≤ 603072; omega, by show sN + 6 ≤ 7211114; omega⟩ (fun r9 M9 hpm H locs w => ?_)
    have w := w _ (lieM.T M9)
    obtain ⟨eth, hR9⟩ := simE_plan hR ((xs (i + 1))) ((xs (i + 2))) d hD hpc hpm
    refine lv_lstore (lv' := [(6, .long r9), (5, .int (nI 1)), (4, .int (nI i)), (3, .ref (ad 353)), (2, .ref (ad 322)), (1, .ref (ad 57)), (0, .ref b)]) hx hbc dL_law_489 hl (by decide) rfl (fun ls hl => ?_)
    refine lv_aload_n hx hbc dL_law_491 rfl (lv_at hl 4 rfl) ?_
    refine wc_Vi (na := 0) (f := fRf) (As := []) (rest := []) hx hbc hml hg hown w E0_ok trivial (tyM_of w.1) lieM.A 322 (by decide) skL_322 rfl (k_X8_thrown l D cy (fun z9 => ad (fRf z9)) (pul (psh (psh S fiC T) fiRf M9) fRf) ) wk_792 wk_9 wk_789 wk_790 wk_791 ⟨by decide, by decide, by decide⟩ ⟨Nat.le_of_ble_eq_true rfl, Nat.le_of_ble_eq_true rfl⟩ rfl hl.1 rfl (Nat.le_of_ble_eq_true rfl) dL_law_492 ⟨by show cN + 1 ≤ 603072; omega, by show sN + 6 ≤ 7211114; omega⟩ (fun r3 M3 hp3 H locs w => ?_)
    have w := w _ (lieM.T M3)
    obtain ⟨hp3, rfl⟩ := hp3
    rw [psh_pul lieM] at w
    rw [psh_th, eth] at hp3
    subst hp3
    refine lv_iload hx hbc dL_law_495 (lv_at hl 1 rfl) ?_
    refine lv_icmp_eq (tgt := 502) hx hbc dL_law_497 (by decide) (fun c9 => ?_) (fun c9 => absurd rfl c9)
    refine lv_iload hx hbc dL_law_502 (lv_at hl 1 rfl) ?_
    refine lv_if_ne (tgt := 518) hx hbc dL_law_504 (by decide) (fun c9 => ?_) (fun c9 => absurd c9 (by decide))
    refine lv_goto (tgt := 1029) hx hbc dL_law_518 (by decide) ?_
    exact k _ _ _ _ _ _ (LR.both hR9) w (lv_sub hl [2, 3, 4, 5, 6] rfl) (Nat.le_refl _) (by omega)
set_option maxHeartbeats 1000000 in
set_option maxRecDepth 100000 in
theorem lc_table {p : Program} {l : Launch} {e : Env} {s : State} {m : MethodId} {args : Array Value} {below : List Frame} {meth : Method} {c : Code} {Q : State → Prop} {D : va_G} {cy : Nat → ClassId} {ad al sx : Nat → Nat} {A : Nat → Prop} {b L : Nat} {xs : Nat → Int32} {S : wS} {H : Heap} {locs : List Loc} {ls : Array Slot} {i cN sN : Nat} (B : lB p l s m args c A al sx b L xs) (hi : i + 5 ≤ L) (hc9 : cN + 1 ≤ 603072) (hs9 : sN + 8 ≤ 7211114) (hR : LR S) (w : WB D (tyC cy) 354 cy ad skL A s S H locs) (hl : lv_has ls 8 [(4, .int (nI i)), (3, .ref (ad 353)), (2, .ref (ad 322)), (1, .ref (ad 57)), (0, .ref b)])
    (k : ∀ (S : wS) (H : Heap) (locs : List Loc) (ls : Array Slot) (c9 s9 : Nat), LR S → WB D (tyC cy) 354 cy ad skL A s S H locs → lv_has ls 8 [(4, .int (nI i)), (3, .ref (ad 353)), (2, .ref (ad 322)), (1, .ref (ad 57)), (0, .ref b)] → c9 ≤ cN + 1 → s9 ≤ sN + 8 → W p l e room_1 s m args below meth c H locs c9 s9 Q (F0 m 1029 ls [])) : W p l e room_1 s m args below meth c H locs cN sN Q (F0 m 558 ls []) := by
  obtain ⟨hx, hbc, hml, hg, hown, hE, hX, hbl, hbA, hlt, hL9⟩ := B
  have hR0 := hR
  obtain ⟨⟨kq1, kq2, kq3, q, hq⟩, ⟨t, hT⟩, ⟨ks, hS⟩, ⟨d, hD⟩, hG, ⟨lv, lz, hB⟩, ⟨pv, hP⟩, ⟨R9, rz, hRR⟩⟩ := hR0
  refine lv_aload_n hx hbc dL_law_558 rfl (lv_at hl 3 rfl) ?_
  refine lv_aload_n hx hbc dL_law_559 rfl (lv_at hl 4 rfl) ?_
  refine lv_iload hx hbc dL_law_560 (lv_at hl 0 rfl) ?_
  refine lv_iconst (v := nI 1) hx hbc dL_law_562 (by decide) ?_
  refine n_iadd hx hbc dL_law_563 ?_
  refine va_sld hx hbc hX hbl hbA w.2.2.2.1 (vp_in_nI (n := i + 1) (N := L) (by omega) (by omega)) dL_law_564 ?_
  rw [nI_clamp (show i + 1 < 2 ^ 31 by omega)]
  refine lv_aload_n hx hbc dL_law_565 rfl (lv_at hl 1 rfl) ?_
  refine wc_H (na := 3) (As := [.ref (ad 57), .int (xs (i + 1)), .ref (ad 353)]) (rest := []) hx hbc hml hg hown w (EX_ok al sx) hE.1 (k_L_table l D cy ad al S sx hlt ((xs (i + 1)))) wk_593 wk_0 wk_591 wk_592 ⟨by decide, by decide, by decide⟩ ⟨Nat.le_of_ble_eq_true rfl, Nat.le_of_ble_eq_true rfl⟩ rfl hl.1 rfl (Nat.le_of_ble_eq_true rfl) dL_law_566 ⟨by show cN + 1 ≤ 603072; omega, by show sN + 6 ≤ 7211114; omega⟩ (fun r S1 H locs hp w => ?_)
  rcases hp with hp | hp
  · obtain ⟨rfl, v, T, hpc, rfl⟩ := hp
    refine lv_istore (lv' := [(5, .int (nI 0)), (4, .int (nI i)), (3, .ref (ad 353)), (2, .ref (ad 322)), (1, .ref (ad 57)), (0, .ref b)]) hx hbc dL_law_569 hl (by decide) rfl (fun ls hl => ?_)
    refine lv_aload_n hx hbc dL_law_571 rfl (lv_at hl 3 rfl) ?_
    refine lv_aload_n hx hbc dL_law_572 rfl (lv_at hl 5 rfl) ?_
    refine lv_iload hx hbc dL_law_573 (lv_at hl 1 rfl) ?_
    refine lv_iconst (v := nI 1) hx hbc dL_law_575 (by decide) ?_
    refine n_iadd hx hbc dL_law_576 ?_
    refine va_sld hx hbc hX hbl hbA w.2.2.2.1 (vp_in_nI (n := i + 1) (N := L) (by omega) (by omega)) dL_law_577 ?_
    rw [nI_clamp (show i + 1 < 2 ^ 31 by omega)]
    refine wc_Vi (na := 1) (f := fRf) (As := [.int (xs (i + 1))]) (rest := []) hx hbc hml hg hown w E0_ok trivial (tyM_of w.1) (subMJ S T _) 322 (by decide) skL_322 rfl (k_X8_table l D cy (fun z9 => ad (fRf z9)) (pul S fRf) ((xs (i + 1)))) wk_881 wk_9 wk_878 wk_879 wk_880 ⟨by decide, by decide, by decide⟩ ⟨Nat.le_of_ble_eq_true rfl, Nat.le_of_ble_eq_true rfl⟩ rfl hl.1 rfl (Nat.le_of_ble_eq_true rfl) dL_law_578 ⟨by show cN + 1 ≤ 603072; omega, by show sN + 6 ≤ 7211114; omega⟩ (fun r9 M9 hpm H locs w => ?_)
    have w := w _ (lieM.T M9)
    obtain ⟨eth, erv, hR9⟩ := simR_table hR ((xs (i + 1))) hpc hpm
    refine lv_istore (lv' := [(6, .int r9), (5, .int (nI 0)), (4, .int (nI i)), (3, .ref (ad 353)), (2, .ref (ad 322)), (1, .ref (ad 57)), (0, .ref b)]) hx hbc dL_law_581 hl (by decide) rfl (fun ls hl => ?_)
    refine lv_aload_n hx hbc dL_law_583 rfl (lv_at hl 4 rfl) ?_
    refine wc_Vi (na := 0) (f := fRf) (As := []) (rest := []) hx hbc hml hg hown w E0_ok trivial (tyM_of w.1) lieM.A 322 (by decide) skL_322 rfl (k_X8_thrown l D cy (fun z9 => ad (fRf z9)) (pul (psh (sJ (psh S fiC T) 353 (vp_updL (S.2.2 353) 0 (v.toInt64))) fiRf M9) fRf) ) wk_792 wk_9 wk_789 wk_790 wk_791 ⟨by decide, by decide, by decide⟩ ⟨Nat.le_of_ble_eq_true rfl, Nat.le_of_ble_eq_true rfl⟩ rfl hl.1 rfl (Nat.le_of_ble_eq_true rfl) dL_law_584 ⟨by show cN + 1 ≤ 603072; omega, by show sN + 6 ≤ 7211114; omega⟩ (fun r3 M3 hp3 H locs w => ?_)
    have w := w _ (lieM.T M3)
    obtain ⟨hp3, rfl⟩ := hp3
    rw [psh_pul lieM] at w
    rw [psh_th, eth] at hp3
    subst hp3
    refine lv_iload hx hbc dL_law_587 (lv_at hl 1 rfl) ?_
    refine lv_icmp_eq (tgt := 594) hx hbc dL_law_589 (by decide) (fun c9 => ?_) (fun c9 => absurd rfl c9)
    refine lv_iload hx hbc dL_law_594 (lv_at hl 1 rfl) ?_
    refine lv_if_ne (tgt := 611) hx hbc dL_law_596 (by decide) (fun c9 => absurd rfl c9) (fun c9 => ?_)
    refine lv_aload_n hx hbc dL_law_599 rfl (lv_at hl 3 rfl) ?_
    refine lv_iconst (v := nI 0) hx hbc dL_law_600 (by decide) ?_
    refine wb_lald (k := 0) (v := v.toInt64) hx hbc w 353 (by decide) skL_out 2 rfl rfl (by decide) (by decide) (by rw [psh_out, sJ_out]; exact pk_uLs) dL_law_601 ?_
    refine lv_iload hx hbc dL_law_602 (lv_at hl 0 rfl) ?_
    refine lv_i2l hx hbc dL_law_604 rfl ?_
    refine W.lcmp hx hbc dL_law_605 ?_
    refine lv_if_eq (tgt := 611) hx hbc dL_law_606 (by decide) (fun c9 => ?_) (fun c9 => absurd (by rw [erv]; exact lg_cmp_rf _) c9)
    refine lv_goto (tgt := 1029) hx hbc dL_law_611 (by decide) ?_
    exact k _ _ _ _ _ _ (LR.bothJ hR9) w (lv_sub hl [2, 3, 4, 5, 6] rfl) (Nat.le_refl _) (by omega)
  · obtain ⟨rfl, T, hpc, rfl⟩ := hp
    refine lv_istore (lv' := [(5, .int (nI 1)), (4, .int (nI i)), (3, .ref (ad 353)), (2, .ref (ad 322)), (1, .ref (ad 57)), (0, .ref b)]) hx hbc dL_law_569 hl (by decide) rfl (fun ls hl => ?_)
    refine lv_aload_n hx hbc dL_law_571 rfl (lv_at hl 3 rfl) ?_
    refine lv_aload_n hx hbc dL_law_572 rfl (lv_at hl 5 rfl) ?_
    refine lv_iload hx hbc dL_law_573 (lv_at hl 1 rfl) ?_
    refine lv_iconst (v := nI 1) hx hbc dL_law_575 (by decide) ?_
    refine n_iadd hx hbc dL_law_576 ?_
    refine va_sld hx hbc hX hbl hbA w.2.2.2.1 (vp_in_nI (n := i + 1) (N := L) (by omega) (by omega)) dL_law_577 ?_
    rw [nI_clamp (show i + 1 < 2 ^ 31 by omega)]
    refine wc_Vi (na := 1) (f := fRf) (As := [.int (xs (i + 1))]) (rest := []) hx hbc hml hg hown w E0_ok trivial (tyM_of w.1) (subM0 S T) 322 (by decide) skL_322 rfl (k_X8_table l D cy (fun z9 => ad (fRf z9)) (pul S fRf) ((xs (i + 1)))) wk_881 wk_9 wk_878 wk_879 wk_880 ⟨by decide, by decide, by decide⟩ ⟨Nat.le_of_ble_eq_true rfl, Nat.le_of_ble_eq_true rfl⟩ rfl hl.1 rfl (Nat.le_of_ble_eq_true rfl) dL_law_578 ⟨by show cN + 1 ≤ 603072; omega, by show sN + 6 ≤ 7211114; omega⟩ (fun r9 M9 hpm H locs w => ?_)
    have w := w _ (lieM.T M9)
    obtain ⟨eth, hR9⟩ := simE_table hR ((xs (i + 1))) hpc hpm
    refine lv_istore (lv' := [(6, .int r9), (5, .int (nI 1)), (4, .int (nI i)), (3, .ref (ad 353)), (2, .ref (ad 322)), (1, .ref (ad 57)), (0, .ref b)]) hx hbc dL_law_581 hl (by decide) rfl (fun ls hl => ?_)
    refine lv_aload_n hx hbc dL_law_583 rfl (lv_at hl 4 rfl) ?_
    refine wc_Vi (na := 0) (f := fRf) (As := []) (rest := []) hx hbc hml hg hown w E0_ok trivial (tyM_of w.1) lieM.A 322 (by decide) skL_322 rfl (k_X8_thrown l D cy (fun z9 => ad (fRf z9)) (pul (psh (psh S fiC T) fiRf M9) fRf) ) wk_792 wk_9 wk_789 wk_790 wk_791 ⟨by decide, by decide, by decide⟩ ⟨Nat.le_of_ble_eq_true rfl, Nat.le_of_ble_eq_true rfl⟩ rfl hl.1 rfl (Nat.le_of_ble_eq_true rfl) dL_law_584 ⟨by show cN + 1 ≤ 603072; omega, by show sN + 6 ≤ 7211114; omega⟩ (fun r3 M3 hp3 H locs w => ?_)
    have w := w _ (lieM.T M3)
    obtain ⟨hp3, rfl⟩ := hp3
    rw [psh_pul lieM] at w
    rw [psh_th, eth] at hp3
    subst hp3
    refine lv_iload hx hbc dL_law_587 (lv_at hl 1 rfl) ?_
    refine lv_icmp_eq (tgt := 594) hx hbc dL_law_589 (by decide) (fun c9 => ?_) (fun c9 => absurd rfl c9)
    refine lv_iload hx hbc dL_law_594 (lv_at hl 1 rfl) ?_
    refine lv_if_ne (tgt := 611) hx hbc dL_law_596 (by decide) (fun c9 => ?_) (fun c9 => absurd c9 (by decide))
    refine lv_goto (tgt := 1029) hx hbc dL_law_611 (by decide) ?_
    exact k _ _ _ _ _ _ (LR.both hR9) w (lv_sub hl [2, 3, 4, 5, 6] rfl) (Nat.le_refl _) (by omega)
set_option maxHeartbeats 1000000 in
set_option maxRecDepth 100000 in
theorem lc_row {p : Program} {l : Launch} {e : Env} {s : State} {m : MethodId} {args : Array Value} {below : List Frame} {meth : Method} {c : Code} {Q : State → Prop} {D : va_G} {cy : Nat → ClassId} {ad al sx : Nat → Nat} {A : Nat → Prop} {b L : Nat} {xs : Nat → Int32} {S : wS} {H : Heap} {locs : List Loc} {ls : Array Slot} {i cN sN : Nat} (B : lB p l s m args c A al sx b L xs) (hi : i + 5 ≤ L) (hc9 : cN + 1 ≤ 603072) (hs9 : sN + 8 ≤ 7211114) (hR : LR S) (w : WB D (tyC cy) 354 cy ad skL A s S H locs) (hl : lv_has ls 8 [(4, .int (nI i)), (3, .ref (ad 353)), (2, .ref (ad 322)), (1, .ref (ad 57)), (0, .ref b)])
    (k : ∀ (S : wS) (H : Heap) (locs : List Loc) (ls : Array Slot) (c9 s9 : Nat), LR S → WB D (tyC cy) 354 cy ad skL A s S H locs → lv_has ls 8 [(4, .int (nI i)), (3, .ref (ad 353)), (2, .ref (ad 322)), (1, .ref (ad 57)), (0, .ref b)] → c9 ≤ cN + 1 → s9 ≤ sN + 8 → W p l e room_1 s m args below meth c H locs c9 s9 Q (F0 m 1029 ls [])) : W p l e room_1 s m args below meth c H locs cN sN Q (F0 m 923 ls []) := by
  obtain ⟨hx, hbc, hml, hg, hown, hE, hX, hbl, hbA, hlt, hL9⟩ := B
  have hR0 := hR
  obtain ⟨⟨kq1, kq2, kq3, q, hq⟩, ⟨t, hT⟩, ⟨ks, hS⟩, ⟨d, hD⟩, hG, ⟨lv, lz, hB⟩, ⟨pv, hP⟩, ⟨R9, rz, hRR⟩⟩ := hR0
  refine lv_aload_n hx hbc dL_law_923 rfl (lv_at hl 3 rfl) ?_
  refine lv_aload_n hx hbc dL_law_924 rfl (lv_at hl 4 rfl) ?_
  refine lv_iload hx hbc dL_law_925 (lv_at hl 0 rfl) ?_
  refine lv_iconst (v := nI 1) hx hbc dL_law_927 (by decide) ?_
  refine n_iadd hx hbc dL_law_928 ?_
  refine va_sld hx hbc hX hbl hbA w.2.2.2.1 (vp_in_nI (n := i + 1) (N := L) (by omega) (by omega)) dL_law_929 ?_
  rw [nI_clamp (show i + 1 < 2 ^ 31 by omega)]
  refine lv_aload_n hx hbc dL_law_930 rfl (lv_at hl 4 rfl) ?_
  refine lv_iload hx hbc dL_law_931 (lv_at hl 0 rfl) ?_
  refine lv_iconst (v := nI 2) hx hbc dL_law_933 (by decide) ?_
  refine n_iadd hx hbc dL_law_934 ?_
  refine va_sld hx hbc hX hbl hbA w.2.2.2.1 (vp_in_nI (n := i + 2) (N := L) (by omega) (by omega)) dL_law_935 ?_
  rw [nI_clamp (show i + 2 < 2 ^ 31 by omega)]
  refine lv_aload_n hx hbc dL_law_936 rfl (lv_at hl 1 rfl) ?_
  refine wc_H (na := 4) (As := [.ref (ad 57), .int (xs (i + 1)), .int (xs (i + 2)), .ref (ad 353)]) (rest := []) hx hbc hml hg hown w (EY_ok al sx) hE (k_L_row l D cy ad al S sx hlt ((xs (i + 1))) ((xs (i + 2))) R9 hRR.1 hRR.2.2.1 rz (fun i9 hi9 => ⟨(hRR.2.2.2.2 i9 hi9).1, (hRR.2.2.2.2 i9 hi9).2.2.1⟩) (fun i9 hi9 k9 hk9 => ((hRR.2.2.2.2 i9 hi9).2.2.2.2 k9 hk9).2)) wk_602 wk_0 wk_600 wk_601 ⟨by decide, by decide, by decide⟩ ⟨Nat.le_of_ble_eq_true rfl, Nat.le_of_ble_eq_true rfl⟩ rfl hl.1 rfl (Nat.le_of_ble_eq_true rfl) dL_law_937 ⟨by show cN + 1 ≤ 603072; omega, by show sN + 8 ≤ 7211114; omega⟩ (fun r S1 H locs hp w => ?_)
  rcases hp with hp | ⟨E9, T, hpc, hE9, rfl⟩
  · obtain ⟨rfl, v, T, hpc, rfl⟩ := hp
    refine lv_istore (lv' := [(5, .int (nI 0)), (4, .int (nI i)), (3, .ref (ad 353)), (2, .ref (ad 322)), (1, .ref (ad 57)), (0, .ref b)]) hx hbc dL_law_940 hl (by decide) rfl (fun ls hl => ?_)
    refine lv_aload_n hx hbc dL_law_942 rfl (lv_at hl 3 rfl) ?_
    refine lv_aload_n hx hbc dL_law_943 rfl (lv_at hl 5 rfl) ?_
    refine lv_iload hx hbc dL_law_944 (lv_at hl 1 rfl) ?_
    refine lv_iconst (v := nI 1) hx hbc dL_law_946 (by decide) ?_
    refine n_iadd hx hbc dL_law_947 ?_
    refine va_sld hx hbc hX hbl hbA w.2.2.2.1 (vp_in_nI (n := i + 1) (N := L) (by omega) (by omega)) dL_law_948 ?_
    rw [nI_clamp (show i + 1 < 2 ^ 31 by omega)]
    refine lv_aload_n hx hbc dL_law_949 rfl (lv_at hl 5 rfl) ?_
    refine lv_iload hx hbc dL_law_950 (lv_at hl 1 rfl) ?_
    refine lv_iconst (v := nI 2) hx hbc dL_law_952 (by decide) ?_
    refine n_iadd hx hbc dL_law_953 ?_
    refine va_sld hx hbc hX hbl hbA w.2.2.2.1 (vp_in_nI (n := i + 2) (N := L) (by omega) (by omega)) dL_law_954 ?_
    rw [nI_clamp (show i + 2 < 2 ^ 31 by omega)]
    refine wc_Vi (na := 2) (f := fRf) (As := [.int (xs (i + 1)), .int (xs (i + 2))]) (rest := []) hx hbc hml hg hown w E0_ok trivial (tyM_of w.1) (subMJ S T _) 322 (by decide) skL_322 rfl (k_X8_row l D cy (fun z9 => ad (fRf z9)) (pul S fRf) ((xs (i + 1))) ((xs (i + 2))) R9 hRR.2.1 hRR.2.2.1 rz (fun i9 hi9 => ⟨(hRR.2.2.2.2 i9 hi9).2.1, (hRR.2.2.2.2 i9 hi9).2.2.1⟩)) wk_964 wk_9 wk_961 wk_962 wk_963 ⟨by decide, by decide, by decide⟩ ⟨Nat.le_of_ble_eq_true rfl, Nat.le_of_ble_eq_true rfl⟩ rfl hl.1 rfl (Nat.le_of_ble_eq_true rfl) dL_law_955 ⟨by show cN + 1 ≤ 603072; omega, by show sN + 8 ≤ 7211114; omega⟩ (fun r9 M9 hpm H locs w => ?_)
    have w := w _ (lieM.T M9)
    obtain ⟨eth, erv, hR9⟩ := simR_row hR ((xs (i + 1))) ((xs (i + 2))) R9 rz hRR hpc hpm
    refine lv_istore (lv' := [(6, .int r9), (5, .int (nI 0)), (4, .int (nI i)), (3, .ref (ad 353)), (2, .ref (ad 322)), (1, .ref (ad 57)), (0, .ref b)]) hx hbc dL_law_958 hl (by decide) rfl (fun ls hl => ?_)
    refine lv_aload_n hx hbc dL_law_960 rfl (lv_at hl 4 rfl) ?_
    refine wc_Vi (na := 0) (f := fRf) (As := []) (rest := []) hx hbc hml hg hown w E0_ok trivial (tyM_of w.1) lieM.A 322 (by decide) skL_322 rfl (k_X8_thrown l D cy (fun z9 => ad (fRf z9)) (pul (psh (sJ (psh S fiC T) 353 (vp_updL (S.2.2 353) 0 (v.toInt64))) fiRf M9) fRf) ) wk_792 wk_9 wk_789 wk_790 wk_791 ⟨by decide, by decide, by decide⟩ ⟨Nat.le_of_ble_eq_true rfl, Nat.le_of_ble_eq_true rfl⟩ rfl hl.1 rfl (Nat.le_of_ble_eq_true rfl) dL_law_961 ⟨by show cN + 1 ≤ 603072; omega, by show sN + 8 ≤ 7211114; omega⟩ (fun r3 M3 hp3 H locs w => ?_)
    have w := w _ (lieM.T M3)
    obtain ⟨hp3, rfl⟩ := hp3
    rw [psh_pul lieM] at w
    rw [psh_th, eth] at hp3
    subst hp3
    refine lv_iload hx hbc dL_law_964 (lv_at hl 1 rfl) ?_
    refine lv_icmp_eq (tgt := 971) hx hbc dL_law_966 (by decide) (fun c9 => ?_) (fun c9 => absurd rfl c9)
    refine lv_iload hx hbc dL_law_971 (lv_at hl 1 rfl) ?_
    refine lv_if_ne (tgt := 988) hx hbc dL_law_973 (by decide) (fun c9 => absurd rfl c9) (fun c9 => ?_)
    refine lv_aload_n hx hbc dL_law_976 rfl (lv_at hl 3 rfl) ?_
    refine lv_iconst (v := nI 0) hx hbc dL_law_977 (by decide) ?_
    refine wb_lald (k := 0) (v := v.toInt64) hx hbc w 353 (by decide) skL_out 2 rfl rfl (by decide) (by decide) (by rw [psh_out, sJ_out]; exact pk_uLs) dL_law_978 ?_
    refine lv_iload hx hbc dL_law_979 (lv_at hl 0 rfl) ?_
    refine lv_i2l hx hbc dL_law_981 rfl ?_
    refine W.lcmp hx hbc dL_law_982 ?_
    refine lv_if_eq (tgt := 988) hx hbc dL_law_983 (by decide) (fun c9 => ?_) (fun c9 => absurd (by rw [erv]; exact lg_cmp_rf _) c9)
    refine lv_goto (tgt := 1029) hx hbc dL_law_988 (by decide) ?_
    exact k _ _ _ _ _ _ (LR.bothJ hR9) w (lv_sub hl [2, 3, 4, 5, 6] rfl) (Nat.le_refl _) (by omega)
  · rcases hE9 with ⟨rfl, rfl⟩ | ⟨rfl, rfl⟩
    · refine lv_istore (lv' := [(5, .int (nI 1)), (4, .int (nI i)), (3, .ref (ad 353)), (2, .ref (ad 322)), (1, .ref (ad 57)), (0, .ref b)]) hx hbc dL_law_940 hl (by decide) rfl (fun ls hl => ?_)
      refine lv_aload_n hx hbc dL_law_942 rfl (lv_at hl 3 rfl) ?_
      refine lv_aload_n hx hbc dL_law_943 rfl (lv_at hl 5 rfl) ?_
      refine lv_iload hx hbc dL_law_944 (lv_at hl 1 rfl) ?_
      refine lv_iconst (v := nI 1) hx hbc dL_law_946 (by decide) ?_
      refine n_iadd hx hbc dL_law_947 ?_
      refine va_sld hx hbc hX hbl hbA w.2.2.2.1 (vp_in_nI (n := i + 1) (N := L) (by omega) (by omega)) dL_law_948 ?_
      rw [nI_clamp (show i + 1 < 2 ^ 31 by omega)]
      refine lv_aload_n hx hbc dL_law_949 rfl (lv_at hl 5 rfl) ?_
      refine lv_iload hx hbc dL_law_950 (lv_at hl 1 rfl) ?_
      refine lv_iconst (v := nI 2) hx hbc dL_law_952 (by decide) ?_
      refine n_iadd hx hbc dL_law_953 ?_
      refine va_sld hx hbc hX hbl hbA w.2.2.2.1 (vp_in_nI (n := i + 2) (N := L) (by omega) (by omega)) dL_law_954 ?_
      rw [nI_clamp (show i + 2 < 2 ^ 31 by omega)]
      refine wc_Vi (na := 2) (f := fRf) (As := [.int (xs (i + 1)), .int (xs (i + 2))]) (rest := []) hx hbc hml hg hown w E0_ok trivial (tyM_of w.1) (subM0 S T) 322 (by decide) skL_322 rfl (k_X8_row l D cy (fun z9 => ad (fRf z9)) (pul S fRf) ((xs (i + 1))) ((xs (i + 2))) R9 hRR.2.1 hRR.2.2.1 rz (fun i9 hi9 => ⟨(hRR.2.2.2.2 i9 hi9).2.1, (hRR.2.2.2.2 i9 hi9).2.2.1⟩)) wk_964 wk_9 wk_961 wk_962 wk_963 ⟨by decide, by decide, by decide⟩ ⟨Nat.le_of_ble_eq_true rfl, Nat.le_of_ble_eq_true rfl⟩ rfl hl.1 rfl (Nat.le_of_ble_eq_true rfl) dL_law_955 ⟨by show cN + 1 ≤ 603072; omega, by show sN + 8 ≤ 7211114; omega⟩ (fun r9 M9 hpm H locs w => ?_)
      have w := w _ (lieM.T M9)
      obtain ⟨hth, hR9⟩ := simE_row hR ((xs (i + 1))) ((xs (i + 2))) R9 rz hRR hpc hpm
      have eth : M9.1 0 0 = nI 1 := hth.elim (fun h => absurd h.1 (by decide)) (fun h => h.2)
      refine lv_istore (lv' := [(6, .int r9), (5, .int (nI 1)), (4, .int (nI i)), (3, .ref (ad 353)), (2, .ref (ad 322)), (1, .ref (ad 57)), (0, .ref b)]) hx hbc dL_law_958 hl (by decide) rfl (fun ls hl => ?_)
      refine lv_aload_n hx hbc dL_law_960 rfl (lv_at hl 4 rfl) ?_
      refine wc_Vi (na := 0) (f := fRf) (As := []) (rest := []) hx hbc hml hg hown w E0_ok trivial (tyM_of w.1) lieM.A 322 (by decide) skL_322 rfl (k_X8_thrown l D cy (fun z9 => ad (fRf z9)) (pul (psh (psh S fiC T) fiRf M9) fRf) ) wk_792 wk_9 wk_789 wk_790 wk_791 ⟨by decide, by decide, by decide⟩ ⟨Nat.le_of_ble_eq_true rfl, Nat.le_of_ble_eq_true rfl⟩ rfl hl.1 rfl (Nat.le_of_ble_eq_true rfl) dL_law_961 ⟨by show cN + 1 ≤ 603072; omega, by show sN + 8 ≤ 7211114; omega⟩ (fun r3 M3 hp3 H locs w => ?_)
      have w := w _ (lieM.T M3)
      obtain ⟨hp3, rfl⟩ := hp3
      rw [psh_pul lieM] at w
      rw [psh_th, eth] at hp3
      subst hp3
      refine lv_iload hx hbc dL_law_964 (lv_at hl 1 rfl) ?_
      refine lv_icmp_eq (tgt := 971) hx hbc dL_law_966 (by decide) (fun c9 => ?_) (fun c9 => absurd rfl c9)
      refine lv_iload hx hbc dL_law_971 (lv_at hl 1 rfl) ?_
      refine lv_if_ne (tgt := 988) hx hbc dL_law_973 (by decide) (fun c9 => ?_) (fun c9 => absurd c9 (by decide))
      refine lv_goto (tgt := 1029) hx hbc dL_law_988 (by decide) ?_
      exact k _ _ _ _ _ _ (LR.both hR9) w (lv_sub hl [2, 3, 4, 5, 6] rfl) (Nat.le_refl _) (by omega)
    · refine lv_istore (lv' := [(5, .int (nI 2)), (4, .int (nI i)), (3, .ref (ad 353)), (2, .ref (ad 322)), (1, .ref (ad 57)), (0, .ref b)]) hx hbc dL_law_940 hl (by decide) rfl (fun ls hl => ?_)
      refine lv_aload_n hx hbc dL_law_942 rfl (lv_at hl 3 rfl) ?_
      refine lv_aload_n hx hbc dL_law_943 rfl (lv_at hl 5 rfl) ?_
      refine lv_iload hx hbc dL_law_944 (lv_at hl 1 rfl) ?_
      refine lv_iconst (v := nI 1) hx hbc dL_law_946 (by decide) ?_
      refine n_iadd hx hbc dL_law_947 ?_
      refine va_sld hx hbc hX hbl hbA w.2.2.2.1 (vp_in_nI (n := i + 1) (N := L) (by omega) (by omega)) dL_law_948 ?_
      rw [nI_clamp (show i + 1 < 2 ^ 31 by omega)]
      refine lv_aload_n hx hbc dL_law_949 rfl (lv_at hl 5 rfl) ?_
      refine lv_iload hx hbc dL_law_950 (lv_at hl 1 rfl) ?_
      refine lv_iconst (v := nI 2) hx hbc dL_law_952 (by decide) ?_
      refine n_iadd hx hbc dL_law_953 ?_
      refine va_sld hx hbc hX hbl hbA w.2.2.2.1 (vp_in_nI (n := i + 2) (N := L) (by omega) (by omega)) dL_law_954 ?_
      rw [nI_clamp (show i + 2 < 2 ^ 31 by omega)]
      refine wc_Vi (na := 2) (f := fRf) (As := [.int (xs (i + 1)), .int (xs (i + 2))]) (rest := []) hx hbc hml hg hown w E0_ok trivial (tyM_of w.1) (subM0 S T) 322 (by decide) skL_322 rfl (k_X8_row l D cy (fun z9 => ad (fRf z9)) (pul S fRf) ((xs (i + 1))) ((xs (i + 2))) R9 hRR.2.1 hRR.2.2.1 rz (fun i9 hi9 => ⟨(hRR.2.2.2.2 i9 hi9).2.1, (hRR.2.2.2.2 i9 hi9).2.2.1⟩)) wk_964 wk_9 wk_961 wk_962 wk_963 ⟨by decide, by decide, by decide⟩ ⟨Nat.le_of_ble_eq_true rfl, Nat.le_of_ble_eq_true rfl⟩ rfl hl.1 rfl (Nat.le_of_ble_eq_true rfl) dL_law_955 ⟨by show cN + 1 ≤ 603072; omega, by show sN + 8 ≤ 7211114; omega⟩ (fun r9 M9 hpm H locs w => ?_)
      have w := w _ (lieM.T M9)
      obtain ⟨hth, hR9⟩ := simE_row hR ((xs (i + 1))) ((xs (i + 2))) R9 rz hRR hpc hpm
      have eth : M9.1 0 0 = nI 2 := hth.elim (fun h => h.2) (fun h => absurd h.1 (by decide))
      refine lv_istore (lv' := [(6, .int r9), (5, .int (nI 2)), (4, .int (nI i)), (3, .ref (ad 353)), (2, .ref (ad 322)), (1, .ref (ad 57)), (0, .ref b)]) hx hbc dL_law_958 hl (by decide) rfl (fun ls hl => ?_)
      refine lv_aload_n hx hbc dL_law_960 rfl (lv_at hl 4 rfl) ?_
      refine wc_Vi (na := 0) (f := fRf) (As := []) (rest := []) hx hbc hml hg hown w E0_ok trivial (tyM_of w.1) lieM.A 322 (by decide) skL_322 rfl (k_X8_thrown l D cy (fun z9 => ad (fRf z9)) (pul (psh (psh S fiC T) fiRf M9) fRf) ) wk_792 wk_9 wk_789 wk_790 wk_791 ⟨by decide, by decide, by decide⟩ ⟨Nat.le_of_ble_eq_true rfl, Nat.le_of_ble_eq_true rfl⟩ rfl hl.1 rfl (Nat.le_of_ble_eq_true rfl) dL_law_961 ⟨by show cN + 1 ≤ 603072; omega, by show sN + 8 ≤ 7211114; omega⟩ (fun r3 M3 hp3 H locs w => ?_)
      have w := w _ (lieM.T M3)
      obtain ⟨hp3, rfl⟩ := hp3
      rw [psh_pul lieM] at w
      rw [psh_th, eth] at hp3
      subst hp3
      refine lv_iload hx hbc dL_law_964 (lv_at hl 1 rfl) ?_
      refine lv_icmp_eq (tgt := 971) hx hbc dL_law_966 (by decide) (fun c9 => ?_) (fun c9 => absurd rfl c9)
      refine lv_iload hx hbc dL_law_971 (lv_at hl 1 rfl) ?_
      refine lv_if_ne (tgt := 988) hx hbc dL_law_973 (by decide) (fun c9 => ?_) (fun c9 => absurd c9 (by decide))
      refine lv_goto (tgt := 1029) hx hbc dL_law_988 (by decide) ?_
      exact k _ _ _ _ _ _ (LR.both hR9) w (lv_sub hl [2, 3, 4, 5, 6] rfl) (Nat.le_refl _) (by omega)
