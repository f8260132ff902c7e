set_option maxHeartbeats 1000000 in
set_option maxRecDepth 100000 in
theorem lc_feed {p : Program} {l : Launch} {e : Env} {s : State} {m : MethodId} {args : Array Value} {below : List Frame} {meth : Method} {c : Code} {Q : State → Prop} {D : va_G} {cy : Nat → ClassId} {ad al sx : Nat → Nat} {A : Nat → Prop} {b L : Nat} {xs : Nat → Int32} {S : wS} {H : Heap} {locs : List Loc} {ls : Array Slot} {i cN sN : Nat} (B : lB p l s m args c A al sx b L xs) (hi : i + 5 ≤ L) (hc9 : cN + 1 ≤ 603072) (hs9 : sN + 8 ≤ 7211114) (hR : LR S) (w : WB D (tyC cy) 354 cy ad skL A s S H locs) (hl : lv_has ls 8 [(4, .int (nI i)), (3, .ref (ad 353)), (2, .ref (ad 322)), (1, .ref (ad 57)), (0, .ref b)])
    (k : ∀ (S : wS) (H : Heap) (locs : List Loc) (ls : Array Slot) (c9 s9 : Nat), LR S → WB D (tyC cy) 354 cy ad skL A s S H locs → lv_has ls 8 [(4, .int (nI i)), (3, .ref (ad 353)), (2, .ref (ad 322)), (1, .ref (ad 57)), (0, .ref b)] → c9 ≤ cN + 1 → s9 ≤ sN + 8 → W p l e room_1 s m args below meth c H locs c9 s9 Q (F0 m 1029 ls [])) : W p l e room_1 s m args below meth c H locs cN sN Q (F0 m 144 ls []) := by
  obtain ⟨hx, hbc, hml, hg, hown, hE, hX, hbl, hbA, hlt, hL9⟩ := B
  have hR0 := hR
  obtain ⟨⟨kq1, kq2, kq3, q, hq⟩, ⟨t, hT⟩, ⟨ks, hS⟩, ⟨d, hD⟩, hG, ⟨lv, lz, hB⟩, ⟨pv, hP⟩, ⟨R9, rz, hRR⟩⟩ := hR0
  refine lv_aload_n hx hbc dL_law_144 rfl (lv_at hl 3 rfl) ?_
  refine lv_aload_n hx hbc dL_law_145 rfl (lv_at hl 4 rfl) ?_
  refine lv_iload hx hbc dL_law_146 (lv_at hl 0 rfl) ?_
  refine lv_iconst (v := nI 1) hx hbc dL_law_148 (by decide) ?_
  refine n_iadd hx hbc dL_law_149 ?_
  refine va_sld hx hbc hX hbl hbA w.2.2.2.1 (vp_in_nI (n := i + 1) (N := L) (by omega) (by omega)) dL_law_150 ?_
  rw [nI_clamp (show i + 1 < 2 ^ 31 by omega)]
  refine lv_aload_n hx hbc dL_law_151 rfl (lv_at hl 4 rfl) ?_
  refine lv_iload hx hbc dL_law_152 (lv_at hl 0 rfl) ?_
  refine lv_iconst (v := nI 2) hx hbc dL_law_154 (by decide) ?_
  refine n_iadd hx hbc dL_law_155 ?_
  refine va_sld hx hbc hX hbl hbA w.2.2.2.1 (vp_in_nI (n := i + 2) (N := L) (by omega) (by omega)) dL_law_156 ?_
  rw [nI_clamp (show i + 2 < 2 ^ 31 by omega)]
  refine lv_i2l hx hbc dL_law_157 rfl ?_
  refine lv_bipush (v := nI 32) hx hbc dL_law_158 (by decide) ?_
  refine lv_lshl hx hbc dL_law_160 rfl ?_
  refine lv_aload_n hx hbc dL_law_161 rfl (lv_at hl 4 rfl) ?_
  refine lv_iload hx hbc dL_law_162 (lv_at hl 0 rfl) ?_
  refine lv_iconst (v := nI 3) hx hbc dL_law_164 (by decide) ?_
  refine n_iadd hx hbc dL_law_165 ?_
  refine va_sld hx hbc hX hbl hbA w.2.2.2.1 (vp_in_nI (n := i + 3) (N := L) (by omega) (by omega)) dL_law_166 ?_
  rw [nI_clamp (show i + 3 < 2 ^ 31 by omega)]
  refine lv_i2l hx hbc dL_law_167 rfl ?_
  refine lv_ldc2 (v := (4294967295)) hx hbc hown (hg _ wk_977) dL_law_168 ?_
  refine lv_land hx hbc dL_law_171 ?_
  refine lv_lor hx hbc dL_law_172 ?_
  refine wc_Vi (na := 2) (f := id) (As := [.int (xs (i + 1)), .long (((((xs (i + 2))).toInt64) <<< ((nI 32).toInt64 &&& 63)) ||| ((((xs (i + 3))).toInt64) &&& (4294967295)))]) (rest := []) hx hbc hml hg hown w (EC_ok al) hE.1.1 w.1 lieC.A 57 (by decide) ((skL_lo (by decide)).trans rfl) rfl (k_D_feed l D cy (fun z9 => ad (id z9)) al (pul S id) ((xs (i + 1))) ((((((xs (i + 2))).toInt64) <<< ((nI 32).toInt64 &&& 63)) ||| ((((xs (i + 3))).toInt64) &&& (4294967295)))) t hT.1 hT.2.2.1) wk_239 wk_1 wk_236 wk_237 wk_238 ⟨by decide, by decide, by decide⟩ ⟨Nat.le_of_ble_eq_true rfl, Nat.le_of_ble_eq_true rfl⟩ rfl hl.1 rfl (Nat.le_of_ble_eq_true rfl) dL_law_173 ⟨by show cN ≤ 603072; omega, by show sN ≤ 7211114; omega⟩ (fun r T hpc H locs w => ?_)
  have w := w _ (lieC.T T)
  refine lv_aload_n hx hbc dL_law_176 rfl (lv_at hl 2 rfl) ?_
  refine lv_aload_n hx hbc dL_law_177 rfl (lv_at hl 4 rfl) ?_
  refine lv_iload hx hbc dL_law_178 (lv_at hl 0 rfl) ?_
  refine lv_iconst (v := nI 1) hx hbc dL_law_180 (by decide) ?_
  refine n_iadd hx hbc dL_law_181 ?_
  refine va_sld hx hbc hX hbl hbA w.2.2.2.1 (vp_in_nI (n := i + 1) (N := L) (by omega) (by omega)) dL_law_182 ?_
  rw [nI_clamp (show i + 1 < 2 ^ 31 by omega)]
  refine lv_aload_n hx hbc dL_law_183 rfl (lv_at hl 4 rfl) ?_
  refine lv_iload hx hbc dL_law_184 (lv_at hl 0 rfl) ?_
  refine lv_iconst (v := nI 2) hx hbc dL_law_186 (by decide) ?_
  refine n_iadd hx hbc dL_law_187 ?_
  refine va_sld hx hbc hX hbl hbA w.2.2.2.1 (vp_in_nI (n := i + 2) (N := L) (by omega) (by omega)) dL_law_188 ?_
  rw [nI_clamp (show i + 2 < 2 ^ 31 by omega)]
  refine lv_i2l hx hbc dL_law_189 rfl ?_
  refine lv_bipush (v := nI 32) hx hbc dL_law_190 (by decide) ?_
  refine lv_lshl hx hbc dL_law_192 rfl ?_
  refine lv_aload_n hx hbc dL_law_193 rfl (lv_at hl 4 rfl) ?_
  refine lv_iload hx hbc dL_law_194 (lv_at hl 0 rfl) ?_
  refine lv_iconst (v := nI 3) hx hbc dL_law_196 (by decide) ?_
  refine n_iadd hx hbc dL_law_197 ?_
  refine va_sld hx hbc hX hbl hbA w.2.2.2.1 (vp_in_nI (n := i + 3) (N := L) (by omega) (by omega)) dL_law_198 ?_
  rw [nI_clamp (show i + 3 < 2 ^ 31 by omega)]
  refine lv_i2l hx hbc dL_law_199 rfl ?_
  refine lv_ldc2 (v := (4294967295)) hx hbc hown (hg _ wk_977) dL_law_200 ?_
  refine lv_land hx hbc dL_law_203 ?_
  refine lv_lor hx hbc dL_law_204 ?_
  refine wc_Vi (na := 2) (f := fRf) (As := [.int (xs (i + 1)), .long (((((xs (i + 2))).toInt64) <<< ((nI 32).toInt64 &&& 63)) ||| ((((xs (i + 3))).toInt64) &&& (4294967295)))]) (rest := [.int r]) hx hbc hml hg hown w E0_ok trivial (tyM_of w.1) (subM0 S T) 322 (by decide) skL_322 rfl (k_X8_feed l D cy (fun z9 => ad (fRf z9)) (pul S fRf) ((xs (i + 1))) ((((((xs (i + 2))).toInt64) <<< ((nI 32).toInt64 &&& 63)) ||| ((((xs (i + 3))).toInt64) &&& (4294967295)))) t hT.2.1 hT.2.2.1) wk_796 wk_9 wk_793 wk_794 wk_795 ⟨by decide, by decide, by decide⟩ ⟨Nat.le_of_ble_eq_true rfl, Nat.le_of_ble_eq_true rfl⟩ rfl hl.1 rfl (Nat.le_of_ble_eq_true rfl) dL_law_205 ⟨by show cN ≤ 603072; omega, by show sN ≤ 7211114; omega⟩ (fun r9 M9 hpm H locs w => ?_)
  have w := w _ (lieM.T M9)
  obtain ⟨e9, hR9⟩ := sim_feed hR ((xs (i + 1))) ((((((xs (i + 2))).toInt64) <<< ((nI 32).toInt64 &&& 63)) ||| ((((xs (i + 3))).toInt64) &&& (4294967295)))) t hT hpc hpm
  refine lv_icmp_eq (tgt := 1029) hx hbc dL_law_208 (by decide) (fun c9 => ?_) (fun c9 => absurd e9 c9)
  exact k _ _ _ _ _ _ (LR.both hR9) w hl (Nat.le_succ _) (Nat.le_add_right _ _)
set_option maxHeartbeats 1000000 in
set_option maxRecDepth 100000 in
theorem lc_key {p : Program} {l : Launch} {e : Env} {s : State} {m : MethodId} {args : Array Value} {below : List Frame} {meth : Method} {c : Code} {Q : State → Prop} {D : va_G} {cy : Nat → ClassId} {ad al sx : Nat → Nat} {A : Nat → Prop} {b L : Nat} {xs : Nat → Int32} {S : wS} {H : Heap} {locs : List Loc} {ls : Array Slot} {i cN sN : Nat} (B : lB p l s m args c A al sx b L xs) (hi : i + 5 ≤ L) (hc9 : cN + 1 ≤ 603072) (hs9 : sN + 8 ≤ 7211114) (hR : LR S) (w : WB D (tyC cy) 354 cy ad skL A s S H locs) (hl : lv_has ls 8 [(4, .int (nI i)), (3, .ref (ad 353)), (2, .ref (ad 322)), (1, .ref (ad 57)), (0, .ref b)])
    (k : ∀ (S : wS) (H : Heap) (locs : List Loc) (ls : Array Slot) (c9 s9 : Nat), LR S → WB D (tyC cy) 354 cy ad skL A s S H locs → lv_has ls 8 [(4, .int (nI i)), (3, .ref (ad 353)), (2, .ref (ad 322)), (1, .ref (ad 57)), (0, .ref b)] → c9 ≤ cN + 1 → s9 ≤ sN + 8 → W p l e room_1 s m args below meth c H locs c9 s9 Q (F0 m 1029 ls [])) : W p l e room_1 s m args below meth c H locs cN sN Q (F0 m 213 ls []) := by
  obtain ⟨hx, hbc, hml, hg, hown, hE, hX, hbl, hbA, hlt, hL9⟩ := B
  have hR0 := hR
  obtain ⟨⟨kq1, kq2, kq3, q, hq⟩, ⟨t, hT⟩, ⟨ks, hS⟩, ⟨d, hD⟩, hG, ⟨lv, lz, hB⟩, ⟨pv, hP⟩, ⟨R9, rz, hRR⟩⟩ := hR0
  refine lv_aload_n hx hbc dL_law_213 rfl (lv_at hl 3 rfl) ?_
  refine wc_Vi (na := 0) (f := id) (As := []) (rest := []) hx hbc hml hg hown w (EC_ok al) hE.1.1 w.1 lieC.A 57 (by decide) ((skL_lo (by decide)).trans rfl) rfl (k_D_key l D cy (fun z9 => ad (id z9)) al (pul S id) t hT.1 hT.2.2.1 hT.2.2.2.2) wk_243 wk_1 wk_240 wk_241 wk_242 ⟨by decide, by decide, by decide⟩ ⟨Nat.le_of_ble_eq_true rfl, Nat.le_of_ble_eq_true rfl⟩ rfl hl.1 rfl (Nat.le_of_ble_eq_true rfl) dL_law_214 ⟨by show cN ≤ 603072; omega, by show sN ≤ 7211114; omega⟩ (fun r T hpc H locs w => ?_)
  have w := w _ (lieC.T T)
  refine lv_aload_n hx hbc dL_law_217 rfl (lv_at hl 2 rfl) ?_
  refine wc_Vi (na := 0) (f := fRf) (As := []) (rest := [.int r]) hx hbc hml hg hown w E0_ok trivial (tyM_of w.1) (subM0 S T) 322 (by decide) skL_322 rfl (k_X8_key l D cy (fun z9 => ad (fRf z9)) (pul S fRf) t hT.2.1 hT.2.2.1) wk_804 wk_9 wk_801 wk_802 wk_803 ⟨by decide, by decide, by decide⟩ ⟨Nat.le_of_ble_eq_true rfl, Nat.le_of_ble_eq_true rfl⟩ rfl hl.1 rfl (Nat.le_of_ble_eq_true rfl) dL_law_218 ⟨by show cN ≤ 603072; omega, by show sN ≤ 7211114; omega⟩ (fun r9 M9 hpm H locs w => ?_)
  have w := w _ (lieM.T M9)
  obtain ⟨e9, hR9⟩ := sim_key hR t hT hpc hpm
  refine lv_icmp_eq (tgt := 1029) hx hbc dL_law_221 (by decide) (fun c9 => ?_) (fun c9 => absurd e9 c9)
  exact k _ _ _ _ _ _ (LR.both hR9) w hl (Nat.le_succ _) (Nat.le_add_right _ _)
set_option maxHeartbeats 1000000 in
set_option maxRecDepth 100000 in
theorem lc_digest {p : Program} {l : Launch} {e : Env} {s : State} {m : MethodId} {args : Array Value} {below : List Frame} {meth : Method} {c : Code} {Q : State → Prop} {D : va_G} {cy : Nat → ClassId} {ad al sx : Nat → Nat} {A : Nat → Prop} {b L : Nat} {xs : Nat → Int32} {S : wS} {H : Heap} {locs : List Loc} {ls : Array Slot} {i cN sN : Nat} (B : lB p l s m args c A al sx b L xs) (hi : i + 5 ≤ L) (hc9 : cN + 1 ≤ 603072) (hs9 : sN + 8 ≤ 7211114) (hR : LR S) (w : WB D (tyC cy) 354 cy ad skL A s S H locs) (hl : lv_has ls 8 [(4, .int (nI i)), (3, .ref (ad 353)), (2, .ref (ad 322)), (1, .ref (ad 57)), (0, .ref b)])
    (k : ∀ (S : wS) (H : Heap) (locs : List Loc) (ls : Array Slot) (c9 s9 : Nat), LR S → WB D (tyC cy) 354 cy ad skL A s S H locs → lv_has ls 8 [(4, .int (nI i)), (3, .ref (ad 353)), (2, .ref (ad 322)), (1, .ref (ad 57)), (0, .ref b)] → c9 ≤ cN + 1 → s9 ≤ sN + 8 → W p l e room_1 s m args below meth c H locs c9 s9 Q (F0 m 1029 ls [])) : W p l e room_1 s m args below meth c H locs cN sN Q (F0 m 226 ls []) := by
  obtain ⟨hx, hbc, hml, hg, hown, hE, hX, hbl, hbA, hlt, hL9⟩ := B
  have hR0 := hR
  obtain ⟨⟨kq1, kq2, kq3, q, hq⟩, ⟨t, hT⟩, ⟨ks, hS⟩, ⟨d, hD⟩, hG, ⟨lv, lz, hB⟩, ⟨pv, hP⟩, ⟨R9, rz, hRR⟩⟩ := hR0
  refine lv_aload_n hx hbc dL_law_226 rfl (lv_at hl 3 rfl) ?_
  refine lv_aload_n hx hbc dL_law_227 rfl (lv_at hl 4 rfl) ?_
  refine lv_iload hx hbc dL_law_228 (lv_at hl 0 rfl) ?_
  refine lv_iconst (v := nI 1) hx hbc dL_law_230 (by decide) ?_
  refine n_iadd hx hbc dL_law_231 ?_
  refine va_sld hx hbc hX hbl hbA w.2.2.2.1 (vp_in_nI (n := i + 1) (N := L) (by omega) (by omega)) dL_law_232 ?_
  rw [nI_clamp (show i + 1 < 2 ^ 31 by omega)]
  refine wc_Vi (na := 1) (f := id) (As := [.int (xs (i + 1))]) (rest := []) hx hbc hml hg hown w (EC_ok al) hE.1.1 w.1 lieC.A 57 (by decide) ((skL_lo (by decide)).trans rfl) rfl (k_D_digest l D cy (fun z9 => ad (id z9)) al (pul S id) ((xs (i + 1))) t hT.1 hT.2.2.1 d hD.1 hD.2.2.1 ks hS.1 hS.2.2.1 hS.2.2.2.2) wk_250 wk_1 wk_247 wk_248 wk_249 ⟨by decide, by decide, by decide⟩ ⟨Nat.le_of_ble_eq_true rfl, Nat.le_of_ble_eq_true rfl⟩ rfl hl.1 rfl (Nat.le_of_ble_eq_true rfl) dL_law_233 ⟨by show cN ≤ 603072; omega, by show sN ≤ 7211114; omega⟩ (fun r T hpc H locs w => ?_)
  have w := w _ (lieC.T T)
  refine lv_aload_n hx hbc dL_law_236 rfl (lv_at hl 2 rfl) ?_
  refine lv_aload_n hx hbc dL_law_237 rfl (lv_at hl 4 rfl) ?_
  refine lv_iload hx hbc dL_law_238 (lv_at hl 0 rfl) ?_
  refine lv_iconst (v := nI 1) hx hbc dL_law_240 (by decide) ?_
  refine n_iadd hx hbc dL_law_241 ?_
  refine va_sld hx hbc hX hbl hbA w.2.2.2.1 (vp_in_nI (n := i + 1) (N := L) (by omega) (by omega)) dL_law_242 ?_
  rw [nI_clamp (show i + 1 < 2 ^ 31 by omega)]
  refine wc_Vi (na := 1) (f := fRf) (As := [.int (xs (i + 1))]) (rest := [.int r]) hx hbc hml hg hown w E0_ok trivial (tyM_of w.1) (subM0 S T) 322 (by decide) skL_322 rfl (k_X8_digest l D cy (fun z9 => ad (fRf z9)) (pul S fRf) ((xs (i + 1))) t d ks hT.2.1 hT.2.2.1 hD.2.1 hD.2.2.1 hS.2.1 hS.2.2.1) wk_808 wk_9 wk_805 wk_806 wk_807 ⟨by decide, by decide, by decide⟩ ⟨Nat.le_of_ble_eq_true rfl, Nat.le_of_ble_eq_true rfl⟩ rfl hl.1 rfl (Nat.le_of_ble_eq_true rfl) dL_law_243 ⟨by show cN ≤ 603072; omega, by show sN ≤ 7211114; omega⟩ (fun r9 M9 hpm H locs w => ?_)
  have w := w _ (lieM.T M9)
  obtain ⟨e9, hR9⟩ := sim_digest hR ((xs (i + 1))) t d ks hT hS hD hpc hpm
  refine lv_icmp_eq (tgt := 1029) hx hbc dL_law_246 (by decide) (fun c9 => ?_) (fun c9 => absurd e9 c9)
  exact k _ _ _ _ _ _ (LR.both hR9) w hl (Nat.le_succ _) (Nat.le_add_right _ _)
set_option maxHeartbeats 1000000 in
set_option maxRecDepth 100000 in
theorem lc_open {p : Program} {l : Launch} {e : Env} {s : State} {m : MethodId} {args : Array Value} {below : List Frame} {meth : Method} {c : Code} {Q : State → Prop} {D : va_G} {cy : Nat → ClassId} {ad al sx : Nat → Nat} {A : Nat → Prop} {b L : Nat} {xs : Nat → Int32} {S : wS} {H : Heap} {locs : List Loc} {ls : Array Slot} {i cN sN : Nat} (B : lB p l s m args c A al sx b L xs) (hi : i + 5 ≤ L) (hc9 : cN + 1 ≤ 603072) (hs9 : sN + 8 ≤ 7211114) (hR : LR S) (w : WB D (tyC cy) 354 cy ad skL A s S H locs) (hl : lv_has ls 8 [(4, .int (nI i)), (3, .ref (ad 353)), (2, .ref (ad 322)), (1, .ref (ad 57)), (0, .ref b)])
    (k : ∀ (S : wS) (H : Heap) (locs : List Loc) (ls : Array Slot) (c9 s9 : Nat), LR S → WB D (tyC cy) 354 cy ad skL A s S H locs → lv_has ls 8 [(4, .int (nI i)), (3, .ref (ad 353)), (2, .ref (ad 322)), (1, .ref (ad 57)), (0, .ref b)] → c9 ≤ cN + 1 → s9 ≤ sN + 8 → W p l e room_1 s m args below meth c H locs c9 s9 Q (F0 m 1029 ls [])) : W p l e room_1 s m args below meth c H locs cN sN Q (F0 m 251 ls []) := by
  obtain ⟨hx, hbc, hml, hg, hown, hE, hX, hbl, hbA, hlt, hL9⟩ := B
  have hR0 := hR
  obtain ⟨⟨kq1, kq2, kq3, q, hq⟩, ⟨t, hT⟩, ⟨ks, hS⟩, ⟨d, hD⟩, hG, ⟨lv, lz, hB⟩, ⟨pv, hP⟩, ⟨R9, rz, hRR⟩⟩ := hR0
  obtain ⟨so, lk, bl, g, n, hst⟩ := sti hG
  refine lv_aload_n hx hbc dL_law_251 rfl (lv_at hl 3 rfl) ?_
  refine lv_aload_n hx hbc dL_law_252 rfl (lv_at hl 4 rfl) ?_
  refine lv_iload hx hbc dL_law_253 (lv_at hl 0 rfl) ?_
  refine lv_iconst (v := nI 1) hx hbc dL_law_255 (by decide) ?_
  refine n_iadd hx hbc dL_law_256 ?_
  refine va_sld hx hbc hX hbl hbA w.2.2.2.1 (vp_in_nI (n := i + 1) (N := L) (by omega) (by omega)) dL_law_257 ?_
  rw [nI_clamp (show i + 1 < 2 ^ 31 by omega)]
  refine lv_aload_n hx hbc dL_law_258 rfl (lv_at hl 4 rfl) ?_
  refine lv_iload hx hbc dL_law_259 (lv_at hl 0 rfl) ?_
  refine lv_iconst (v := nI 2) hx hbc dL_law_261 (by decide) ?_
  refine n_iadd hx hbc dL_law_262 ?_
  refine va_sld hx hbc hX hbl hbA w.2.2.2.1 (vp_in_nI (n := i + 2) (N := L) (by omega) (by omega)) dL_law_263 ?_
  rw [nI_clamp (show i + 2 < 2 ^ 31 by omega)]
  refine wc_Vi (na := 2) (f := id) (As := [.int (xs (i + 1)), .int (xs (i + 2))]) (rest := []) hx hbc hml hg hown w (EC_ok al) hE.1.1 w.1 lieC.A 57 (by decide) ((skL_lo (by decide)).trans rfl) rfl (k_D_open l D cy (fun z9 => ad (id z9)) al (pul S id) ((xs (i + 1))) ((xs (i + 2))) (fun j hj => (hst j hj).2.2.elim (fun h => Or.inl h.1) (fun h => Or.inr h.1)) ks hS.1 hS.2.2.1 hS.2.2.2.2) wk_337 wk_1 wk_334 wk_335 wk_336 ⟨by decide, by decide, by decide⟩ ⟨Nat.le_of_ble_eq_true rfl, Nat.le_of_ble_eq_true rfl⟩ rfl hl.1 rfl (Nat.le_of_ble_eq_true rfl) dL_law_264 ⟨by show cN ≤ 603072; omega, by show sN ≤ 7211114; omega⟩ (fun r T hpc H locs w => ?_)
  have w := w _ (lieC.T T)
  refine lv_aload_n hx hbc dL_law_267 rfl (lv_at hl 2 rfl) ?_
  refine lv_aload_n hx hbc dL_law_268 rfl (lv_at hl 4 rfl) ?_
  refine lv_iload hx hbc dL_law_269 (lv_at hl 0 rfl) ?_
  refine lv_iconst (v := nI 1) hx hbc dL_law_271 (by decide) ?_
  refine n_iadd hx hbc dL_law_272 ?_
  refine va_sld hx hbc hX hbl hbA w.2.2.2.1 (vp_in_nI (n := i + 1) (N := L) (by omega) (by omega)) dL_law_273 ?_
  rw [nI_clamp (show i + 1 < 2 ^ 31 by omega)]
  refine lv_aload_n hx hbc dL_law_274 rfl (lv_at hl 4 rfl) ?_
  refine lv_iload hx hbc dL_law_275 (lv_at hl 0 rfl) ?_
  refine lv_iconst (v := nI 2) hx hbc dL_law_277 (by decide) ?_
  refine n_iadd hx hbc dL_law_278 ?_
  refine va_sld hx hbc hX hbl hbA w.2.2.2.1 (vp_in_nI (n := i + 2) (N := L) (by omega) (by omega)) dL_law_279 ?_
  rw [nI_clamp (show i + 2 < 2 ^ 31 by omega)]
  refine wc_Vi (na := 2) (f := fRf) (As := [.int (xs (i + 1)), .int (xs (i + 2))]) (rest := [.int r]) hx hbc hml hg hown w E0_ok trivial (tyM_of w.1) (subM0 S T) 322 (by decide) skL_322 rfl (k_X8_open l D cy (fun z9 => ad (fRf z9)) (pul S fRf) ((xs (i + 1))) ((xs (i + 2))) ks hS.2.1 hS.2.2.1) wk_844 wk_9 wk_841 wk_842 wk_843 ⟨by decide, by decide, by decide⟩ ⟨Nat.le_of_ble_eq_true rfl, Nat.le_of_ble_eq_true rfl⟩ rfl hl.1 rfl (Nat.le_of_ble_eq_true rfl) dL_law_280 ⟨by show cN ≤ 603072; omega, by show sN ≤ 7211114; omega⟩ (fun r9 M9 hpm H locs w => ?_)
  have w := w _ (lieM.T M9)
  obtain ⟨e9, hR9⟩ := sim_open hR ((xs (i + 1))) ((xs (i + 2))) ks hS so lk bl g n hst hpc hpm
  refine lv_icmp_eq (tgt := 1029) hx hbc dL_law_283 (by decide) (fun c9 => ?_) (fun c9 => absurd e9 c9)
  exact k _ _ _ _ _ _ (LR.both hR9) w hl (Nat.le_succ _) (Nat.le_add_right _ _)
set_option maxHeartbeats 1000000 in
set_option maxRecDepth 100000 in
theorem lc_more {p : Program} {l : Launch} {e : Env} {s : State} {m : MethodId} {args : Array Value} {below : List Frame} {meth : Method} {c : Code} {Q : State → Prop} {D : va_G} {cy : Nat → ClassId} {ad al sx : Nat → Nat} {A : Nat → Prop} {b L : Nat} {xs : Nat → Int32} {S : wS} {H : Heap} {locs : List Loc} {ls : Array Slot} {i cN sN : Nat} (B : lB p l s m args c A al sx b L xs) (hi : i + 5 ≤ L) (hc9 : cN + 1 ≤ 603072) (hs9 : sN + 8 ≤ 7211114) (hR : LR S) (w : WB D (tyC cy) 354 cy ad skL A s S H locs) (hl : lv_has ls 8 [(4, .int (nI i)), (3, .ref (ad 353)), (2, .ref (ad 322)), (1, .ref (ad 57)), (0, .ref b)])
    (k : ∀ (S : wS) (H : Heap) (locs : List Loc) (ls : Array Slot) (c9 s9 : Nat), LR S → WB D (tyC cy) 354 cy ad skL A s S H locs → lv_has ls 8 [(4, .int (nI i)), (3, .ref (ad 353)), (2, .ref (ad 322)), (1, .ref (ad 57)), (0, .ref b)] → c9 ≤ cN + 1 → s9 ≤ sN + 8 → W p l e room_1 s m args below meth c H locs c9 s9 Q (F0 m 1029 ls [])) : W p l e room_1 s m args below meth c H locs cN sN Q (F0 m 288 ls []) := by
  obtain ⟨hx, hbc, hml, hg, hown, hE, hX, hbl, hbA, hlt, hL9⟩ := B
  have hR0 := hR
  obtain ⟨⟨kq1, kq2, kq3, q, hq⟩, ⟨t, hT⟩, ⟨ks, hS⟩, ⟨d, hD⟩, hG, ⟨lv, lz, hB⟩, ⟨pv, hP⟩, ⟨R9, rz, hRR⟩⟩ := hR0
  obtain ⟨so, lk, bl, g, n, hst⟩ := sti hG
  refine lv_aload_n hx hbc dL_law_288 rfl (lv_at hl 3 rfl) ?_
  refine lv_aload_n hx hbc dL_law_289 rfl (lv_at hl 4 rfl) ?_
  refine lv_iload hx hbc dL_law_290 (lv_at hl 0 rfl) ?_
  refine lv_iconst (v := nI 1) hx hbc dL_law_292 (by decide) ?_
  refine n_iadd hx hbc dL_law_293 ?_
  refine va_sld hx hbc hX hbl hbA w.2.2.2.1 (vp_in_nI (n := i + 1) (N := L) (by omega) (by omega)) dL_law_294 ?_
  rw [nI_clamp (show i + 1 < 2 ^ 31 by omega)]
  refine wc_Vi (na := 1) (f := id) (As := [.int (xs (i + 1))]) (rest := []) hx hbc hml hg hown w (EC_ok al) hE.1.1 w.1 lieC.A 57 (by decide) ((skL_lo (by decide)).trans rfl) rfl (k_D_more l D cy (fun z9 => ad (id z9)) al (pul S id) ((xs (i + 1))) t hT.1 hT.2.2.1 so lk bl g n (fun j hj => (hst j hj).2.2.elim (fun h => Or.inl h.1) (fun h => Or.inr ⟨h.1, h.2.2.1, (hst j hj).2.1, h.2.2.2.1⟩))) wk_344 wk_1 wk_341 wk_342 wk_343 ⟨by decide, by decide, by decide⟩ ⟨Nat.le_of_ble_eq_true rfl, Nat.le_of_ble_eq_true rfl⟩ rfl hl.1 rfl (Nat.le_of_ble_eq_true rfl) dL_law_295 ⟨by show cN ≤ 603072; omega, by show sN ≤ 7211114; omega⟩ (fun r T hpc H locs w => ?_)
  have w := w _ (lieC.T T)
  refine lv_aload_n hx hbc dL_law_298 rfl (lv_at hl 2 rfl) ?_
  refine lv_aload_n hx hbc dL_law_299 rfl (lv_at hl 4 rfl) ?_
  refine lv_iload hx hbc dL_law_300 (lv_at hl 0 rfl) ?_
  refine lv_iconst (v := nI 1) hx hbc dL_law_302 (by decide) ?_
  refine n_iadd hx hbc dL_law_303 ?_
  refine va_sld hx hbc hX hbl hbA w.2.2.2.1 (vp_in_nI (n := i + 1) (N := L) (by omega) (by omega)) dL_law_304 ?_
  rw [nI_clamp (show i + 1 < 2 ^ 31 by omega)]
  refine wc_Vi (na := 1) (f := fRf) (As := [.int (xs (i + 1))]) (rest := [.int r]) hx hbc hml hg hown w E0_ok trivial (tyM_of w.1) (subM0 S T) 322 (by decide) skL_322 rfl (k_X8_more l D cy (fun z9 => ad (fRf z9)) (pul S fRf) ((xs (i + 1))) t hT.2.1 hT.2.2.1 n (fun j hj => ⟨(hst j hj).1, (hst j hj).2.1⟩)) wk_848 wk_9 wk_845 wk_846 wk_847 ⟨by decide, by decide, by decide⟩ ⟨Nat.le_of_ble_eq_true rfl, Nat.le_of_ble_eq_true rfl⟩ rfl hl.1 rfl (Nat.le_of_ble_eq_true rfl) dL_law_305 ⟨by show cN ≤ 603072; omega, by show sN ≤ 7211114; omega⟩ (fun r9 M9 hpm H locs w => ?_)
  have w := w _ (lieM.T M9)
  obtain ⟨e9, hR9⟩ := sim_more hR ((xs (i + 1))) t hT so lk bl g n hst hpc hpm
  refine lv_icmp_eq (tgt := 1029) hx hbc dL_law_308 (by decide) (fun c9 => ?_) (fun c9 => absurd e9 c9)
  exact k _ _ _ _ _ _ (LR.both hR9) w hl (Nat.le_succ _) (Nat.le_add_right _ _)
set_option maxHeartbeats 1000000 in
set_option maxRecDepth 100000 in
theorem lc_end {p : Program} {l : Launch} {e : Env} {s : State} {m : MethodId} {args : Array Value} {below : List Frame} {meth : Method} {c : Code} {Q : State → Prop} {D : va_G} {cy : Nat → ClassId} {ad al sx : Nat → Nat} {A : Nat → Prop} {b L : Nat} {xs : Nat → Int32} {S : wS} {H : Heap} {locs : List Loc} {ls : Array Slot} {i cN sN : Nat} (B : lB p l s m args c A al sx b L xs) (hi : i + 5 ≤ L) (hc9 : cN + 1 ≤ 603072) (hs9 : sN + 8 ≤ 7211114) (hR : LR S) (w : WB D (tyC cy) 354 cy ad skL A s S H locs) (hl : lv_has ls 8 [(4, .int (nI i)), (3, .ref (ad 353)), (2, .ref (ad 322)), (1, .ref (ad 57)), (0, .ref b)])
    (k : ∀ (S : wS) (H : Heap) (locs : List Loc) (ls : Array Slot) (c9 s9 : Nat), LR S → WB D (tyC cy) 354 cy ad skL A s S H locs → lv_has ls 8 [(4, .int (nI i)), (3, .ref (ad 353)), (2, .ref (ad 322)), (1, .ref (ad 57)), (0, .ref b)] → c9 ≤ cN + 1 → s9 ≤ sN + 8 → W p l e room_1 s m args below meth c H locs c9 s9 Q (F0 m 1029 ls [])) : W p l e room_1 s m args below meth c H locs cN sN Q (F0 m 313 ls []) := by
  obtain ⟨hx, hbc, hml, hg, hown, hE, hX, hbl, hbA, hlt, hL9⟩ := B
  have hR0 := hR
  obtain ⟨⟨kq1, kq2, kq3, q, hq⟩, ⟨t, hT⟩, ⟨ks, hS⟩, ⟨d, hD⟩, hG, ⟨lv, lz, hB⟩, ⟨pv, hP⟩, ⟨R9, rz, hRR⟩⟩ := hR0
  obtain ⟨so, lk, bl, g, n, hst⟩ := sti hG
  refine lv_aload_n hx hbc dL_law_313 rfl (lv_at hl 3 rfl) ?_
  refine lv_aload_n hx hbc dL_law_314 rfl (lv_at hl 4 rfl) ?_
  refine lv_iload hx hbc dL_law_315 (lv_at hl 0 rfl) ?_
  refine lv_iconst (v := nI 1) hx hbc dL_law_317 (by decide) ?_
  refine n_iadd hx hbc dL_law_318 ?_
  refine va_sld hx hbc hX hbl hbA w.2.2.2.1 (vp_in_nI (n := i + 1) (N := L) (by omega) (by omega)) dL_law_319 ?_
  rw [nI_clamp (show i + 1 < 2 ^ 31 by omega)]
  refine wc_Vi (na := 1) (f := id) (As := [.int (xs (i + 1))]) (rest := []) hx hbc hml hg hown w (EC_ok al) hE.1.1 w.1 lieC.A 57 (by decide) ((skL_lo (by decide)).trans rfl) rfl (k_D_end l D cy (fun z9 => ad (id z9)) al (pul S id) ((xs (i + 1))) d hD.1 hD.2.2.1 so lk bl g n (fun j hj => (hst j hj).2.2.elim (fun h => Or.inl h.1) (fun h => Or.inr ⟨h.1, h.2.2.1, (hst j hj).2.1, h.2.2.2.1⟩))) wk_348 wk_1 wk_345 wk_346 wk_347 ⟨by decide, by decide, by decide⟩ ⟨Nat.le_of_ble_eq_true rfl, Nat.le_of_ble_eq_true rfl⟩ rfl hl.1 rfl (Nat.le_of_ble_eq_true rfl) dL_law_320 ⟨by show cN ≤ 603072; omega, by show sN ≤ 7211114; omega⟩ (fun r T hpc H locs w => ?_)
  have w := w _ (lieC.T T)
  refine lv_aload_n hx hbc dL_law_323 rfl (lv_at hl 2 rfl) ?_
  refine lv_aload_n hx hbc dL_law_324 rfl (lv_at hl 4 rfl) ?_
  refine lv_iload hx hbc dL_law_325 (lv_at hl 0 rfl) ?_
  refine lv_iconst (v := nI 1) hx hbc dL_law_327 (by decide) ?_
  refine n_iadd hx hbc dL_law_328 ?_
  refine va_sld hx hbc hX hbl hbA w.2.2.2.1 (vp_in_nI (n := i + 1) (N := L) (by omega) (by omega)) dL_law_329 ?_
  rw [nI_clamp (show i + 1 < 2 ^ 31 by omega)]
  refine wc_Vi (na := 1) (f := fRf) (As := [.int (xs (i + 1))]) (rest := [.int r]) hx hbc hml hg hown w E0_ok trivial (tyM_of w.1) (subM0 S T) 322 (by decide) skL_322 rfl (k_X8_end l D cy (fun z9 => ad (fRf z9)) (pul S fRf) ((xs (i + 1))) d hD.2.1 hD.2.2.1 n (fun j hj => ⟨(hst j hj).1, (hst j hj).2.1⟩) (fun j hj => (hst j hj).2.2.elim (fun h => Or.inl h.2) (fun h => Or.inr ⟨so j, h.2.2.1, h.2.1⟩)) bl (fun j hj h2 => (hst j hj).2.2.elim (fun h => absurd (h.2.symm.trans h2) (by decide)) (fun h => h.2.2.2.2.2.elim (fun h3 => absurd (nIe (h.2.1.symm.trans h2) (by have := h.2.2.1; omega) (by decide)) h3.1) (fun h3 => h3.2.2)))) wk_852 wk_9 wk_849 wk_850 wk_851 ⟨by decide, by decide, by decide⟩ ⟨Nat.le_of_ble_eq_true rfl, Nat.le_of_ble_eq_true rfl⟩ rfl hl.1 rfl (Nat.le_of_ble_eq_true rfl) dL_law_330 ⟨by show cN ≤ 603072; omega, by show sN ≤ 7211114; omega⟩ (fun r9 M9 hpm H locs w => ?_)
  have w := w _ (lieM.T M9)
  obtain ⟨e9, hR9⟩ := sim_end hR ((xs (i + 1))) d hD so lk bl g n hst hpc hpm
  refine lv_icmp_eq (tgt := 1029) hx hbc dL_law_333 (by decide) (fun c9 => ?_) (fun c9 => absurd e9 c9)
  exact k _ _ _ _ _ _ (LR.both hR9) w hl (Nat.le_succ _) (Nat.le_add_right _ _)
set_option maxHeartbeats 1000000 in
set_option maxRecDepth 100000 in
theorem lc_told {p : Program} {l : Launch} {e : Env} {s : State} {m : MethodId} {args : Array Value} {below : List Frame} {meth : Method} {c : Code} {Q : State → Prop} {D : va_G} {cy : Nat → ClassId} {ad al sx : Nat → Nat} {A : Nat → Prop} {b L : Nat} {xs : Nat → Int32} {S : wS} {H : Heap} {locs : List Loc} {ls : Array Slot} {i cN sN : Nat} (B : lB p l s m args c A al sx b L xs) (hi : i + 5 ≤ L) (hc9 : cN + 1 ≤ 603072) (hs9 : sN + 8 ≤ 7211114) (hR : LR S) (w : WB D (tyC cy) 354 cy ad skL A s S H locs) (hl : lv_has ls 8 [(4, .int (nI i)), (3, .ref (ad 353)), (2, .ref (ad 322)), (1, .ref (ad 57)), (0, .ref b)])
    (k : ∀ (S : wS) (H : Heap) (locs : List Loc) (ls : Array Slot) (c9 s9 : Nat), LR S → WB D (tyC cy) 354 cy ad skL A s S H locs → lv_has ls 8 [(4, .int (nI i)), (3, .ref (ad 353)), (2, .ref (ad 322)), (1, .ref (ad 57)), (0, .ref b)] → c9 ≤ cN + 1 → s9 ≤ sN + 8 → W p l e room_1 s m args below meth c H locs c9 s9 Q (F0 m 1029 ls [])) : W p l e room_1 s m args below meth c H locs cN sN Q (F0 m 338 ls []) := by
  obtain ⟨hx, hbc, hml, hg, hown, hE, hX, hbl, hbA, hlt, hL9⟩ := B
  have hR0 := hR
  obtain ⟨⟨kq1, kq2, kq3, q, hq⟩, ⟨t, hT⟩, ⟨ks, hS⟩, ⟨d, hD⟩, hG, ⟨lv, lz, hB⟩, ⟨pv, hP⟩, ⟨R9, rz, hRR⟩⟩ := hR0
  refine lv_aload_n hx hbc dL_law_338 rfl (lv_at hl 3 rfl) ?_
  refine lv_aload_n hx hbc dL_law_339 rfl (lv_at hl 4 rfl) ?_
  refine lv_iload hx hbc dL_law_340 (lv_at hl 0 rfl) ?_
  refine lv_iconst (v := nI 1) hx hbc dL_law_342 (by decide) ?_
  refine n_iadd hx hbc dL_law_343 ?_
  refine va_sld hx hbc hX hbl hbA w.2.2.2.1 (vp_in_nI (n := i + 1) (N := L) (by omega) (by omega)) dL_law_344 ?_
  rw [nI_clamp (show i + 1 < 2 ^ 31 by omega)]
  refine lv_aload_n hx hbc dL_law_345 rfl (lv_at hl 4 rfl) ?_
  refine lv_iload hx hbc dL_law_346 (lv_at hl 0 rfl) ?_
  refine lv_iconst (v := nI 2) hx hbc dL_law_348 (by decide) ?_
  refine n_iadd hx hbc dL_law_349 ?_
  refine va_sld hx hbc hX hbl hbA w.2.2.2.1 (vp_in_nI (n := i + 2) (N := L) (by omega) (by omega)) dL_law_350 ?_
  rw [nI_clamp (show i + 2 < 2 ^ 31 by omega)]
  refine wc_Vi (na := 2) (f := id) (As := [.int (xs (i + 1)), .int (xs (i + 2))]) (rest := []) hx hbc hml hg hown w (EC_ok al) hE.1.1 w.1 lieC.A 57 (by decide) ((skL_lo (by decide)).trans rfl) rfl (k_D_told l D cy (fun z9 => ad (id z9)) al (pul S id) ((xs (i + 1))) ((xs (i + 2))) d hD.1 hD.2.2.1) wk_352 wk_1 wk_349 wk_350 wk_351 ⟨by decide, by decide, by decide⟩ ⟨Nat.le_of_ble_eq_true rfl, Nat.le_of_ble_eq_true rfl⟩ rfl hl.1 rfl (Nat.le_of_ble_eq_true rfl) dL_law_351 ⟨by show cN ≤ 603072; omega, by show sN ≤ 7211114; omega⟩ (fun r T hpc H locs w => ?_)
  have w := w _ (lieC.T T)
  refine lv_aload_n hx hbc dL_law_354 rfl (lv_at hl 2 rfl) ?_
  refine lv_aload_n hx hbc dL_law_355 rfl (lv_at hl 4 rfl) ?_
  refine lv_iload hx hbc dL_law_356 (lv_at hl 0 rfl) ?_
  refine lv_iconst (v := nI 1) hx hbc dL_law_358 (by decide) ?_
  refine n_iadd hx hbc dL_law_359 ?_
  refine va_sld hx hbc hX hbl hbA w.2.2.2.1 (vp_in_nI (n := i + 1) (N := L) (by omega) (by omega)) dL_law_360 ?_
  rw [nI_clamp (show i + 1 < 2 ^ 31 by omega)]
  refine lv_aload_n hx hbc dL_law_361 rfl (lv_at hl 4 rfl) ?_
  refine lv_iload hx hbc dL_law_362 (lv_at hl 0 rfl) ?_
  refine lv_iconst (v := nI 2) hx hbc dL_law_364 (by decide) ?_
  refine n_iadd hx hbc dL_law_365 ?_
  refine va_sld hx hbc hX hbl hbA w.2.2.2.1 (vp_in_nI (n := i + 2) (N := L) (by omega) (by omega)) dL_law_366 ?_
  rw [nI_clamp (show i + 2 < 2 ^ 31 by omega)]
  refine wc_Vi (na := 2) (f := fRf) (As := [.int (xs (i + 1)), .int (xs (i + 2))]) (rest := [.int r]) hx hbc hml hg hown w E0_ok trivial (tyM_of w.1) (subM0 S T) 322 (by decide) skL_322 rfl (k_X8_told l D cy (fun z9 => ad (fRf z9)) (pul S fRf) ((xs (i + 1))) ((xs (i + 2))) d hD.2.1 hD.2.2.1) wk_856 wk_9 wk_853 wk_854 wk_855 ⟨by decide, by decide, by decide⟩ ⟨Nat.le_of_ble_eq_true rfl, Nat.le_of_ble_eq_true rfl⟩ rfl hl.1 rfl (Nat.le_of_ble_eq_true rfl) dL_law_367 ⟨by show cN ≤ 603072; omega, by show sN ≤ 7211114; omega⟩ (fun r9 M9 hpm H locs w => ?_)
  have w := w _ (lieM.T M9)
  obtain ⟨e9, hR9⟩ := sim_told hR ((xs (i + 1))) ((xs (i + 2))) d hD hpc hpm
  refine lv_icmp_eq (tgt := 1029) hx hbc dL_law_370 (by decide) (fun c9 => ?_) (fun c9 => absurd e9 c9)
  exact k _ _ _ _ _ _ (LR.both hR9) w hl (Nat.le_succ _) (Nat.le_add_right _ _)
set_option maxHeartbeats 1000000 in
set_option maxRecDepth 100000 in
theorem lc_same {p : Program} {l : Launch} {e : Env} {s : State} {m : MethodId} {args : Array Value} {below : List Frame} {meth : Method} {c : Code} {Q : State → Prop} {D : va_G} {cy : Nat → ClassId} {ad al sx : Nat → Nat} {A : Nat → Prop} {b L : Nat} {xs : Nat → Int32} {S : wS} {H : Heap} {locs : List Loc} {ls : Array Slot} {i cN sN : Nat} (B : lB p l s m args c A al sx b L xs) (hi : i + 5 ≤ L) (hc9 : cN + 1 ≤ 603072) (hs9 : sN + 8 ≤ 7211114) (hR : LR S) (w : WB D (tyC cy) 354 cy ad skL A s S H locs) (hl : lv_has ls 8 [(4, .int (nI i)), (3, .ref (ad 353)), (2, .ref (ad 322)), (1, .ref (ad 57)), (0, .ref b)])
    (k : ∀ (S : wS) (H : Heap) (locs : List Loc) (ls : Array Slot) (c9 s9 : Nat), LR S → WB D (tyC cy) 354 cy ad skL A s S H locs → lv_has ls 8 [(4, .int (nI i)), (3, .ref (ad 353)), (2, .ref (ad 322)), (1, .ref (ad 57)), (0, .ref b)] → c9 ≤ cN + 1 → s9 ≤ sN + 8 → W p l e room_1 s m args below meth c H locs c9 s9 Q (F0 m 1029 ls [])) : W p l e room_1 s m args below meth c H locs cN sN Q (F0 m 521 ls []) := by
  obtain ⟨hx, hbc, hml, hg, hown, hE, hX, hbl, hbA, hlt, hL9⟩ := B
  have hR0 := hR
  obtain ⟨⟨kq1, kq2, kq3, q, hq⟩, ⟨t, hT⟩, ⟨ks, hS⟩, ⟨d, hD⟩, hG, ⟨lv, lz, hB⟩, ⟨pv, hP⟩, ⟨R9, rz, hRR⟩⟩ := hR0
  refine lv_aload_n hx hbc dL_law_521 rfl (lv_at hl 3 rfl) ?_
  refine lv_aload_n hx hbc dL_law_522 rfl (lv_at hl 4 rfl) ?_
  refine lv_iload hx hbc dL_law_523 (lv_at hl 0 rfl) ?_
  refine lv_iconst (v := nI 1) hx hbc dL_law_525 (by decide) ?_
  refine n_iadd hx hbc dL_law_526 ?_
  refine va_sld hx hbc hX hbl hbA w.2.2.2.1 (vp_in_nI (n := i + 1) (N := L) (by omega) (by omega)) dL_law_527 ?_
  rw [nI_clamp (show i + 1 < 2 ^ 31 by omega)]
  refine lv_aload_n hx hbc dL_law_528 rfl (lv_at hl 4 rfl) ?_
  refine lv_iload hx hbc dL_law_529 (lv_at hl 0 rfl) ?_
  refine lv_iconst (v := nI 2) hx hbc dL_law_531 (by decide) ?_
  refine n_iadd hx hbc dL_law_532 ?_
  refine va_sld hx hbc hX hbl hbA w.2.2.2.1 (vp_in_nI (n := i + 2) (N := L) (by omega) (by omega)) dL_law_533 ?_
  rw [nI_clamp (show i + 2 < 2 ^ 31 by omega)]
  refine wc_Vi (na := 2) (f := id) (As := [.int (xs (i + 1)), .int (xs (i + 2))]) (rest := []) hx hbc hml hg hown w (EC_ok al) hE.1.1 w.1 lieC.A 57 (by decide) ((skL_lo (by decide)).trans rfl) rfl (k_D_same l D cy (fun z9 => ad (id z9)) al (pul S id) ((xs (i + 1))) ((xs (i + 2))) d hD.1 hD.2.2.1) wk_361 wk_1 wk_358 wk_359 wk_360 ⟨by decide, by decide, by decide⟩ ⟨Nat.le_of_ble_eq_true rfl, Nat.le_of_ble_eq_true rfl⟩ rfl hl.1 rfl (Nat.le_of_ble_eq_true rfl) dL_law_534 ⟨by show cN ≤ 603072; omega, by show sN ≤ 7211114; omega⟩ (fun r T hpc H locs w => ?_)
  have w := w _ (lieC.T T)
  refine lv_aload_n hx hbc dL_law_537 rfl (lv_at hl 2 rfl) ?_
  refine lv_aload_n hx hbc dL_law_538 rfl (lv_at hl 4 rfl) ?_
  refine lv_iload hx hbc dL_law_539 (lv_at hl 0 rfl) ?_
  refine lv_iconst (v := nI 1) hx hbc dL_law_541 (by decide) ?_
  refine n_iadd hx hbc dL_law_542 ?_
  refine va_sld hx hbc hX hbl hbA w.2.2.2.1 (vp_in_nI (n := i + 1) (N := L) (by omega) (by omega)) dL_law_543 ?_
  rw [nI_clamp (show i + 1 < 2 ^ 31 by omega)]
  refine lv_aload_n hx hbc dL_law_544 rfl (lv_at hl 4 rfl) ?_
  refine lv_iload hx hbc dL_law_545 (lv_at hl 0 rfl) ?_
  refine lv_iconst (v := nI 2) hx hbc dL_law_547 (by decide) ?_
  refine n_iadd hx hbc dL_law_548 ?_
  refine va_sld hx hbc hX hbl hbA w.2.2.2.1 (vp_in_nI (n := i + 2) (N := L) (by omega) (by omega)) dL_law_549 ?_
  rw [nI_clamp (show i + 2 < 2 ^ 31 by omega)]
  refine wc_Vi (na := 2) (f := fRf) (As := [.int (xs (i + 1)), .int (xs (i + 2))]) (rest := [.int r]) hx hbc hml hg hown w E0_ok trivial (tyM_of w.1) (subM0 S T) 322 (by decide) skL_322 rfl (k_X8_same l D cy (fun z9 => ad (fRf z9)) (pul S fRf) ((xs (i + 1))) ((xs (i + 2))) d hD.2.1 hD.2.2.1) wk_877 wk_9 wk_874 wk_875 wk_876 ⟨by decide, by decide, by decide⟩ ⟨Nat.le_of_ble_eq_true rfl, Nat.le_of_ble_eq_true rfl⟩ rfl hl.1 rfl (Nat.le_of_ble_eq_true rfl) dL_law_550 ⟨by show cN ≤ 603072; omega, by show sN ≤ 7211114; omega⟩ (fun r9 M9 hpm H locs w => ?_)
  have w := w _ (lieM.T M9)
  obtain ⟨e9, hR9⟩ := sim_same hR ((xs (i + 1))) ((xs (i + 2))) d hD hpc hpm
  refine lv_icmp_eq (tgt := 1029) hx hbc dL_law_553 (by decide) (fun c9 => ?_) (fun c9 => absurd e9 c9)
  exact k _ _ _ _ _ _ (LR.both hR9) w hl (Nat.le_succ _) (Nat.le_add_right _ _)
set_option maxHeartbeats 1000000 in
set_option maxRecDepth 100000 in
theorem lc_leaf {p : Program} {l : Launch} {e : Env} {s : State} {m : MethodId} {args : Array Value} {below : List Frame} {meth : Method} {c : Code} {Q : State → Prop} {D : va_G} {cy : Nat → ClassId} {ad al sx : Nat → Nat} {A : Nat → Prop} {b L : Nat} {xs : Nat → Int32} {S : wS} {H : Heap} {locs : List Loc} {ls : Array Slot} {i cN sN : Nat} (B : lB p l s m args c A al sx b L xs) (hi : i + 5 ≤ L) (hc9 : cN + 1 ≤ 603072) (hs9 : sN + 8 ≤ 7211114) (hR : LR S) (w : WB D (tyC cy) 354 cy ad skL A s S H locs) (hl : lv_has ls 8 [(4, .int (nI i)), (3, .ref (ad 353)), (2, .ref (ad 322)), (1, .ref (ad 57)), (0, .ref b)])
    (k : ∀ (S : wS) (H : Heap) (locs : List Loc) (ls : Array Slot) (c9 s9 : Nat), LR S → WB D (tyC cy) 354 cy ad skL A s S H locs → lv_has ls 8 [(4, .int (nI i)), (3, .ref (ad 353)), (2, .ref (ad 322)), (1, .ref (ad 57)), (0, .ref b)] → c9 ≤ cN + 1 → s9 ≤ sN + 8 → W p l e room_1 s m args below meth c H locs c9 s9 Q (F0 m 1029 ls [])) : W p l e room_1 s m args below meth c H locs cN sN Q (F0 m 614 ls []) := by
  obtain ⟨hx, hbc, hml, hg, hown, hE, hX, hbl, hbA, hlt, hL9⟩ := B
  have hR0 := hR
  obtain ⟨⟨kq1, kq2, kq3, q, hq⟩, ⟨t, hT⟩, ⟨ks, hS⟩, ⟨d, hD⟩, hG, ⟨lv, lz, hB⟩, ⟨pv, hP⟩, ⟨R9, rz, hRR⟩⟩ := hR0
  refine lv_aload_n hx hbc dL_law_614 rfl (lv_at hl 3 rfl) ?_
  refine lv_aload_n hx hbc dL_law_615 rfl (lv_at hl 4 rfl) ?_
  refine lv_iload hx hbc dL_law_616 (lv_at hl 0 rfl) ?_
  refine lv_iconst (v := nI 1) hx hbc dL_law_618 (by decide) ?_
  refine n_iadd hx hbc dL_law_619 ?_
  refine va_sld hx hbc hX hbl hbA w.2.2.2.1 (vp_in_nI (n := i + 1) (N := L) (by omega) (by omega)) dL_law_620 ?_
  rw [nI_clamp (show i + 1 < 2 ^ 31 by omega)]
  refine lv_aload_n hx hbc dL_law_621 rfl (lv_at hl 4 rfl) ?_
  refine lv_iload hx hbc dL_law_622 (lv_at hl 0 rfl) ?_
  refine lv_iconst (v := nI 2) hx hbc dL_law_624 (by decide) ?_
  refine n_iadd hx hbc dL_law_625 ?_
  refine va_sld hx hbc hX hbl hbA w.2.2.2.1 (vp_in_nI (n := i + 2) (N := L) (by omega) (by omega)) dL_law_626 ?_
  rw [nI_clamp (show i + 2 < 2 ^ 31 by omega)]
  refine wc_Vi (na := 2) (f := id) (As := [.int (xs (i + 1)), .int (xs (i + 2))]) (rest := []) hx hbc hml hg hown w (EC_ok al) hE.1.1 w.1 lieC.A 57 (by decide) ((skL_lo (by decide)).trans rfl) rfl (k_D_leaf l D cy (fun z9 => ad (id z9)) al (pul S id) ((xs (i + 1))) ((xs (i + 2))) t hT.1 hT.2.2.1 lv (fun j hj => ⟨(hB j hj).1, (hB j hj).2.2.1⟩)) wk_368 wk_1 wk_365 wk_366 wk_367 ⟨by decide, by decide, by decide⟩ ⟨Nat.le_of_ble_eq_true rfl, Nat.le_of_ble_eq_true rfl⟩ rfl hl.1 rfl (Nat.le_of_ble_eq_true rfl) dL_law_627 ⟨by show cN ≤ 603072; omega, by show sN ≤ 7211114; omega⟩ (fun r T hpc H locs w => ?_)
  have w := w _ (lieC.T T)
  refine lv_aload_n hx hbc dL_law_630 rfl (lv_at hl 2 rfl) ?_
  refine lv_aload_n hx hbc dL_law_631 rfl (lv_at hl 4 rfl) ?_
  refine lv_iload hx hbc dL_law_632 (lv_at hl 0 rfl) ?_
  refine lv_iconst (v := nI 1) hx hbc dL_law_634 (by decide) ?_
  refine n_iadd hx hbc dL_law_635 ?_
  refine va_sld hx hbc hX hbl hbA w.2.2.2.1 (vp_in_nI (n := i + 1) (N := L) (by omega) (by omega)) dL_law_636 ?_
  rw [nI_clamp (show i + 1 < 2 ^ 31 by omega)]
  refine lv_aload_n hx hbc dL_law_637 rfl (lv_at hl 4 rfl) ?_
  refine lv_iload hx hbc dL_law_638 (lv_at hl 0 rfl) ?_
  refine lv_iconst (v := nI 2) hx hbc dL_law_640 (by decide) ?_
  refine n_iadd hx hbc dL_law_641 ?_
  refine va_sld hx hbc hX hbl hbA w.2.2.2.1 (vp_in_nI (n := i + 2) (N := L) (by omega) (by omega)) dL_law_642 ?_
  rw [nI_clamp (show i + 2 < 2 ^ 31 by omega)]
  refine wc_Vi (na := 2) (f := fRf) (As := [.int (xs (i + 1)), .int (xs (i + 2))]) (rest := [.int r]) hx hbc hml hg hown w E0_ok trivial (tyM_of w.1) (subM0 S T) 322 (by decide) skL_322 rfl (k_X8_leaf l D cy (fun z9 => ad (fRf z9)) (pul S fRf) ((xs (i + 1))) ((xs (i + 2))) t hT.2.1 hT.2.2.1 lv (fun j hj => ⟨(hB j hj).2.1, (hB j hj).2.2.1⟩)) wk_885 wk_9 wk_882 wk_883 wk_884 ⟨by decide, by decide, by decide⟩ ⟨Nat.le_of_ble_eq_true rfl, Nat.le_of_ble_eq_true rfl⟩ rfl hl.1 rfl (Nat.le_of_ble_eq_true rfl) dL_law_643 ⟨by show cN ≤ 603072; omega, by show sN ≤ 7211114; omega⟩ (fun r9 M9 hpm H locs w => ?_)
  have w := w _ (lieM.T M9)
  obtain ⟨e9, hR9⟩ := sim_leaf hR ((xs (i + 1))) ((xs (i + 2))) t hT lv lz hB hpc hpm
  refine lv_icmp_eq (tgt := 1029) hx hbc dL_law_646 (by decide) (fun c9 => ?_) (fun c9 => absurd e9 c9)
  exact k _ _ _ _ _ _ (LR.both hR9) w hl (Nat.le_succ _) (Nat.le_add_right _ _)
set_option maxHeartbeats 1000000 in
set_option maxRecDepth 100000 in
theorem lc_change {p : Program} {l : Launch} {e : Env} {s : State} {m : MethodId} {args : Array Value} {below : List Frame} {meth : Method} {c : Code} {Q : State → Prop} {D : va_G} {cy : Nat → ClassId} {ad al sx : Nat → Nat} {A : Nat → Prop} {b L : Nat} {xs : Nat → Int32} {S : wS} {H : Heap} {locs : List Loc} {ls : Array Slot} {i cN sN : Nat} (B : lB p l s m args c A al sx b L xs) (hi : i + 5 ≤ L) (hc9 : cN + 1 ≤ 603072) (hs9 : sN + 8 ≤ 7211114) (hR : LR S) (w : WB D (tyC cy) 354 cy ad skL A s S H locs) (hl : lv_has ls 8 [(4, .int (nI i)), (3, .ref (ad 353)), (2, .ref (ad 322)), (1, .ref (ad 57)), (0, .ref b)])
    (k : ∀ (S : wS) (H : Heap) (locs : List Loc) (ls : Array Slot) (c9 s9 : Nat), LR S → WB D (tyC cy) 354 cy ad skL A s S H locs → lv_has ls 8 [(4, .int (nI i)), (3, .ref (ad 353)), (2, .ref (ad 322)), (1, .ref (ad 57)), (0, .ref b)] → c9 ≤ cN + 1 → s9 ≤ sN + 8 → W p l e room_1 s m args below meth c H locs c9 s9 Q (F0 m 1029 ls [])) : W p l e room_1 s m args below meth c H locs cN sN Q (F0 m 651 ls []) := by
  obtain ⟨hx, hbc, hml, hg, hown, hE, hX, hbl, hbA, hlt, hL9⟩ := B
  have hR0 := hR
  obtain ⟨⟨kq1, kq2, kq3, q, hq⟩, ⟨t, hT⟩, ⟨ks, hS⟩, ⟨d, hD⟩, hG, ⟨lv, lz, hB⟩, ⟨pv, hP⟩, ⟨R9, rz, hRR⟩⟩ := hR0
  refine lv_aload_n hx hbc dL_law_651 rfl (lv_at hl 3 rfl) ?_
  refine lv_aload_n hx hbc dL_law_652 rfl (lv_at hl 4 rfl) ?_
  refine lv_iload hx hbc dL_law_653 (lv_at hl 0 rfl) ?_
  refine lv_iconst (v := nI 1) hx hbc dL_law_655 (by decide) ?_
  refine n_iadd hx hbc dL_law_656 ?_
  refine va_sld hx hbc hX hbl hbA w.2.2.2.1 (vp_in_nI (n := i + 1) (N := L) (by omega) (by omega)) dL_law_657 ?_
  rw [nI_clamp (show i + 1 < 2 ^ 31 by omega)]
  refine lv_aload_n hx hbc dL_law_658 rfl (lv_at hl 4 rfl) ?_
  refine lv_iload hx hbc dL_law_659 (lv_at hl 0 rfl) ?_
  refine lv_iconst (v := nI 2) hx hbc dL_law_661 (by decide) ?_
  refine n_iadd hx hbc dL_law_662 ?_
  refine va_sld hx hbc hX hbl hbA w.2.2.2.1 (vp_in_nI (n := i + 2) (N := L) (by omega) (by omega)) dL_law_663 ?_
  rw [nI_clamp (show i + 2 < 2 ^ 31 by omega)]
  refine lv_aload_n hx hbc dL_law_664 rfl (lv_at hl 4 rfl) ?_
  refine lv_iload hx hbc dL_law_665 (lv_at hl 0 rfl) ?_
  refine lv_iconst (v := nI 3) hx hbc dL_law_667 (by decide) ?_
  refine n_iadd hx hbc dL_law_668 ?_
  refine va_sld hx hbc hX hbl hbA w.2.2.2.1 (vp_in_nI (n := i + 3) (N := L) (by omega) (by omega)) dL_law_669 ?_
  rw [nI_clamp (show i + 3 < 2 ^ 31 by omega)]
  refine wc_Vi (na := 3) (f := id) (As := [.int (xs (i + 1)), .int (xs (i + 2)), .int (xs (i + 3))]) (rest := []) hx hbc hml hg hown w (EC_ok al) hE.1.1 w.1 lieC.A 57 (by decide) ((skL_lo (by decide)).trans rfl) rfl (k_D_change l D cy (fun z9 => ad (id z9)) al (pul S id) ((xs (i + 1))) ((xs (i + 2))) ((xs (i + 3))) t hT.1 hT.2.2.1 lv (fun j hj => ⟨(hB j hj).1, (hB j hj).2.2.1⟩)) wk_392 wk_1 wk_389 wk_390 wk_391 ⟨by decide, by decide, by decide⟩ ⟨Nat.le_of_ble_eq_true rfl, Nat.le_of_ble_eq_true rfl⟩ rfl hl.1 rfl (Nat.le_of_ble_eq_true rfl) dL_law_670 ⟨by show cN ≤ 603072; omega, by show sN ≤ 7211114; omega⟩ (fun r T hpc H locs w => ?_)
  have w := w _ (lieC.T T)
  refine lv_aload_n hx hbc dL_law_673 rfl (lv_at hl 2 rfl) ?_
  refine lv_aload_n hx hbc dL_law_674 rfl (lv_at hl 4 rfl) ?_
  refine lv_iload hx hbc dL_law_675 (lv_at hl 0 rfl) ?_
  refine lv_iconst (v := nI 1) hx hbc dL_law_677 (by decide) ?_
  refine n_iadd hx hbc dL_law_678 ?_
  refine va_sld hx hbc hX hbl hbA w.2.2.2.1 (vp_in_nI (n := i + 1) (N := L) (by omega) (by omega)) dL_law_679 ?_
  rw [nI_clamp (show i + 1 < 2 ^ 31 by omega)]
  refine lv_aload_n hx hbc dL_law_680 rfl (lv_at hl 4 rfl) ?_
  refine lv_iload hx hbc dL_law_681 (lv_at hl 0 rfl) ?_
  refine lv_iconst (v := nI 2) hx hbc dL_law_683 (by decide) ?_
  refine n_iadd hx hbc dL_law_684 ?_
  refine va_sld hx hbc hX hbl hbA w.2.2.2.1 (vp_in_nI (n := i + 2) (N := L) (by omega) (by omega)) dL_law_685 ?_
  rw [nI_clamp (show i + 2 < 2 ^ 31 by omega)]
  refine lv_aload_n hx hbc dL_law_686 rfl (lv_at hl 4 rfl) ?_
  refine lv_iload hx hbc dL_law_687 (lv_at hl 0 rfl) ?_
  refine lv_iconst (v := nI 3) hx hbc dL_law_689 (by decide) ?_
  refine n_iadd hx hbc dL_law_690 ?_
  refine va_sld hx hbc hX hbl hbA w.2.2.2.1 (vp_in_nI (n := i + 3) (N := L) (by omega) (by omega)) dL_law_691 ?_
  rw [nI_clamp (show i + 3 < 2 ^ 31 by omega)]
  refine wc_Vi (na := 3) (f := fRf) (As := [.int (xs (i + 1)), .int (xs (i + 2)), .int (xs (i + 3))]) (rest := [.int r]) hx hbc hml hg hown w E0_ok trivial (tyM_of w.1) (subM0 S T) 322 (by decide) skL_322 rfl (k_X8_change l D cy (fun z9 => ad (fRf z9)) (pul S fRf) ((xs (i + 1))) ((xs (i + 2))) ((xs (i + 3))) t hT.2.1 hT.2.2.1 lv (fun j hj => ⟨(hB j hj).2.1, (hB j hj).2.2.1⟩)) wk_896 wk_9 wk_893 wk_894 wk_895 ⟨by decide, by decide, by decide⟩ ⟨Nat.le_of_ble_eq_true rfl, Nat.le_of_ble_eq_true rfl⟩ rfl hl.1 rfl (Nat.le_of_ble_eq_true rfl) dL_law_692 ⟨by show cN ≤ 603072; omega, by show sN ≤ 7211114; omega⟩ (fun r9 M9 hpm H locs w => ?_)
  have w := w _ (lieM.T M9)
  obtain ⟨e9, hR9⟩ := sim_change hR ((xs (i + 1))) ((xs (i + 2))) ((xs (i + 3))) t hT lv lz hB hpc hpm
  refine lv_icmp_eq (tgt := 1029) hx hbc dL_law_695 (by decide) (fun c9 => ?_) (fun c9 => absurd e9 c9)
  exact k _ _ _ _ _ _ (LR.both hR9) w hl (Nat.le_succ _) (Nat.le_add_right _ _)
set_option maxHeartbeats 1000000 in
set_option maxRecDepth 100000 in
theorem lc_root {p : Program} {l : Launch} {e : Env} {s : State} {m : MethodId} {args : Array Value} {below : List Frame} {meth : Method} {c : Code} {Q : State → Prop} {D : va_G} {cy : Nat → ClassId} {ad al sx : Nat → Nat} {A : Nat → Prop} {b L : Nat} {xs : Nat → Int32} {S : wS} {H : Heap} {locs : List Loc} {ls : Array Slot} {i cN sN : Nat} (B : lB p l s m args c A al sx b L xs) (hi : i + 5 ≤ L) (hc9 : cN + 1 ≤ 603072) (hs9 : sN + 8 ≤ 7211114) (hR : LR S) (w : WB D (tyC cy) 354 cy ad skL A s S H locs) (hl : lv_has ls 8 [(4, .int (nI i)), (3, .ref (ad 353)), (2, .ref (ad 322)), (1, .ref (ad 57)), (0, .ref b)])
    (k : ∀ (S : wS) (H : Heap) (locs : List Loc) (ls : Array Slot) (c9 s9 : Nat), LR S → WB D (tyC cy) 354 cy ad skL A s S H locs → lv_has ls 8 [(4, .int (nI i)), (3, .ref (ad 353)), (2, .ref (ad 322)), (1, .ref (ad 57)), (0, .ref b)] → c9 ≤ cN + 1 → s9 ≤ sN + 8 → W p l e room_1 s m args below meth c H locs c9 s9 Q (F0 m 1029 ls [])) : W p l e room_1 s m args below meth c H locs cN sN Q (F0 m 700 ls []) := by
  obtain ⟨hx, hbc, hml, hg, hown, hE, hX, hbl, hbA, hlt, hL9⟩ := B
  have hR0 := hR
  obtain ⟨⟨kq1, kq2, kq3, q, hq⟩, ⟨t, hT⟩, ⟨ks, hS⟩, ⟨d, hD⟩, hG, ⟨lv, lz, hB⟩, ⟨pv, hP⟩, ⟨R9, rz, hRR⟩⟩ := hR0
  refine lv_aload_n hx hbc dL_law_700 rfl (lv_at hl 3 rfl) ?_
  refine lv_aload_n hx hbc dL_law_701 rfl (lv_at hl 4 rfl) ?_
  refine lv_iload hx hbc dL_law_702 (lv_at hl 0 rfl) ?_
  refine lv_iconst (v := nI 1) hx hbc dL_law_704 (by decide) ?_
  refine n_iadd hx hbc dL_law_705 ?_
  refine va_sld hx hbc hX hbl hbA w.2.2.2.1 (vp_in_nI (n := i + 1) (N := L) (by omega) (by omega)) dL_law_706 ?_
  rw [nI_clamp (show i + 1 < 2 ^ 31 by omega)]
  refine wc_Vi (na := 1) (f := id) (As := [.int (xs (i + 1))]) (rest := []) hx hbc hml hg hown w (EC_ok al) hE.1.1 w.1 lieC.A 57 (by decide) ((skL_lo (by decide)).trans rfl) rfl (k_D_root l D cy (fun z9 => ad (id z9)) al (pul S id) ((xs (i + 1))) d hD.1 hD.2.2.1 lv (fun j hj => ⟨(hB j hj).1, (hB j hj).2.2.1⟩) (fun tr a => lfF (pul S fRf) lz tr a) (fun tr htr a9 ha9 k9 hk9 => ((hB tr htr).2.2.2 a9 ha9).2.2.2 k9 hk9)) wk_400 wk_1 wk_397 wk_398 wk_399 ⟨by decide, by decide, by decide⟩ ⟨Nat.le_of_ble_eq_true rfl, Nat.le_of_ble_eq_true rfl⟩ rfl hl.1 rfl (Nat.le_of_ble_eq_true rfl) dL_law_707 ⟨by show cN ≤ 603072; omega, by show sN ≤ 7211114; omega⟩ (fun r T hpc H locs w => ?_)
  have w := w _ (lieC.T T)
  refine lv_aload_n hx hbc dL_law_710 rfl (lv_at hl 2 rfl) ?_
  refine lv_aload_n hx hbc dL_law_711 rfl (lv_at hl 4 rfl) ?_
  refine lv_iload hx hbc dL_law_712 (lv_at hl 0 rfl) ?_
  refine lv_iconst (v := nI 1) hx hbc dL_law_714 (by decide) ?_
  refine n_iadd hx hbc dL_law_715 ?_
  refine va_sld hx hbc hX hbl hbA w.2.2.2.1 (vp_in_nI (n := i + 1) (N := L) (by omega) (by omega)) dL_law_716 ?_
  rw [nI_clamp (show i + 1 < 2 ^ 31 by omega)]
  refine wc_Vi (na := 1) (f := fRf) (As := [.int (xs (i + 1))]) (rest := [.int r]) hx hbc hml hg hown w E0_ok trivial (tyM_of w.1) (subM0 S T) 322 (by decide) skL_322 rfl (k_X8_root l D cy (fun z9 => ad (fRf z9)) (pul S fRf) ((xs (i + 1))) d hD.2.1 hD.2.2.1 lv (fun j hj => ⟨(hB j hj).2.1, (hB j hj).2.2.1⟩) lz (fun tr htr i9 hi9 => ⟨((hB tr htr).2.2.2 i9 hi9).2.1, ((hB tr htr).2.2.2 i9 hi9).2.2.1⟩) ⟨q, hq⟩) wk_900 wk_9 wk_897 wk_898 wk_899 ⟨by decide, by decide, by decide⟩ ⟨Nat.le_of_ble_eq_true rfl, Nat.le_of_ble_eq_true rfl⟩ rfl hl.1 rfl (Nat.le_of_ble_eq_true rfl) dL_law_717 ⟨by show cN ≤ 603072; omega, by show sN ≤ 7211114; omega⟩ (fun r9 M9 hpm H locs w => ?_)
  have w := w _ (lieM.T M9)
  obtain ⟨e9, hR9⟩ := sim_root hR ((xs (i + 1))) d hD lv lz hB hpc hpm
  refine lv_icmp_eq (tgt := 1029) hx hbc dL_law_720 (by decide) (fun c9 => ?_) (fun c9 => absurd e9 c9)
  exact k _ _ _ _ _ _ (LR.both hR9) w hl (Nat.le_succ _) (Nat.le_add_right _ _)
set_option maxHeartbeats 1000000 in
set_option maxRecDepth 100000 in
theorem lc_drop {p : Program} {l : Launch} {e : Env} {s : State} {m : MethodId} {args : Array Value} {below : List Frame} {meth : Method} {c : Code} {Q : State → Prop} {D : va_G} {cy : Nat → ClassId} {ad al sx : Nat → Nat} {A : Nat → Prop} {b L : Nat} {xs : Nat → Int32} {S : wS} {H : Heap} {locs : List Loc} {ls : Array Slot} {i cN sN : Nat} (B : lB p l s m args c A al sx b L xs) (hi : i + 5 ≤ L) (hc9 : cN + 1 ≤ 603072) (hs9 : sN + 8 ≤ 7211114) (hR : LR S) (w : WB D (tyC cy) 354 cy ad skL A s S H locs) (hl : lv_has ls 8 [(4, .int (nI i)), (3, .ref (ad 353)), (2, .ref (ad 322)), (1, .ref (ad 57)), (0, .ref b)])
    (k : ∀ (S : wS) (H : Heap) (locs : List Loc) (ls : Array Slot) (c9 s9 : Nat), LR S → WB D (tyC cy) 354 cy ad skL A s S H locs → lv_has ls 8 [(4, .int (nI i)), (3, .ref (ad 353)), (2, .ref (ad 322)), (1, .ref (ad 57)), (0, .ref b)] → c9 ≤ cN + 1 → s9 ≤ sN + 8 → W p l e room_1 s m args below meth c H locs c9 s9 Q (F0 m 1029 ls [])) : W p l e room_1 s m args below meth c H locs cN sN Q (F0 m 725 ls []) := by
  obtain ⟨hx, hbc, hml, hg, hown, hE, hX, hbl, hbA, hlt, hL9⟩ := B
  have hR0 := hR
  obtain ⟨⟨kq1, kq2, kq3, q, hq⟩, ⟨t, hT⟩, ⟨ks, hS⟩, ⟨d, hD⟩, hG, ⟨lv, lz, hB⟩, ⟨pv, hP⟩, ⟨R9, rz, hRR⟩⟩ := hR0
  refine lv_aload_n hx hbc dL_law_725 rfl (lv_at hl 3 rfl) ?_
  refine lv_aload_n hx hbc dL_law_726 rfl (lv_at hl 4 rfl) ?_
  refine lv_iload hx hbc dL_law_727 (lv_at hl 0 rfl) ?_
  refine lv_iconst (v := nI 1) hx hbc dL_law_729 (by decide) ?_
  refine n_iadd hx hbc dL_law_730 ?_
  refine va_sld hx hbc hX hbl hbA w.2.2.2.1 (vp_in_nI (n := i + 1) (N := L) (by omega) (by omega)) dL_law_731 ?_
  rw [nI_clamp (show i + 1 < 2 ^ 31 by omega)]
  refine wc_Vi (na := 1) (f := id) (As := [.int (xs (i + 1))]) (rest := []) hx hbc hml hg hown w (EC_ok al) hE.1.1 w.1 lieC.A 57 (by decide) ((skL_lo (by decide)).trans rfl) rfl (k_D_drop l D cy (fun z9 => ad (id z9)) al (pul S id) ((xs (i + 1))) lv (fun j hj => ⟨(hB j hj).1, (hB j hj).2.2.1⟩)) wk_417 wk_1 wk_414 wk_415 wk_416 ⟨by decide, by decide, by decide⟩ ⟨Nat.le_of_ble_eq_true rfl, Nat.le_of_ble_eq_true rfl⟩ rfl hl.1 rfl (Nat.le_of_ble_eq_true rfl) dL_law_732 ⟨by show cN ≤ 603072; omega, by show sN ≤ 7211114; omega⟩ (fun r T hpc H locs w => ?_)
  have w := w _ (lieC.T T)
  refine lv_aload_n hx hbc dL_law_735 rfl (lv_at hl 2 rfl) ?_
  refine lv_aload_n hx hbc dL_law_736 rfl (lv_at hl 4 rfl) ?_
  refine lv_iload hx hbc dL_law_737 (lv_at hl 0 rfl) ?_
  refine lv_iconst (v := nI 1) hx hbc dL_law_739 (by decide) ?_
  refine n_iadd hx hbc dL_law_740 ?_
  refine va_sld hx hbc hX hbl hbA w.2.2.2.1 (vp_in_nI (n := i + 1) (N := L) (by omega) (by omega)) dL_law_741 ?_
  rw [nI_clamp (show i + 1 < 2 ^ 31 by omega)]
  refine wc_Vi (na := 1) (f := fRf) (As := [.int (xs (i + 1))]) (rest := [.int r]) hx hbc hml hg hown w E0_ok trivial (tyM_of w.1) (subM0 S T) 322 (by decide) skL_322 rfl (k_X8_drop l D cy (fun z9 => ad (fRf z9)) (pul S fRf) ((xs (i + 1))) lv (fun j hj => ⟨(hB j hj).2.1, (hB j hj).2.2.1⟩)) wk_924 wk_9 wk_921 wk_922 wk_923 ⟨by decide, by decide, by decide⟩ ⟨Nat.le_of_ble_eq_true rfl, Nat.le_of_ble_eq_true rfl⟩ rfl hl.1 rfl (Nat.le_of_ble_eq_true rfl) dL_law_742 ⟨by show cN ≤ 603072; omega, by show sN ≤ 7211114; omega⟩ (fun r9 M9 hpm H locs w => ?_)
  have w := w _ (lieM.T M9)
  obtain ⟨e9, hR9⟩ := sim_drop hR ((xs (i + 1))) lv lz hB hpc hpm
  refine lv_icmp_eq (tgt := 1029) hx hbc dL_law_745 (by decide) (fun c9 => ?_) (fun c9 => absurd e9 c9)
  exact k _ _ _ _ _ _ (LR.both hR9) w hl (Nat.le_succ _) (Nat.le_add_right _ _)
set_option maxHeartbeats 1000000 in
set_option maxRecDepth 100000 in
theorem lc_prove {p : Program} {l : Launch} {e : Env} {s : State} {m : MethodId} {args : Array Value} {below : List Frame} {meth : Method} {c : Code} {Q : State → Prop} {D : va_G} {cy : Nat → ClassId} {ad al sx : Nat → Nat} {A : Nat → Prop} {b L : Nat} {xs : Nat → Int32} {S : wS} {H : Heap} {locs : List Loc} {ls : Array Slot} {i cN sN : Nat} (B : lB p l s m args c A al sx b L xs) (hi : i + 5 ≤ L) (hc9 : cN + 1 ≤ 603072) (hs9 : sN + 8 ≤ 7211114) (hR : LR S) (w : WB D (tyC cy) 354 cy ad skL A s S H locs) (hl : lv_has ls 8 [(4, .int (nI i)), (3, .ref (ad 353)), (2, .ref (ad 322)), (1, .ref (ad 57)), (0, .ref b)])
    (k : ∀ (S : wS) (H : Heap) (locs : List Loc) (ls : Array Slot) (c9 s9 : Nat), LR S → WB D (tyC cy) 354 cy ad skL A s S H locs → lv_has ls 8 [(4, .int (nI i)), (3, .ref (ad 353)), (2, .ref (ad 322)), (1, .ref (ad 57)), (0, .ref b)] → c9 ≤ cN + 1 → s9 ≤ sN + 8 → W p l e room_1 s m args below meth c H locs c9 s9 Q (F0 m 1029 ls [])) : W p l e room_1 s m args below meth c H locs cN sN Q (F0 m 750 ls []) := by
  obtain ⟨hx, hbc, hml, hg, hown, hE, hX, hbl, hbA, hlt, hL9⟩ := B
  have hR0 := hR
  obtain ⟨⟨kq1, kq2, kq3, q, hq⟩, ⟨t, hT⟩, ⟨ks, hS⟩, ⟨d, hD⟩, hG, ⟨lv, lz, hB⟩, ⟨pv, hP⟩, ⟨R9, rz, hRR⟩⟩ := hR0
  refine lv_aload_n hx hbc dL_law_750 rfl (lv_at hl 3 rfl) ?_
  refine lv_aload_n hx hbc dL_law_751 rfl (lv_at hl 4 rfl) ?_
  refine lv_iload hx hbc dL_law_752 (lv_at hl 0 rfl) ?_
  refine lv_iconst (v := nI 1) hx hbc dL_law_754 (by decide) ?_
  refine n_iadd hx hbc dL_law_755 ?_
  refine va_sld hx hbc hX hbl hbA w.2.2.2.1 (vp_in_nI (n := i + 1) (N := L) (by omega) (by omega)) dL_law_756 ?_
  rw [nI_clamp (show i + 1 < 2 ^ 31 by omega)]
  refine lv_aload_n hx hbc dL_law_757 rfl (lv_at hl 4 rfl) ?_
  refine lv_iload hx hbc dL_law_758 (lv_at hl 0 rfl) ?_
  refine lv_iconst (v := nI 2) hx hbc dL_law_760 (by decide) ?_
  refine n_iadd hx hbc dL_law_761 ?_
  refine va_sld hx hbc hX hbl hbA w.2.2.2.1 (vp_in_nI (n := i + 2) (N := L) (by omega) (by omega)) dL_law_762 ?_
  rw [nI_clamp (show i + 2 < 2 ^ 31 by omega)]
  refine wc_Vi (na := 2) (f := id) (As := [.int (xs (i + 1)), .int (xs (i + 2))]) (rest := []) hx hbc hml hg hown w (EC_ok al) hE.1.1 w.1 lieC.A 57 (by decide) ((skL_lo (by decide)).trans rfl) rfl (k_D_prove l D cy (fun z9 => ad (id z9)) al (pul S id) ((xs (i + 1))) ((xs (i + 2))) lv (fun j hj => ⟨(hB j hj).1, (hB j hj).2.2.1⟩) (fun tr a => lfF (pul S fRf) lz tr a) (fun tr htr a9 ha9 k9 hk9 => ((hB tr htr).2.2.2 a9 ha9).2.2.2 k9 hk9)) wk_421 wk_1 wk_418 wk_419 wk_420 ⟨by decide, by decide, by decide⟩ ⟨Nat.le_of_ble_eq_true rfl, Nat.le_of_ble_eq_true rfl⟩ rfl hl.1 rfl (Nat.le_of_ble_eq_true rfl) dL_law_763 ⟨by show cN ≤ 603072; omega, by show sN ≤ 7211114; omega⟩ (fun r T hpc H locs w => ?_)
  have w := w _ (lieC.T T)
  refine lv_aload_n hx hbc dL_law_766 rfl (lv_at hl 2 rfl) ?_
  refine lv_aload_n hx hbc dL_law_767 rfl (lv_at hl 4 rfl) ?_
  refine lv_iload hx hbc dL_law_768 (lv_at hl 0 rfl) ?_
  refine lv_iconst (v := nI 1) hx hbc dL_law_770 (by decide) ?_
  refine n_iadd hx hbc dL_law_771 ?_
  refine va_sld hx hbc hX hbl hbA w.2.2.2.1 (vp_in_nI (n := i + 1) (N := L) (by omega) (by omega)) dL_law_772 ?_
  rw [nI_clamp (show i + 1 < 2 ^ 31 by omega)]
  refine lv_aload_n hx hbc dL_law_773 rfl (lv_at hl 4 rfl) ?_
  refine lv_iload hx hbc dL_law_774 (lv_at hl 0 rfl) ?_
  refine lv_iconst (v := nI 2) hx hbc dL_law_776 (by decide) ?_
  refine n_iadd hx hbc dL_law_777 ?_
  refine va_sld hx hbc hX hbl hbA w.2.2.2.1 (vp_in_nI (n := i + 2) (N := L) (by omega) (by omega)) dL_law_778 ?_
  rw [nI_clamp (show i + 2 < 2 ^ 31 by omega)]
  refine wc_Vi (na := 2) (f := fRf) (As := [.int (xs (i + 1)), .int (xs (i + 2))]) (rest := [.int r]) hx hbc hml hg hown w E0_ok trivial (tyM_of w.1) (subM0 S T) 322 (by decide) skL_322 rfl (k_X8_prove l D cy (fun z9 => ad (fRf z9)) (pul S fRf) ((xs (i + 1))) ((xs (i + 2))) lv (fun j hj => ⟨(hB j hj).2.1, (hB j hj).2.2.1⟩) lz (fun tr htr i9 hi9 => ⟨((hB tr htr).2.2.2 i9 hi9).2.1, ((hB tr htr).2.2.2 i9 hi9).2.2.1⟩) ⟨q, hq⟩) wk_928 wk_9 wk_925 wk_926 wk_927 ⟨by decide, by decide, by decide⟩ ⟨Nat.le_of_ble_eq_true rfl, Nat.le_of_ble_eq_true rfl⟩ rfl hl.1 rfl (Nat.le_of_ble_eq_true rfl) dL_law_779 ⟨by show cN ≤ 603072; omega, by show sN ≤ 7211114; omega⟩ (fun r9 M9 hpm H locs w => ?_)
  have w := w _ (lieM.T M9)
  obtain ⟨e9, hR9⟩ := sim_prove hR ((xs (i + 1))) ((xs (i + 2))) lv lz hB hpc hpm
  refine lv_icmp_eq (tgt := 1029) hx hbc dL_law_782 (by decide) (fun c9 => ?_) (fun c9 => absurd e9 c9)
  exact k _ _ _ _ _ _ (LR.both hR9) w hl (Nat.le_succ _) (Nat.le_add_right _ _)
set_option maxHeartbeats 1000000 in
set_option maxRecDepth 100000 in
theorem lc_alter {p : Program} {l : Launch} {e : Env} {s : State} {m : MethodId} {args : Array Value} {below : List Frame} {meth : Method} {c : Code} {Q : State → Prop} {D : va_G} {cy : Nat → ClassId} {ad al sx : Nat → Nat} {A : Nat → Prop} {b L : Nat} {xs : Nat → Int32} {S : wS} {H : Heap} {locs : List Loc} {ls : Array Slot} {i cN sN : Nat} (B : lB p l s m args c A al sx b L xs) (hi : i + 5 ≤ L) (hc9 : cN + 1 ≤ 603072) (hs9 : sN + 8 ≤ 7211114) (hR : LR S) (w : WB D (tyC cy) 354 cy ad skL A s S H locs) (hl : lv_has ls 8 [(4, .int (nI i)), (3, .ref (ad 353)), (2, .ref (ad 322)), (1, .ref (ad 57)), (0, .ref b)])
    (k : ∀ (S : wS) (H : Heap) (locs : List Loc) (ls : Array Slot) (c9 s9 : Nat), LR S → WB D (tyC cy) 354 cy ad skL A s S H locs → lv_has ls 8 [(4, .int (nI i)), (3, .ref (ad 353)), (2, .ref (ad 322)), (1, .ref (ad 57)), (0, .ref b)] → c9 ≤ cN + 1 → s9 ≤ sN + 8 → W p l e room_1 s m args below meth c H locs c9 s9 Q (F0 m 1029 ls [])) : W p l e room_1 s m args below meth c H locs cN sN Q (F0 m 787 ls []) := by
  obtain ⟨hx, hbc, hml, hg, hown, hE, hX, hbl, hbA, hlt, hL9⟩ := B
  have hR0 := hR
  obtain ⟨⟨kq1, kq2, kq3, q, hq⟩, ⟨t, hT⟩, ⟨ks, hS⟩, ⟨d, hD⟩, hG, ⟨lv, lz, hB⟩, ⟨pv, hP⟩, ⟨R9, rz, hRR⟩⟩ := hR0
  refine lv_aload_n hx hbc dL_law_787 rfl (lv_at hl 3 rfl) ?_
  refine lv_aload_n hx hbc dL_law_788 rfl (lv_at hl 4 rfl) ?_
  refine lv_iload hx hbc dL_law_789 (lv_at hl 0 rfl) ?_
  refine lv_iconst (v := nI 1) hx hbc dL_law_791 (by decide) ?_
  refine n_iadd hx hbc dL_law_792 ?_
  refine va_sld hx hbc hX hbl hbA w.2.2.2.1 (vp_in_nI (n := i + 1) (N := L) (by omega) (by omega)) dL_law_793 ?_
  rw [nI_clamp (show i + 1 < 2 ^ 31 by omega)]
  refine lv_aload_n hx hbc dL_law_794 rfl (lv_at hl 4 rfl) ?_
  refine lv_iload hx hbc dL_law_795 (lv_at hl 0 rfl) ?_
  refine lv_iconst (v := nI 2) hx hbc dL_law_797 (by decide) ?_
  refine n_iadd hx hbc dL_law_798 ?_
  refine va_sld hx hbc hX hbl hbA w.2.2.2.1 (vp_in_nI (n := i + 2) (N := L) (by omega) (by omega)) dL_law_799 ?_
  rw [nI_clamp (show i + 2 < 2 ^ 31 by omega)]
  refine lv_aload_n hx hbc dL_law_800 rfl (lv_at hl 4 rfl) ?_
  refine lv_iload hx hbc dL_law_801 (lv_at hl 0 rfl) ?_
  refine lv_iconst (v := nI 3) hx hbc dL_law_803 (by decide) ?_
  refine n_iadd hx hbc dL_law_804 ?_
  refine va_sld hx hbc hX hbl hbA w.2.2.2.1 (vp_in_nI (n := i + 3) (N := L) (by omega) (by omega)) dL_law_805 ?_
  rw [nI_clamp (show i + 3 < 2 ^ 31 by omega)]
  refine wc_Vi (na := 3) (f := id) (As := [.int (xs (i + 1)), .int (xs (i + 2)), .int (xs (i + 3))]) (rest := []) hx hbc hml hg hown w (EC_ok al) hE.1.1 w.1 lieC.A 57 (by decide) ((skL_lo (by decide)).trans rfl) rfl (k_D_alter l D cy (fun z9 => ad (id z9)) al (pul S id) ((xs (i + 1))) ((xs (i + 2))) ((xs (i + 3))) pv hP.1 hP.2.2.1) wk_430 wk_1 wk_427 wk_428 wk_429 ⟨by decide, by decide, by decide⟩ ⟨Nat.le_of_ble_eq_true rfl, Nat.le_of_ble_eq_true rfl⟩ rfl hl.1 rfl (Nat.le_of_ble_eq_true rfl) dL_law_806 ⟨by show cN ≤ 603072; omega, by show sN ≤ 7211114; omega⟩ (fun r T hpc H locs w => ?_)
  have w := w _ (lieC.T T)
  refine lv_aload_n hx hbc dL_law_809 rfl (lv_at hl 2 rfl) ?_
  refine lv_aload_n hx hbc dL_law_810 rfl (lv_at hl 4 rfl) ?_
  refine lv_iload hx hbc dL_law_811 (lv_at hl 0 rfl) ?_
  refine lv_iconst (v := nI 1) hx hbc dL_law_813 (by decide) ?_
  refine n_iadd hx hbc dL_law_814 ?_
  refine va_sld hx hbc hX hbl hbA w.2.2.2.1 (vp_in_nI (n := i + 1) (N := L) (by omega) (by omega)) dL_law_815 ?_
  rw [nI_clamp (show i + 1 < 2 ^ 31 by omega)]
  refine lv_aload_n hx hbc dL_law_816 rfl (lv_at hl 4 rfl) ?_
  refine lv_iload hx hbc dL_law_817 (lv_at hl 0 rfl) ?_
  refine lv_iconst (v := nI 2) hx hbc dL_law_819 (by decide) ?_
  refine n_iadd hx hbc dL_law_820 ?_
  refine va_sld hx hbc hX hbl hbA w.2.2.2.1 (vp_in_nI (n := i + 2) (N := L) (by omega) (by omega)) dL_law_821 ?_
  rw [nI_clamp (show i + 2 < 2 ^ 31 by omega)]
  refine lv_aload_n hx hbc dL_law_822 rfl (lv_at hl 4 rfl) ?_
  refine lv_iload hx hbc dL_law_823 (lv_at hl 0 rfl) ?_
  refine lv_iconst (v := nI 3) hx hbc dL_law_825 (by decide) ?_
  refine n_iadd hx hbc dL_law_826 ?_
  refine va_sld hx hbc hX hbl hbA w.2.2.2.1 (vp_in_nI (n := i + 3) (N := L) (by omega) (by omega)) dL_law_827 ?_
  rw [nI_clamp (show i + 3 < 2 ^ 31 by omega)]
  refine wc_Vi (na := 3) (f := fRf) (As := [.int (xs (i + 1)), .int (xs (i + 2)), .int (xs (i + 3))]) (rest := [.int r]) hx hbc hml hg hown w E0_ok trivial (tyM_of w.1) (subM0 S T) 322 (by decide) skL_322 rfl (k_X8_alter l D cy (fun z9 => ad (fRf z9)) (pul S fRf) ((xs (i + 1))) ((xs (i + 2))) ((xs (i + 3))) pv hP.2.1 hP.2.2.1) wk_932 wk_9 wk_929 wk_930 wk_931 ⟨by decide, by decide, by decide⟩ ⟨Nat.le_of_ble_eq_true rfl, Nat.le_of_ble_eq_true rfl⟩ rfl hl.1 rfl (Nat.le_of_ble_eq_true rfl) dL_law_828 ⟨by show cN ≤ 603072; omega, by show sN ≤ 7211114; omega⟩ (fun r9 M9 hpm H locs w => ?_)
  have w := w _ (lieM.T M9)
  obtain ⟨e9, hR9⟩ := sim_alter hR ((xs (i + 1))) ((xs (i + 2))) ((xs (i + 3))) pv hP hpc hpm
  refine lv_icmp_eq (tgt := 1029) hx hbc dL_law_831 (by decide) (fun c9 => ?_) (fun c9 => absurd e9 c9)
  exact k _ _ _ _ _ _ (LR.both hR9) w hl (Nat.le_succ _) (Nat.le_add_right _ _)
set_option maxHeartbeats 1000000 in
set_option maxRecDepth 100000 in
theorem lc_check {p : Program} {l : Launch} {e : Env} {s : State} {m : MethodId} {args : Array Value} {below : List Frame} {meth : Method} {c : Code} {Q : State → Prop} {D : va_G} {cy : Nat → ClassId} {ad al sx : Nat → Nat} {A : Nat → Prop} {b L : Nat} {xs : Nat → Int32} {S : wS} {H : Heap} {locs : List Loc} {ls : Array Slot} {i cN sN : Nat} (B : lB p l s m args c A al sx b L xs) (hi : i + 5 ≤ L) (hc9 : cN + 1 ≤ 603072) (hs9 : sN + 8 ≤ 7211114) (hR : LR S) (w : WB D (tyC cy) 354 cy ad skL A s S H locs) (hl : lv_has ls 8 [(4, .int (nI i)), (3, .ref (ad 353)), (2, .ref (ad 322)), (1, .ref (ad 57)), (0, .ref b)])
    (k : ∀ (S : wS) (H : Heap) (locs : List Loc) (ls : Array Slot) (c9 s9 : Nat), LR S → WB D (tyC cy) 354 cy ad skL A s S H locs → lv_has ls 8 [(4, .int (nI i)), (3, .ref (ad 353)), (2, .ref (ad 322)), (1, .ref (ad 57)), (0, .ref b)] → c9 ≤ cN + 1 → s9 ≤ sN + 8 → W p l e room_1 s m args below meth c H locs c9 s9 Q (F0 m 1029 ls [])) : W p l e room_1 s m args below meth c H locs cN sN Q (F0 m 836 ls []) := by
  obtain ⟨hx, hbc, hml, hg, hown, hE, hX, hbl, hbA, hlt, hL9⟩ := B
  have hR0 := hR
  obtain ⟨⟨kq1, kq2, kq3, q, hq⟩, ⟨t, hT⟩, ⟨ks, hS⟩, ⟨d, hD⟩, hG, ⟨lv, lz, hB⟩, ⟨pv, hP⟩, ⟨R9, rz, hRR⟩⟩ := hR0
  refine lv_aload_n hx hbc dL_law_836 rfl (lv_at hl 3 rfl) ?_
  refine lv_aload_n hx hbc dL_law_837 rfl (lv_at hl 4 rfl) ?_
  refine lv_iload hx hbc dL_law_838 (lv_at hl 0 rfl) ?_
  refine lv_iconst (v := nI 1) hx hbc dL_law_840 (by decide) ?_
  refine n_iadd hx hbc dL_law_841 ?_
  refine va_sld hx hbc hX hbl hbA w.2.2.2.1 (vp_in_nI (n := i + 1) (N := L) (by omega) (by omega)) dL_law_842 ?_
  rw [nI_clamp (show i + 1 < 2 ^ 31 by omega)]
  refine lv_aload_n hx hbc dL_law_843 rfl (lv_at hl 4 rfl) ?_
  refine lv_iload hx hbc dL_law_844 (lv_at hl 0 rfl) ?_
  refine lv_iconst (v := nI 2) hx hbc dL_law_846 (by decide) ?_
  refine n_iadd hx hbc dL_law_847 ?_
  refine va_sld hx hbc hX hbl hbA w.2.2.2.1 (vp_in_nI (n := i + 2) (N := L) (by omega) (by omega)) dL_law_848 ?_
  rw [nI_clamp (show i + 2 < 2 ^ 31 by omega)]
  refine lv_aload_n hx hbc dL_law_849 rfl (lv_at hl 4 rfl) ?_
  refine lv_iload hx hbc dL_law_850 (lv_at hl 0 rfl) ?_
  refine lv_iconst (v := nI 3) hx hbc dL_law_852 (by decide) ?_
  refine n_iadd hx hbc dL_law_853 ?_
  refine va_sld hx hbc hX hbl hbA w.2.2.2.1 (vp_in_nI (n := i + 3) (N := L) (by omega) (by omega)) dL_law_854 ?_
  rw [nI_clamp (show i + 3 < 2 ^ 31 by omega)]
  refine lv_aload_n hx hbc dL_law_855 rfl (lv_at hl 4 rfl) ?_
  refine lv_iload hx hbc dL_law_856 (lv_at hl 0 rfl) ?_
  refine lv_iconst (v := nI 4) hx hbc dL_law_858 (by decide) ?_
  refine n_iadd hx hbc dL_law_859 ?_
  refine va_sld hx hbc hX hbl hbA w.2.2.2.1 (vp_in_nI (n := i + 4) (N := L) (by omega) (by omega)) dL_law_860 ?_
  rw [nI_clamp (show i + 4 < 2 ^ 31 by omega)]
  refine wc_Vi (na := 4) (f := id) (As := [.int (xs (i + 1)), .int (xs (i + 2)), .int (xs (i + 3)), .int (xs (i + 4))]) (rest := []) hx hbc hml hg hown w (EC_ok al) hE.1.1 w.1 lieC.A 57 (by decide) ((skL_lo (by decide)).trans rfl) rfl (k_D_check l D cy (fun z9 => ad (id z9)) al (pul S id) ((xs (i + 1))) ((xs (i + 2))) ((xs (i + 3))) ((xs (i + 4))) d hD.1 hD.2.2.1 t hT.1 hT.2.2.1 pv hP.1 hP.2.2.1 (fun u j => (pul S fRf).2.1 27 (8 * u + j)) (fun u hu k9 hk9 => hP.2.2.2 u hu k9 hk9)) wk_434 wk_1 wk_431 wk_432 wk_433 ⟨by decide, by decide, by decide⟩ ⟨Nat.le_of_ble_eq_true rfl, Nat.le_of_ble_eq_true rfl⟩ rfl hl.1 rfl (Nat.le_of_ble_eq_true rfl) dL_law_861 ⟨by show cN ≤ 603072; omega, by show sN ≤ 7211114; omega⟩ (fun r T hpc H locs w => ?_)
  have w := w _ (lieC.T T)
  refine lv_aload_n hx hbc dL_law_864 rfl (lv_at hl 2 rfl) ?_
  refine lv_aload_n hx hbc dL_law_865 rfl (lv_at hl 4 rfl) ?_
  refine lv_iload hx hbc dL_law_866 (lv_at hl 0 rfl) ?_
  refine lv_iconst (v := nI 1) hx hbc dL_law_868 (by decide) ?_
  refine n_iadd hx hbc dL_law_869 ?_
  refine va_sld hx hbc hX hbl hbA w.2.2.2.1 (vp_in_nI (n := i + 1) (N := L) (by omega) (by omega)) dL_law_870 ?_
  rw [nI_clamp (show i + 1 < 2 ^ 31 by omega)]
  refine lv_aload_n hx hbc dL_law_871 rfl (lv_at hl 4 rfl) ?_
  refine lv_iload hx hbc dL_law_872 (lv_at hl 0 rfl) ?_
  refine lv_iconst (v := nI 2) hx hbc dL_law_874 (by decide) ?_
  refine n_iadd hx hbc dL_law_875 ?_
  refine va_sld hx hbc hX hbl hbA w.2.2.2.1 (vp_in_nI (n := i + 2) (N := L) (by omega) (by omega)) dL_law_876 ?_
  rw [nI_clamp (show i + 2 < 2 ^ 31 by omega)]
  refine lv_aload_n hx hbc dL_law_877 rfl (lv_at hl 4 rfl) ?_
  refine lv_iload hx hbc dL_law_878 (lv_at hl 0 rfl) ?_
  refine lv_iconst (v := nI 3) hx hbc dL_law_880 (by decide) ?_
  refine n_iadd hx hbc dL_law_881 ?_
  refine va_sld hx hbc hX hbl hbA w.2.2.2.1 (vp_in_nI (n := i + 3) (N := L) (by omega) (by omega)) dL_law_882 ?_
  rw [nI_clamp (show i + 3 < 2 ^ 31 by omega)]
  refine lv_aload_n hx hbc dL_law_883 rfl (lv_at hl 4 rfl) ?_
  refine lv_iload hx hbc dL_law_884 (lv_at hl 0 rfl) ?_
  refine lv_iconst (v := nI 4) hx hbc dL_law_886 (by decide) ?_
  refine n_iadd hx hbc dL_law_887 ?_
  refine va_sld hx hbc hX hbl hbA w.2.2.2.1 (vp_in_nI (n := i + 4) (N := L) (by omega) (by omega)) dL_law_888 ?_
  rw [nI_clamp (show i + 4 < 2 ^ 31 by omega)]
  refine wc_Vi (na := 4) (f := fRf) (As := [.int (xs (i + 1)), .int (xs (i + 2)), .int (xs (i + 3)), .int (xs (i + 4))]) (rest := [.int r]) hx hbc hml hg hown w E0_ok trivial (tyM_of w.1) (subM0 S T) 322 (by decide) skL_322 rfl (k_X8_check l D cy (fun z9 => ad (fRf z9)) (pul S fRf) ((xs (i + 1))) ((xs (i + 2))) ((xs (i + 3))) ((xs (i + 4))) d hD.2.1 hD.2.2.1 t hT.2.1 hT.2.2.1 pv hP.2.1 hP.2.2.1 ⟨q, hq⟩) wk_936 wk_9 wk_933 wk_934 wk_935 ⟨by decide, by decide, by decide⟩ ⟨Nat.le_of_ble_eq_true rfl, Nat.le_of_ble_eq_true rfl⟩ rfl hl.1 rfl (Nat.le_of_ble_eq_true rfl) dL_law_889 ⟨by show cN ≤ 603072; omega, by show sN ≤ 7211114; omega⟩ (fun r9 M9 hpm H locs w => ?_)
  have w := w _ (lieM.T M9)
  obtain ⟨e9, hR9⟩ := sim_check hR ((xs (i + 1))) ((xs (i + 2))) ((xs (i + 3))) ((xs (i + 4))) d t pv hD hT hP hpc hpm
  refine lv_icmp_eq (tgt := 1029) hx hbc dL_law_892 (by decide) (fun c9 => ?_) (fun c9 => absurd e9 c9)
  exact k _ _ _ _ _ _ (LR.both hR9) w hl (Nat.le_succ _) (Nat.le_add_right _ _)
set_option maxHeartbeats 1000000 in
set_option maxRecDepth 100000 in
theorem lc_keep {p : Program} {l : Launch} {e : Env} {s : State} {m : MethodId} {args : Array Value} {below : List Frame} {meth : Method} {c : Code} {Q : State → Prop} {D : va_G} {cy : Nat → ClassId} {ad al sx : Nat → Nat} {A : Nat → Prop} {b L : Nat} {xs : Nat → Int32} {S : wS} {H : Heap} {locs : List Loc} {ls : Array Slot} {i cN sN : Nat} (B : lB p l s m args c A al sx b L xs) (hi : i + 5 ≤ L) (hc9 : cN + 1 ≤ 603072) (hs9 : sN + 8 ≤ 7211114) (hR : LR S) (w : WB D (tyC cy) 354 cy ad skL A s S H locs) (hl : lv_has ls 8 [(4, .int (nI i)), (3, .ref (ad 353)), (2, .ref (ad 322)), (1, .ref (ad 57)), (0, .ref b)])
    (k : ∀ (S : wS) (H : Heap) (locs : List Loc) (ls : Array Slot) (c9 s9 : Nat), LR S → WB D (tyC cy) 354 cy ad skL A s S H locs → lv_has ls 8 [(4, .int (nI i)), (3, .ref (ad 353)), (2, .ref (ad 322)), (1, .ref (ad 57)), (0, .ref b)] → c9 ≤ cN + 1 → s9 ≤ sN + 8 → W p l e room_1 s m args below meth c H locs c9 s9 Q (F0 m 1029 ls [])) : W p l e room_1 s m args below meth c H locs cN sN Q (F0 m 897 ls []) := by
  obtain ⟨hx, hbc, hml, hg, hown, hE, hX, hbl, hbA, hlt, hL9⟩ := B
  have hR0 := hR
  obtain ⟨⟨kq1, kq2, kq3, q, hq⟩, ⟨t, hT⟩, ⟨ks, hS⟩, ⟨d, hD⟩, hG, ⟨lv, lz, hB⟩, ⟨pv, hP⟩, ⟨R9, rz, hRR⟩⟩ := hR0
  refine lv_aload_n hx hbc dL_law_897 rfl (lv_at hl 3 rfl) ?_
  refine wc_Vi (na := 0) (f := id) (As := []) (rest := []) hx hbc hml hg hown w (EC_ok al) hE.1.1 w.1 lieC.A 57 (by decide) ((skL_lo (by decide)).trans rfl) rfl (k_D_keep l D cy (fun z9 => ad (id z9)) al (pul S id) t hT.1 hT.2.2.1 R9 hRR.1 hRR.2.2.1 rz (fun i9 hi9 => ⟨(hRR.2.2.2.2 i9 hi9).1, (hRR.2.2.2.2 i9 hi9).2.2.1⟩) hT.2.2.2.2) wk_446 wk_1 wk_443 wk_444 wk_445 ⟨by decide, by decide, by decide⟩ ⟨Nat.le_of_ble_eq_true rfl, Nat.le_of_ble_eq_true rfl⟩ rfl hl.1 rfl (Nat.le_of_ble_eq_true rfl) dL_law_898 ⟨by show cN ≤ 603072; omega, by show sN ≤ 7211114; omega⟩ (fun r T hpc H locs w => ?_)
  have w := w _ (lieC.T T)
  refine lv_aload_n hx hbc dL_law_901 rfl (lv_at hl 2 rfl) ?_
  refine wc_Vi (na := 0) (f := fRf) (As := []) (rest := [.int r]) hx hbc hml hg hown w E0_ok trivial (tyM_of w.1) (subM0 S T) 322 (by decide) skL_322 rfl (k_X8_keep l D cy (fun z9 => ad (fRf z9)) (pul S fRf) t hT.2.1 hT.2.2.1 q hq R9 hRR.2.1 hRR.2.2.1 rz (fun i9 hi9 => ⟨(hRR.2.2.2.2 i9 hi9).2.1, (hRR.2.2.2.2 i9 hi9).2.2.1⟩)) wk_944 wk_9 wk_941 wk_942 wk_943 ⟨by decide, by decide, by decide⟩ ⟨Nat.le_of_ble_eq_true rfl, Nat.le_of_ble_eq_true rfl⟩ rfl hl.1 rfl (Nat.le_of_ble_eq_true rfl) dL_law_902 ⟨by show cN ≤ 603072; omega, by show sN ≤ 7211114; omega⟩ (fun r9 M9 hpm H locs w => ?_)
  have w := w _ (lieM.T M9)
  obtain ⟨e9, hR9⟩ := sim_keep hR t R9 rz q hT hRR hpc hpm
  refine lv_icmp_eq (tgt := 1029) hx hbc dL_law_905 (by decide) (fun c9 => ?_) (fun c9 => absurd e9 c9)
  exact k _ _ _ _ _ _ (LR.both hR9) w hl (Nat.le_succ _) (Nat.le_add_right _ _)
set_option maxHeartbeats 1000000 in
set_option maxRecDepth 100000 in
theorem lc_find {p : Program} {l : Launch} {e : Env} {s : State} {m : MethodId} {args : Array Value} {below : List Frame} {meth : Method} {c : Code} {Q : State → Prop} {D : va_G} {cy : Nat → ClassId} {ad al sx : Nat → Nat} {A : Nat → Prop} {b L : Nat} {xs : Nat → Int32} {S : wS} {H : Heap} {locs : List Loc} {ls : Array Slot} {i cN sN : Nat} (B : lB p l s m args c A al sx b L xs) (hi : i + 5 ≤ L) (hc9 : cN + 1 ≤ 603072) (hs9 : sN + 8 ≤ 7211114) (hR : LR S) (w : WB D (tyC cy) 354 cy ad skL A s S H locs) (hl : lv_has ls 8 [(4, .int (nI i)), (3, .ref (ad 353)), (2, .ref (ad 322)), (1, .ref (ad 57)), (0, .ref b)])
    (k : ∀ (S : wS) (H : Heap) (locs : List Loc) (ls : Array Slot) (c9 s9 : Nat), LR S → WB D (tyC cy) 354 cy ad skL A s S H locs → lv_has ls 8 [(4, .int (nI i)), (3, .ref (ad 353)), (2, .ref (ad 322)), (1, .ref (ad 57)), (0, .ref b)] → c9 ≤ cN + 1 → s9 ≤ sN + 8 → W p l e room_1 s m args below meth c H locs c9 s9 Q (F0 m 1029 ls [])) : W p l e room_1 s m args below meth c H locs cN sN Q (F0 m 910 ls []) := by
  obtain ⟨hx, hbc, hml, hg, hown, hE, hX, hbl, hbA, hlt, hL9⟩ := B
  have hR0 := hR
  obtain ⟨⟨kq1, kq2, kq3, q, hq⟩, ⟨t, hT⟩, ⟨ks, hS⟩, ⟨d, hD⟩, hG, ⟨lv, lz, hB⟩, ⟨pv, hP⟩, ⟨R9, rz, hRR⟩⟩ := hR0
  refine lv_aload_n hx hbc dL_law_910 rfl (lv_at hl 3 rfl) ?_
  refine wc_Vi (na := 0) (f := id) (As := []) (rest := []) hx hbc hml hg hown w (EC_ok al) hE.1.1 w.1 lieC.A 57 (by decide) ((skL_lo (by decide)).trans rfl) rfl (k_D_find l D cy (fun z9 => ad (id z9)) al (pul S id) t hT.1 hT.2.2.1 R9 hRR.1 hRR.2.2.1 rz (fun i9 hi9 => ⟨(hRR.2.2.2.2 i9 hi9).1, (hRR.2.2.2.2 i9 hi9).2.2.1⟩)) wk_464 wk_1 wk_461 wk_462 wk_463 ⟨by decide, by decide, by decide⟩ ⟨Nat.le_of_ble_eq_true rfl, Nat.le_of_ble_eq_true rfl⟩ rfl hl.1 rfl (Nat.le_of_ble_eq_true rfl) dL_law_911 ⟨by show cN ≤ 603072; omega, by show sN ≤ 7211114; omega⟩ (fun r T hpc H locs w => ?_)
  have w := w _ (lieC.T T)
  refine lv_aload_n hx hbc dL_law_914 rfl (lv_at hl 2 rfl) ?_
  refine wc_Vi (na := 0) (f := fRf) (As := []) (rest := [.int r]) hx hbc hml hg hown w E0_ok trivial (tyM_of w.1) (subM0 S T) 322 (by decide) skL_322 rfl (k_X8_find l D cy (fun z9 => ad (fRf z9)) (pul S fRf) t hT.2.1 hT.2.2.1 q hq R9 hRR.2.1 hRR.2.2.1 rz (fun i9 hi9 => ⟨(hRR.2.2.2.2 i9 hi9).2.1, (hRR.2.2.2.2 i9 hi9).2.2.1⟩)) wk_960 wk_9 wk_957 wk_958 wk_959 ⟨by decide, by decide, by decide⟩ ⟨Nat.le_of_ble_eq_true rfl, Nat.le_of_ble_eq_true rfl⟩ rfl hl.1 rfl (Nat.le_of_ble_eq_true rfl) dL_law_915 ⟨by show cN ≤ 603072; omega, by show sN ≤ 7211114; omega⟩ (fun r9 M9 hpm H locs w => ?_)
  have w := w _ (lieM.T M9)
  obtain ⟨e9, hR9⟩ := sim_find hR t R9 rz q hT hRR hpc hpm
  refine lv_icmp_eq (tgt := 1029) hx hbc dL_law_918 (by decide) (fun c9 => ?_) (fun c9 => absurd e9 c9)
  exact k _ _ _ _ _ _ (LR.both hR9) w hl (Nat.le_succ _) (Nat.le_add_right _ _)
set_option maxHeartbeats 1000000 in
set_option maxRecDepth 100000 in
theorem lc_about {p : Program} {l : Launch} {e : Env} {s : State} {m : MethodId} {args : Array Value} {below : List Frame} {meth : Method} {c : Code} {Q : State → Prop} {D : va_G} {cy : Nat → ClassId} {ad al sx : Nat → Nat} {A : Nat → Prop} {b L : Nat} {xs : Nat → Int32} {S : wS} {H : Heap} {locs : List Loc} {ls : Array Slot} {i cN sN : Nat} (B : lB p l s m args c A al sx b L xs) (hi : i + 5 ≤ L) (hc9 : cN + 1 ≤ 603072) (hs9 : sN + 8 ≤ 7211114) (hR : LR S) (w : WB D (tyC cy) 354 cy ad skL A s S H locs) (hl : lv_has ls 8 [(4, .int (nI i)), (3, .ref (ad 353)), (2, .ref (ad 322)), (1, .ref (ad 57)), (0, .ref b)])
    (k : ∀ (S : wS) (H : Heap) (locs : List Loc) (ls : Array Slot) (c9 s9 : Nat), LR S → WB D (tyC cy) 354 cy ad skL A s S H locs → lv_has ls 8 [(4, .int (nI i)), (3, .ref (ad 353)), (2, .ref (ad 322)), (1, .ref (ad 57)), (0, .ref b)] → c9 ≤ cN + 1 → s9 ≤ sN + 8 → W p l e room_1 s m args below meth c H locs c9 s9 Q (F0 m 1029 ls [])) : W p l e room_1 s m args below meth c H locs cN sN Q (F0 m 991 ls []) := by
  obtain ⟨hx, hbc, hml, hg, hown, hE, hX, hbl, hbA, hlt, hL9⟩ := B
  have hR0 := hR
  obtain ⟨⟨kq1, kq2, kq3, q, hq⟩, ⟨t, hT⟩, ⟨ks, hS⟩, ⟨d, hD⟩, hG, ⟨lv, lz, hB⟩, ⟨pv, hP⟩, ⟨R9, rz, hRR⟩⟩ := hR0
  refine lv_aload_n hx hbc dL_law_991 rfl (lv_at hl 3 rfl) ?_
  refine lv_aload_n hx hbc dL_law_992 rfl (lv_at hl 4 rfl) ?_
  refine lv_iload hx hbc dL_law_993 (lv_at hl 0 rfl) ?_
  refine lv_iconst (v := nI 1) hx hbc dL_law_995 (by decide) ?_
  refine n_iadd hx hbc dL_law_996 ?_
  refine va_sld hx hbc hX hbl hbA w.2.2.2.1 (vp_in_nI (n := i + 1) (N := L) (by omega) (by omega)) dL_law_997 ?_
  rw [nI_clamp (show i + 1 < 2 ^ 31 by omega)]
  refine wc_Vi (na := 1) (f := id) (As := [.int (xs (i + 1))]) (rest := []) hx hbc hml hg hown w (EC_ok al) hE.1.1 w.1 lieC.A 57 (by decide) ((skL_lo (by decide)).trans rfl) rfl (k_D_about l D cy (fun z9 => ad (id z9)) al (pul S id) ((xs (i + 1))) R9 hRR.1 hRR.2.2.1) wk_468 wk_1 wk_465 wk_466 wk_467 ⟨by decide, by decide, by decide⟩ ⟨Nat.le_of_ble_eq_true rfl, Nat.le_of_ble_eq_true rfl⟩ rfl hl.1 rfl (Nat.le_of_ble_eq_true rfl) dL_law_998 ⟨by show cN ≤ 603072; omega, by show sN ≤ 7211114; omega⟩ (fun r T hpc H locs w => ?_)
  have w := w _ (lieC.T T)
  refine lv_aload_n hx hbc dL_law_1001 rfl (lv_at hl 2 rfl) ?_
  refine lv_aload_n hx hbc dL_law_1002 rfl (lv_at hl 4 rfl) ?_
  refine lv_iload hx hbc dL_law_1003 (lv_at hl 0 rfl) ?_
  refine lv_iconst (v := nI 1) hx hbc dL_law_1005 (by decide) ?_
  refine n_iadd hx hbc dL_law_1006 ?_
  refine va_sld hx hbc hX hbl hbA w.2.2.2.1 (vp_in_nI (n := i + 1) (N := L) (by omega) (by omega)) dL_law_1007 ?_
  rw [nI_clamp (show i + 1 < 2 ^ 31 by omega)]
  refine wc_Vi (na := 1) (f := fRf) (As := [.int (xs (i + 1))]) (rest := [.int r]) hx hbc hml hg hown w E0_ok trivial (tyM_of w.1) (subM0 S T) 322 (by decide) skL_322 rfl (k_X8_about l D cy (fun z9 => ad (fRf z9)) (pul S fRf) ((xs (i + 1))) R9 hRR.2.1 hRR.2.2.1) wk_968 wk_9 wk_965 wk_966 wk_967 ⟨by decide, by decide, by decide⟩ ⟨Nat.le_of_ble_eq_true rfl, Nat.le_of_ble_eq_true rfl⟩ rfl hl.1 rfl (Nat.le_of_ble_eq_true rfl) dL_law_1008 ⟨by show cN ≤ 603072; omega, by show sN ≤ 7211114; omega⟩ (fun r9 M9 hpm H locs w => ?_)
  have w := w _ (lieM.T M9)
  obtain ⟨e9, hR9⟩ := sim_about hR ((xs (i + 1))) R9 rz hRR hpc hpm
  refine lv_icmp_eq (tgt := 1029) hx hbc dL_law_1011 (by decide) (fun c9 => ?_) (fun c9 => absurd e9 c9)
  exact k _ _ _ _ _ _ (LR.both hR9) w hl (Nat.le_succ _) (Nat.le_add_right _ _)
set_option maxHeartbeats 1000000 in
set_option maxRecDepth 100000 in
theorem lc_clear {p : Program} {l : Launch} {e : Env} {s : State} {m : MethodId} {args : Array Value} {below : List Frame} {meth : Method} {c : Code} {Q : State → Prop} {D : va_G} {cy : Nat → ClassId} {ad al sx : Nat → Nat} {A : Nat → Prop} {b L : Nat} {xs : Nat → Int32} {S : wS} {H : Heap} {locs : List Loc} {ls : Array Slot} {i cN sN : Nat} (B : lB p l s m args c A al sx b L xs) (hi : i + 5 ≤ L) (hc9 : cN + 1 ≤ 603072) (hs9 : sN + 8 ≤ 7211114) (hR : LR S) (w : WB D (tyC cy) 354 cy ad skL A s S H locs) (hl : lv_has ls 8 [(4, .int (nI i)), (3, .ref (ad 353)), (2, .ref (ad 322)), (1, .ref (ad 57)), (0, .ref b)])
    (k : ∀ (S : wS) (H : Heap) (locs : List Loc) (ls : Array Slot) (c9 s9 : Nat), LR S → WB D (tyC cy) 354 cy ad skL A s S H locs → lv_has ls 8 [(4, .int (nI i)), (3, .ref (ad 353)), (2, .ref (ad 322)), (1, .ref (ad 57)), (0, .ref b)] → c9 ≤ cN + 1 → s9 ≤ sN + 8 → W p l e room_1 s m args below meth c H locs c9 s9 Q (F0 m 1029 ls [])) : W p l e room_1 s m args below meth c H locs cN sN Q (F0 m 1016 ls []) := by
  obtain ⟨hx, hbc, hml, hg, hown, hE, hX, hbl, hbA, hlt, hL9⟩ := B
  have hR0 := hR
  obtain ⟨⟨kq1, kq2, kq3, q, hq⟩, ⟨t, hT⟩, ⟨ks, hS⟩, ⟨d, hD⟩, hG, ⟨lv, lz, hB⟩, ⟨pv, hP⟩, ⟨R9, rz, hRR⟩⟩ := hR0
  refine lv_aload_n hx hbc dL_law_1016 rfl (lv_at hl 3 rfl) ?_
  refine wc_Vi (na := 0) (f := id) (As := []) (rest := []) hx hbc hml hg hown w (EC_ok al) hE.1.1 w.1 lieC.A 57 (by decide) ((skL_lo (by decide)).trans rfl) rfl (k_D_clear l D cy (fun z9 => ad (id z9)) al (pul S id) ) wk_476 wk_1 wk_473 wk_474 wk_475 ⟨by decide, by decide, by decide⟩ ⟨Nat.le_of_ble_eq_true rfl, Nat.le_of_ble_eq_true rfl⟩ rfl hl.1 rfl (Nat.le_of_ble_eq_true rfl) dL_law_1017 ⟨by show cN ≤ 603072; omega, by show sN ≤ 7211114; omega⟩ (fun r T hpc H locs w => ?_)
  have w := w _ (lieC.T T)
  refine lv_aload_n hx hbc dL_law_1020 rfl (lv_at hl 2 rfl) ?_
  refine wc_Vi (na := 0) (f := fRf) (As := []) (rest := [.int r]) hx hbc hml hg hown w E0_ok trivial (tyM_of w.1) (subM0 S T) 322 (by decide) skL_322 rfl (k_X8_clear l D cy (fun z9 => ad (fRf z9)) (pul S fRf) ) wk_976 wk_9 wk_973 wk_974 wk_975 ⟨by decide, by decide, by decide⟩ ⟨Nat.le_of_ble_eq_true rfl, Nat.le_of_ble_eq_true rfl⟩ rfl hl.1 rfl (Nat.le_of_ble_eq_true rfl) dL_law_1021 ⟨by show cN ≤ 603072; omega, by show sN ≤ 7211114; omega⟩ (fun r9 M9 hpm H locs w => ?_)
  have w := w _ (lieM.T M9)
  obtain ⟨e9, hR9⟩ := sim_clear hR  hpc hpm
  refine lv_icmp_eq (tgt := 1029) hx hbc dL_law_1024 (by decide) (fun c9 => ?_) (fun c9 => absurd e9 c9)
  exact k _ _ _ _ _ _ (LR.both hR9) w hl (Nat.le_succ _) (Nat.le_add_right _ _)
