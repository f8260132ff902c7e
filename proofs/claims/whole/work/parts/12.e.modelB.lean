set_option maxHeartbeats 4000000 in
set_option maxRecDepth 100000 in
theorem md_loop {p : Program} {l : Launch} {e : Env} {R : Room} {s : State} {m : MethodId} {args : Array Value} {below : List Frame} {meth : Method} {c : Code} {H : Heap} {locs : List Loc} {Q : State → Prop} {ls : Array Slot} {D : va_G} {cy : Nat → ClassId} {ad : Nat → Nat} {A : Nat → Prop} {cN sN : Nat} (hx : p.tables.exec = Jvm.exec) (hbc : c.code = cX8_init) (hml : c.maxLocals = 5) (hg : ∀ w ∈ wsG, w.before args s = true) (hown : s.vm.findClass yX8_init.cls = some m.cls) (hc9 : cN ≤ R.cells) (hs9 : sN ≤ R.slots) (hRf : R.frames = 2) (hRl : R.locals = 49)
    (hend : ∀ (S' : wS) (H : Heap) (locs : List Loc) (pc : Nat) (ls : Array Slot), (∃ x y z, S' = rbS (cst (tb 64) (wb 64) (nb 64) x y z)) → WB D (tyC cy) 31 cy ad skM A s S' H locs → decode cX8_init pc = .ok (.return_, 1) → W p l e R s m args below meth c H locs cN sN Q (F0 m pc ls [])) (w : WB D (tyC cy) 31 cy ad skM A s Z0 H locs) (hl : lv_has ls 5 [(0, .ref (ad (0)))]) : W p l e R s m args below meth c H locs cN sN Q (F0 m 249 ls []) := by
  refine lv_iconst (v := nI (2)) hx hbc dX8_init_249 (by decide) ?_
  refine lv_istore_n (lv' := [(1, .int (nI (2))), (0, .ref (ad (0)))]) hx hbc dX8_init_250 rfl hl (by decide) rfl (fun ls hl => ?_)
  refine lv_iconst (v := nI (0)) hx hbc dX8_init_251 (by decide) ?_
  refine lv_istore_n (lv' := [(2, .int (nI (0))), (1, .int (nI (2))), (0, .ref (ad (0)))]) hx hbc dX8_init_252 rfl hl (by decide) rfl (fun ls hl => ?_)
  have lp_253 : ∀ (fu : Nat) (p9 : Nat) (n : Nat) (x : Nat → Int64) (y : Nat → Int64) (z : Nat → Int64) (H : Heap) (locs : List Loc) (ls : Array Slot), (312 < p9 + fu) → (p9 ≤ 312) → (n = np p9) → (n ≤ 64) → (2 ≤ p9) → WB D (tyC cy) 31 cy ad skM A s (cst (tb n) (wb n) (nb n) x y z) H locs → lv_has ls 5 [(0, .ref (ad (0))), (1, .int (nI (p9))), (2, .int (nI (n)))] → W p l e R s m args below meth c H locs cN sN Q (F0 m 253 ls []) := by
    intro fu
    induction fu with
    | zero =>
      intro p9 n x y z H locs ls h1 h2 h3 h4 h5 w hl
      exact absurd h1 (by omega)
    | succ fu ih_253 =>
      intro p9 n x y z H locs ls h1 h2 h3 h4 h5 w hl
      refine lv_iload_n hx hbc dX8_init_253 rfl (lv_at hl 2 rfl) ?_
      refine lv_bipush (v := nI (64)) hx hbc dX8_init_254 (by decide) ?_
      refine n_cmp_ge (tgt := 364) (by omega) (by omega) hx hbc dX8_init_256 (by decide) (fun c_256 => ?_) (fun c_256 => ?_)
      · obtain rfl : n = 64 := by omega
        have hl := lv_sub (l' := [(0, .ref (ad (0)))]) hl [0] rfl
        refine lv_aload_n hx hbc dX8_init_364 rfl (lv_at hl 0 rfl) ?_
        refine wb_Vv (na := 0) (As := []) (rest := []) hx hbc hml hg hown w E0_ok trivial (tyM_of w.1) Sub.self 0 (by decide) rfl rfl (k_X8_rowsBegin l D cy ad (cst (tb 64) (wb 64) (nb 64) x y z)) wk_666 wk_9 wk_663 wk_665 ws_12 ⟨by decide, by decide, by decide⟩ ⟨by rw [hRf]; decide, by rw [hRl]; decide⟩ rfl hl.1 rfl (Nat.le_of_ble_eq_true rfl) dX8_init_365 ⟨hc9, hs9⟩ (fun S9 H locs hp w => ?_)
        subst hp
        have w : WB D (tyC cy) 31 cy ad skM A s (rbS (cst (tb 64) (wb 64) (nb 64) x y z)) H locs := w
        exact hend _ _ _ _ _ ⟨x, y, z, rfl⟩ w dX8_init_368
      · have hp9 : p9 < 312 := by
          rcases Nat.lt_or_ge p9 312 with g | g
          · exact g
          · have e9 : p9 = 312 := by omega
            rw [e9, np_312] at h3
            omega
        refine lv_iconst (v := nI (1)) hx hbc dX8_init_259 (by decide) ?_
        refine lv_istore_n (lv' := [(3, .int (nI (1))), (0, .ref (ad (0))), (1, .int (nI (p9))), (2, .int (nI (n)))]) hx hbc dX8_init_260 rfl hl (by decide) rfl (fun ls hl => ?_)
        refine lv_iconst (v := nI (2)) hx hbc dX8_init_261 (by decide) ?_
        refine lv_istore (lv' := [(4, .int (nI (2))), (3, .int (nI (1))), (0, .ref (ad (0))), (1, .int (nI (p9))), (2, .int (nI (n)))]) hx hbc dX8_init_262 hl (by decide) rfl (fun ls hl => ?_)
        have lp_264 : ∀ (fu : Nat) (k : Nat) (H : Heap) (locs : List Loc) (ls : Array Slot), (16 < k + fu) → (k ≤ 16) → WB D (tyC cy) 31 cy ad skM A s (cst (tb n) (wb n) (nb n) x y z) H locs → lv_has ls 5 [(0, .ref (ad (0))), (1, .int (nI (p9))), (2, .int (nI (n))), (3, .int (pm p9 k)), (4, .int (nI (2 + k)))] → W p l e R s m args below meth c H locs cN sN Q (F0 m 264 ls []) := by
          intro fu
          induction fu with
          | zero =>
            intro k H locs ls g1 g2 w hl
            exact absurd g1 (by omega)
          | succ fu ih_264 =>
            intro k H locs ls g1 g2 w hl
            have hd9 := d_le g2
            refine lv_iload hx hbc dX8_init_264 (lv_at hl 4 rfl) ?_
            refine lv_iload hx hbc dX8_init_266 (lv_at hl 4 rfl) ?_
            refine n_imul hx hbc dX8_init_268 ?_
            refine lv_iload_n hx hbc dX8_init_269 rfl (lv_at hl 1 rfl) ?_
            refine n_cmp_gt (tgt := 296) (by omega) (by omega) hx hbc dX8_init_270 (by decide) (fun c_270 => ?_) (fun c_270 => ?_)
            · have e_p : pm p9 k = pm p9 17 := pm_end hp9 (by omega) c_270
              have hl := lv_sub (l' := [(0, .ref (ad (0))), (1, .int (nI (p9))), (2, .int (nI (n))), (3, .int (pm p9 k))]) hl [0, 1, 2, 3] rfl
              refine lv_iload_n hx hbc dX8_init_296 rfl (lv_at hl 3 rfl) ?_
              refine lv_if_eq (tgt := 358) hx hbc dX8_init_297 (by decide) (fun c_297 => ?_) (fun c_297 => ?_)
              · refine lv_iinc (v := nI (p9 + 1)) (lv' := [(1, .int (nI (p9 + 1))), (0, .ref (ad (0))), (2, .int (nI (n))), (3, .int (pm p9 k))]) hx hbc dX8_init_358 hl (k := 1) rfl (ni_inc _ _) (by decide) rfl (fun ls hl => ?_)
                refine lv_goto (tgt := 253) hx hbc dX8_init_361 (by decide) ?_
                exact ih_253 (p9 + 1) n x y z _ _ _ (by omega) (by omega) (np_no (e_p ▸ c_297) h3) (by omega) (by omega) w (lv_sub hl [1, 0, 2] rfl)
              · have hq9 : ¬ pm p9 17 = 0 := e_p ▸ c_297
                obtain ⟨⟨R1, hR1, hk1⟩, hc2, hc3⟩ := okP_c hp9 h5 hq9 h3
                obtain ⟨t9, ht9⟩ : ∃ t9, t9 = 6 := ⟨_, rfl⟩
                have hR1 : cbN p9 t9 36 0 = some R1 := by rw [ht9]; exact hR1
                refine lv_aload_n hx hbc dX8_init_300 rfl (lv_at hl 0 rfl) ?_
                refine wb_gr (t := 1) hx hbc hg hown w inG_X8 0 (by decide) rfl rfl 1 (by decide) rfl wk_668 dX8_init_301 ?_
                refine lv_iload_n hx hbc dX8_init_304 rfl (lv_at hl 2 rfl) ?_
                refine lv_aload_n hx hbc dX8_init_305 rfl (lv_at hl 0 rfl) ?_
                refine lv_iload_n hx hbc dX8_init_306 rfl (lv_at hl 1 rfl) ?_
                refine wb_Vi (na := 1) (As := [.int (nI (p9))]) (rest := [.int (nI (n)), .ref (ad (1))]) hx hbc hml hg hown w E0_ok trivial (tyM_of w.1) Sub.self 0 (by decide) rfl rfl (k_X8_cubeBits l D cy ad (cst (tb n) (wb n) (nb n) x y z) p9 t9 R1 ht9 hR1) wk_650 wk_9 wk_647 wk_649 ws_9 ⟨by decide, by decide, by decide⟩ ⟨by rw [hRf]; decide, by rw [hRl]; decide⟩ rfl hl.1 rfl (Nat.le_of_ble_eq_true rfl) dX8_init_307 ⟨hc9, hs9⟩ (fun r S9 H locs hp w => ?_)
                obtain ⟨hp, x1, y1, z1, hS9⟩ := hp
                rw [hk1] at hp
                subst hp
                have w := WB_cast w (hS9.trans (cst_j _ _ _ _ _ _ _ _ _))
                have w : WB D (tyC cy) 31 cy ad skM A s (cst (tb n) (wb n) (nb n) x1 y1 z1) H locs := w
                refine wb_iast (k := n) (f := tb n) hx hbc w 1 (by decide) rfl 0 rfl rfl (by omega) (by decide) rfl (cst_1 _ _ _ _ _ _ _) dX8_init_310 (fun H locs w => ?_)
                refine lv_iload_n hx hbc dX8_init_311 rfl (lv_at hl 2 rfl) ?_
                refine lv_bipush (v := nI (8)) hx hbc dX8_init_312 (by decide) ?_
                refine n_cmp_ge (tgt := 333) (by omega) (by omega) hx hbc dX8_init_314 (by decide) (fun c_314 => ?_) (fun c_314 => ?_)
                · refine lv_iload_n hx hbc dX8_init_333 rfl (lv_at hl 2 rfl) ?_
                  refine lv_bipush (v := nI (16)) hx hbc dX8_init_334 (by decide) ?_
                  refine n_cmp_ge (tgt := 355) (by omega) (by omega) hx hbc dX8_init_336 (by decide) (fun c_336 => ?_) (fun c_336 => ?_)
                  · refine lv_iinc (v := nI (n + 1)) (lv' := [(2, .int (nI (n + 1))), (0, .ref (ad (0))), (1, .int (nI (p9))), (3, .int (pm p9 k))]) hx hbc dX8_init_355 hl (k := 2) rfl (ni_inc _ _) (by decide) rfl (fun ls hl => ?_)
                    refine lv_iinc (v := nI (p9 + 1)) (lv' := [(1, .int (nI (p9 + 1))), (2, .int (nI (n + 1))), (0, .ref (ad (0))), (3, .int (pm p9 k))]) hx hbc dX8_init_358 hl (k := 2) rfl (ni_inc _ _) (by decide) rfl (fun ls hl => ?_)
                    refine lv_goto (tgt := 253) hx hbc dX8_init_361 (by decide) ?_
                    exact ih_253 (p9 + 1) (n + 1) x1 y1 z1 _ _ _ (by omega) (by omega) (np_yes h5 hq9 h3) (by omega) (by omega) (WB_cast w (by rw [tb_up, wb_ge c_314, nb_ge c_336])) (lv_sub hl [2, 0, 1] rfl)
                  · refine lv_aload_n hx hbc dX8_init_339 rfl (lv_at hl 0 rfl) ?_
                    refine wb_gr (t := 3) hx hbc hg hown w inG_X8 0 (by decide) rfl rfl 3 (by decide) rfl wk_670 dX8_init_340 ?_
                    refine lv_iload_n hx hbc dX8_init_343 rfl (lv_at hl 2 rfl) ?_
                    refine lv_bipush (v := nI (8)) hx hbc dX8_init_344 (by decide) ?_
                    refine n_isub (by omega) hx hbc dX8_init_346 ?_
                    refine lv_aload_n hx hbc dX8_init_347 rfl (lv_at hl 0 rfl) ?_
                    refine lv_iload_n hx hbc dX8_init_348 rfl (lv_at hl 1 rfl) ?_
                    refine lv_bipush (v := nI (64)) hx hbc dX8_init_349 (by decide) ?_
                    obtain ⟨b9, hb9⟩ : ∃ b9, b9 = 64 := ⟨_, rfl⟩
                    obtain ⟨R2, hR2, hk2⟩ := hc3 (by omega) (by omega)
                    have hR2 : sqN p9 (2 * b9 / 16) (b9 + 4) 0 = some R2 := by rw [hb9]; exact hR2
                    refine lv_ri (y := nI b9) (by rw [hb9]) ?_
                    refine wb_Vi (na := 2) (As := [.int (nI (p9)), .int (nI (b9))]) (rest := [.int (nI (n - 8)), .ref (ad (3))]) hx hbc hml hg hown w E0_ok trivial (tyM_of w.1) Sub.self 0 (by decide) rfl rfl (k_X8_squareBits l D cy ad (cst (upd (tb n) n (kC n)) (wb n) (nb n) x1 y1 z1) p9 b9 R2 (by omega) hR2) wk_662 wk_9 wk_659 wk_661 ws_11 ⟨by decide, by decide, by decide⟩ ⟨by rw [hRf]; decide, by rw [hRl]; decide⟩ rfl hl.1 rfl (Nat.le_of_ble_eq_true rfl) dX8_init_351 ⟨hc9, hs9⟩ (fun r S9 H locs hp w => ?_)
                    obtain ⟨hp, x2, y2, z2, hS9⟩ := hp
                    rw [hk2] at hp
                    subst hp
                    have w := WB_cast w (hS9.trans (cst_j _ _ _ _ _ _ _ _ _))
                    have w : WB D (tyC cy) 31 cy ad skM A s (cst (upd (tb n) n (kC n)) (wb n) (nb n) x2 y2 z2) H locs := w
                    refine wb_iast (k := n - 8) (f := nb n) hx hbc w 3 (by decide) rfl 0 rfl rfl (by omega) (by decide) rfl (cst_3 _ _ _ _ _ _ _) dX8_init_354 (fun H locs w => ?_)
                    refine lv_iinc (v := nI (n + 1)) (lv' := [(2, .int (nI (n + 1))), (0, .ref (ad (0))), (1, .int (nI (p9))), (3, .int (pm p9 k))]) hx hbc dX8_init_355 hl (k := 2) rfl (ni_inc _ _) (by decide) rfl (fun ls hl => ?_)
                    refine lv_iinc (v := nI (p9 + 1)) (lv' := [(1, .int (nI (p9 + 1))), (2, .int (nI (n + 1))), (0, .ref (ad (0))), (3, .int (pm p9 k))]) hx hbc dX8_init_358 hl (k := 2) rfl (ni_inc _ _) (by decide) rfl (fun ls hl => ?_)
                    refine lv_goto (tgt := 253) hx hbc dX8_init_361 (by decide) ?_
                    exact ih_253 (p9 + 1) (n + 1) x2 y2 z2 _ _ _ (by omega) (by omega) (np_yes h5 hq9 h3) (by omega) (by omega) (WB_cast w (by rw [tb_up, wb_ge c_314, nb_up c_314])) (lv_sub hl [2, 0, 1] rfl)
                · refine lv_aload_n hx hbc dX8_init_317 rfl (lv_at hl 0 rfl) ?_
                  refine wb_gr (t := 2) hx hbc hg hown w inG_X8 0 (by decide) rfl rfl 2 (by decide) rfl wk_669 dX8_init_318 ?_
                  refine lv_iload_n hx hbc dX8_init_321 rfl (lv_at hl 2 rfl) ?_
                  refine lv_aload_n hx hbc dX8_init_322 rfl (lv_at hl 0 rfl) ?_
                  refine lv_iload_n hx hbc dX8_init_323 rfl (lv_at hl 1 rfl) ?_
                  refine lv_bipush (v := nI (32)) hx hbc dX8_init_324 (by decide) ?_
                  obtain ⟨b9, hb9⟩ : ∃ b9, b9 = 32 := ⟨_, rfl⟩
                  obtain ⟨R2, hR2, hk2⟩ := hc2 c_314
                  have hR2 : sqN p9 (2 * b9 / 16) (b9 + 4) 0 = some R2 := by rw [hb9]; exact hR2
                  refine lv_ri (y := nI b9) (by rw [hb9]) ?_
                  refine wb_Vi (na := 2) (As := [.int (nI (p9)), .int (nI (b9))]) (rest := [.int (nI (n)), .ref (ad (2))]) hx hbc hml hg hown w E0_ok trivial (tyM_of w.1) Sub.self 0 (by decide) rfl rfl (k_X8_squareBits l D cy ad (cst (upd (tb n) n (kC n)) (wb n) (nb n) x1 y1 z1) p9 b9 R2 (by omega) hR2) wk_662 wk_9 wk_659 wk_661 ws_11 ⟨by decide, by decide, by decide⟩ ⟨by rw [hRf]; decide, by rw [hRl]; decide⟩ rfl hl.1 rfl (Nat.le_of_ble_eq_true rfl) dX8_init_326 ⟨hc9, hs9⟩ (fun r S9 H locs hp w => ?_)
                  obtain ⟨hp, x2, y2, z2, hS9⟩ := hp
                  rw [hk2] at hp
                  subst hp
                  have w := WB_cast w (hS9.trans (cst_j _ _ _ _ _ _ _ _ _))
                  have w : WB D (tyC cy) 31 cy ad skM A s (cst (upd (tb n) n (kC n)) (wb n) (nb n) x2 y2 z2) H locs := w
                  refine wb_iast (k := n) (f := wb n) hx hbc w 2 (by decide) rfl 0 rfl rfl (by omega) (by decide) rfl (cst_2 _ _ _ _ _ _ _) dX8_init_329 (fun H locs w => ?_)
                  refine lv_goto (tgt := 355) hx hbc dX8_init_330 (by decide) ?_
                  refine lv_iinc (v := nI (n + 1)) (lv' := [(2, .int (nI (n + 1))), (0, .ref (ad (0))), (1, .int (nI (p9))), (3, .int (pm p9 k))]) hx hbc dX8_init_355 hl (k := 2) rfl (ni_inc _ _) (by decide) rfl (fun ls hl => ?_)
                  refine lv_iinc (v := nI (p9 + 1)) (lv' := [(1, .int (nI (p9 + 1))), (2, .int (nI (n + 1))), (0, .ref (ad (0))), (3, .int (pm p9 k))]) hx hbc dX8_init_358 hl (k := 2) rfl (ni_inc _ _) (by decide) rfl (fun ls hl => ?_)
                  refine lv_goto (tgt := 253) hx hbc dX8_init_361 (by decide) ?_
                  exact ih_253 (p9 + 1) (n + 1) x2 y2 z2 _ _ _ (by omega) (by omega) (np_yes h5 hq9 h3) (by omega) (by omega) (WB_cast w (by rw [tb_up, wb_up, nb_lo c_314])) (lv_sub hl [2, 0, 1] rfl)
            · refine lv_iload_n hx hbc dX8_init_273 rfl (lv_at hl 3 rfl) ?_
              refine lv_if_eq (tgt := 288) hx hbc dX8_init_274 (by decide) (fun c_274 => ?_) (fun c_274 => ?_)
              · refine lv_iconst (v := nI (0)) hx hbc dX8_init_288 (by decide) ?_
                refine lv_ri (y := pm p9 (k + 1)) (pm_0a c_274) ?_
                refine lv_istore_n (lv' := [(3, .int (pm p9 (k + 1))), (0, .ref (ad (0))), (1, .int (nI (p9))), (2, .int (nI (n))), (4, .int (nI (2 + k)))]) hx hbc dX8_init_289 rfl hl (by decide) rfl (fun ls hl => ?_)
                refine lv_iinc (v := nI (2 + k + 1)) (lv' := [(4, .int (nI (2 + k + 1))), (3, .int (pm p9 (k + 1))), (0, .ref (ad (0))), (1, .int (nI (p9))), (2, .int (nI (n)))]) hx hbc dX8_init_290 hl (k := 4) rfl (ni_inc _ _) (by decide) rfl (fun ls hl => ?_)
                refine lv_goto (tgt := 264) hx hbc dX8_init_293 (by decide) ?_
                exact ih_264 (k + 1) _ _ _ (by omega) (by have := d_lt c_270 hp9; omega) w (lv_sub hl [2, 3, 4, 1, 0] rfl)
              · refine lv_iload_n hx hbc dX8_init_277 rfl (lv_at hl 1 rfl) ?_
                refine lv_iload hx hbc dX8_init_278 (lv_at hl 4 rfl) ?_
                refine n_irem (by omega) (by omega) (by omega) hx hbc dX8_init_280 ?_
                refine lv_if_eq (tgt := 288) hx hbc dX8_init_281 (by decide) (fun c_281 => ?_) (fun c_281 => ?_)
                · refine lv_iconst (v := nI (0)) hx hbc dX8_init_288 (by decide) ?_
                  refine lv_ri (y := pm p9 (k + 1)) (pm_0b c_270 (by omega) c_281) ?_
                  refine lv_istore_n (lv' := [(3, .int (pm p9 (k + 1))), (0, .ref (ad (0))), (1, .int (nI (p9))), (2, .int (nI (n))), (4, .int (nI (2 + k)))]) hx hbc dX8_init_289 rfl hl (by decide) rfl (fun ls hl => ?_)
                  refine lv_iinc (v := nI (2 + k + 1)) (lv' := [(4, .int (nI (2 + k + 1))), (3, .int (pm p9 (k + 1))), (0, .ref (ad (0))), (1, .int (nI (p9))), (2, .int (nI (n)))]) hx hbc dX8_init_290 hl (k := 4) rfl (ni_inc _ _) (by decide) rfl (fun ls hl => ?_)
                  refine lv_goto (tgt := 264) hx hbc dX8_init_293 (by decide) ?_
                  exact ih_264 (k + 1) _ _ _ (by omega) (by have := d_lt c_270 hp9; omega) w (lv_sub hl [2, 3, 4, 1, 0] rfl)
                · refine lv_iconst (v := nI (1)) hx hbc dX8_init_284 (by decide) ?_
                  refine lv_goto (tgt := 289) hx hbc dX8_init_285 (by decide) ?_
                  refine lv_ri (y := pm p9 (k + 1)) (pm_1 c_274 c_281) ?_
                  refine lv_istore_n (lv' := [(3, .int (pm p9 (k + 1))), (0, .ref (ad (0))), (1, .int (nI (p9))), (2, .int (nI (n))), (4, .int (nI (2 + k)))]) hx hbc dX8_init_289 rfl hl (by decide) rfl (fun ls hl => ?_)
                  refine lv_iinc (v := nI (2 + k + 1)) (lv' := [(4, .int (nI (2 + k + 1))), (3, .int (pm p9 (k + 1))), (0, .ref (ad (0))), (1, .int (nI (p9))), (2, .int (nI (n)))]) hx hbc dX8_init_290 hl (k := 4) rfl (ni_inc _ _) (by decide) rfl (fun ls hl => ?_)
                  refine lv_goto (tgt := 264) hx hbc dX8_init_293 (by decide) ?_
                  exact ih_264 (k + 1) _ _ _ (by omega) (by have := d_lt c_270 hp9; omega) w (lv_sub hl [2, 3, 4, 1, 0] rfl)
        exact lp_264 17 0 _ _ _ (by decide) (by decide) w (lv_sub hl [2, 3, 4, 1, 0] rfl)
  exact lp_253 311 2 0 (fun _ => 0) (fun _ => 0) (fun _ => 0) _ _ _ (by decide) (by decide) (by decide) (by decide) (by decide) (WB_cast w cst_Z) (lv_sub hl [2, 1, 0] rfl)
