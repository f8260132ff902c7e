def saS (S : wS) (x : Int32) (d t : Nat) : wS := sI (sB (sB (sB S (6 + d) (va_cpy (S.2.1 5) (S.2.1 (6 + d)) 0 0 t)) 2 (upd (S.2.1 2) d (nI (t)))) 3 (upd (S.2.1 3) d x)) 0 3 (nI (d + 1))
set_option maxHeartbeats 4000000 in
set_option maxRecDepth 100000 in
theorem k_storeAdd (l : Launch) (D : va_G) (cy : Nat → ClassId) (ad al : Nat → Nat) (S : wS) (x : Int32) (d t : Nat) (hd : S.1 0 3 = nI d) (hd2 : d < 40) (ht : S.1 4 1 = nI t) (ht2 : t ≤ 40) (hfit : ∀ i, fits .byte (.int (S.2.1 5 i)) = true) : CtI l yX5_add (Cond.code yX5_add cX5_add 4 (some .int) :: wsG) 1 26 [.ref (ad (0)), .ref (ad (4)), .int (x)] D (tyC cy) 46 cy ad skSs (EC al) (S) (fun r S' => r = nI d ∧ S' = saS S x d t) := by
  refine CtI_of (by decide) (Nat.le_of_ble_eq_true rfl) ?_
  intro p e s m args below meth c A ls R Q hB hRf hRl hend
  obtain ⟨hx, hbc, hr, hg, hown, hml, hlk, w, hE, hl⟩ := hB
  have hl : lv_has ls 4 [(0, .ref (ad (0))), (1, .ref (ad (4))), (2, .int (x))] := hl
  refine lv_aload_n hx hbc dX5_add_0 rfl (lv_at hl 0 rfl) ?_
  refine wb_gi (v := nI (d)) hx hbc hg hown w inG_X5 0 (by decide) rfl rfl 3 (by decide) rfl wk_166 hd dX5_add_1 ?_
  refine lv_istore_n (lv' := [(3, .int (nI (d))), (0, .ref (ad (0))), (1, .ref (ad (4))), (2, .int (x))]) hx hbc dX5_add_4 rfl hl (by decide) rfl (fun ls hl => ?_)
  refine lv_aload_n hx hbc dX5_add_5 rfl (lv_at hl 2 rfl) ?_
  refine wb_gr (t := 5) hx hbc hg hown w inG_X0 4 (by decide) rfl rfl 0 (by decide) rfl wk_36 dX5_add_6 ?_
  refine lv_iconst (v := nI (0)) hx hbc dX5_add_9 (by decide) ?_
  refine lv_aload_n hx hbc dX5_add_10 rfl (lv_at hl 1 rfl) ?_
  refine wb_gr (t := 1) hx hbc hg hown w inG_X5 0 (by decide) rfl rfl 0 (by decide) rfl wk_161 dX5_add_11 ?_
  refine lv_iload_n hx hbc dX5_add_14 rfl (lv_at hl 0 rfl) ?_
  refine wb_aaldA (k := d) (t := 6 + d) hx hbc w 1 (by decide) rfl (by decide) 5 rfl rfl (by omega) (by decide) rfl dX5_add_15 ?_
  refine lv_iconst (v := nI (0)) hx hbc dX5_add_16 (by decide) ?_
  refine lv_aload_n hx hbc dX5_add_17 rfl (lv_at hl 2 rfl) ?_
  refine wb_gi (v := nI (t)) hx hbc hg hown w inG_X0 4 (by decide) rfl rfl 1 (by decide) rfl wk_39 ht dX5_add_18 ?_
  refine wb_cpi (ty := .byte) (f := S.2.1 (6 + d)) (f0 := S.2.1 5) hx hbc (hml.trans hl.1.symm) hg hown wk_460 wk_246 wk_245 wk_10 w 5 (by decide) rfl (6 + d) (by omega) (skSs_r _) (by decide) 1 rfl rfl (by omega) (by omega) (by decide) (by decide) rfl rfl (fun i _ => hfit _) (by rw [hRf]; decide) (by rw [hRl]; exact Nat.le_of_ble_eq_true rfl) dX5_add_21 (fun H locs w => ?_)
  refine lv_aload_n hx hbc dX5_add_24 rfl (lv_at hl 1 rfl) ?_
  refine wb_gr (t := 2) hx hbc hg hown w inG_X5 0 (by decide) rfl rfl 1 (by decide) rfl wk_163 dX5_add_25 ?_
  refine lv_iload_n hx hbc dX5_add_28 rfl (lv_at hl 0 rfl) ?_
  refine lv_aload_n hx hbc dX5_add_29 rfl (lv_at hl 2 rfl) ?_
  refine wb_gi (v := nI (t)) hx hbc hg hown w inG_X0 4 (by decide) rfl rfl 1 (by decide) rfl wk_39 (Eq.trans (by simp only [sI, sB, va_up]; first | rfl | (repeat first | rw [if_pos rfl] | rw [if_neg (by omega)])) ht) dX5_add_30 ?_
  refine wb_iast (k := d) (f := S.2.1 2) hx hbc w 2 (by decide) rfl 0 rfl rfl (by omega) (by decide) (by simp only [sB, va_up]; repeat rw [if_neg (by omega)]) rfl dX5_add_33 (fun H locs w => ?_)
  refine lv_aload_n hx hbc dX5_add_34 rfl (lv_at hl 1 rfl) ?_
  refine wb_gr (t := 3) hx hbc hg hown w inG_X5 0 (by decide) rfl rfl 2 (by decide) rfl wk_165 dX5_add_35 ?_
  refine lv_iload_n hx hbc dX5_add_38 rfl (lv_at hl 0 rfl) ?_
  refine lv_iload_n hx hbc dX5_add_39 rfl (lv_at hl 3 rfl) ?_
  refine wb_iast (k := d) (f := S.2.1 3) hx hbc w 3 (by decide) rfl 0 rfl rfl (by omega) (by decide) (by simp only [sB, va_up]; repeat rw [if_neg (by omega)]) rfl dX5_add_40 (fun H locs w => ?_)
  refine lv_aload_n hx hbc dX5_add_41 rfl (lv_at hl 1 rfl) ?_
  refine lv_dup hx hbc dX5_add_42 rfl ?_
  refine wb_gi (v := nI (d)) hx hbc hg hown w inG_X5 0 (by decide) rfl rfl 3 (by decide) rfl wk_166 (Eq.trans (by simp only [sI, sB, va_up]; first | rfl | (repeat first | rw [if_pos rfl] | rw [if_neg (by omega)])) hd) dX5_add_43 ?_
  refine lv_iconst (v := nI (1)) hx hbc dX5_add_46 (by decide) ?_
  refine n_iadd hx hbc dX5_add_47 ?_
  refine wb_pi (v := nI (d + 1)) hx hbc hg hown w inG_X5 tyX5 tyX5_ok nmX5 0 (by decide) rfl rfl 3 (by decide) rfl wk_166 rfl rfl rfl rfl dX5_add_48 (fun H locs w => ?_)
  refine lv_iload_n hx hbc dX5_add_51 rfl (lv_at hl 0 rfl) ?_
  exact hend _ _ _ _ _ _ ⟨rfl, rfl⟩ rfl w dX5_add_52
set_option maxHeartbeats 4000000 in
set_option maxRecDepth 100000 in
theorem k_storeSeek (l : Launch) (D : va_G) (cy : Nat → ClassId) (ad al : Nat → Nat) (S : wS) (x : Int32) (R9 t : Nat) (hR9 : S.1 0 3 = nI R9) (hR2 : R9 ≤ 40) (ht : S.1 4 1 = nI t) (ht2 : t ≤ 40) (rz : Nat → Nat) (hrz : ∀ i, i < R9 → S.2.1 2 i = nI (rz i) ∧ rz i ≤ 40) : CtI l yX5_seek (Cond.code yX5_seek cX5_seek 4 (some .int) :: wsG) 1 23 [.ref (ad (0)), .ref (ad (4)), .int (x)] D (tyC cy) 46 cy ad skSs (EC al) (S) (fun r S' => (∃ k, k < R9 ∧ S.2.1 3 k = x ∧ rwIs S rz k t ∧ (∀ i, i < k → ¬ (S.2.1 3 i = x ∧ rwIs S rz i t)) ∧ r = nI k ∧ S' = sI S 0 5 (nI (cnt (S.2.1 3) x (k + 1)))) ∨ ((∀ i, i < R9 → ¬ (S.2.1 3 i = x ∧ rwIs S rz i t)) ∧ r = (-1) ∧ S' = sI S 0 5 (nI (cnt (S.2.1 3) x R9)))) := by
  refine CtI_of (by decide) (Nat.le_of_ble_eq_true rfl) ?_
  intro p e s m args below meth c A ls R Q hB hRf hRl hend
  obtain ⟨hx, hbc, hr, hg, hown, hml, hlk, w, hE, hl⟩ := hB
  have hl : lv_has ls 4 [(0, .ref (ad (0))), (1, .ref (ad (4))), (2, .int (x))] := hl
  refine lv_aload_n hx hbc dX5_seek_0 rfl (lv_at hl 0 rfl) ?_
  refine lv_iconst (v := nI (0)) hx hbc dX5_seek_1 (by decide) ?_
  refine wb_pi (v := nI (0)) hx hbc hg hown w inG_X5 tyX5 tyX5_ok nmX5 0 (by decide) rfl rfl 5 (by decide) rfl wk_169 rfl rfl rfl rfl dX5_seek_2 (fun H locs w => ?_)
  refine lv_iconst (v := nI (0)) hx hbc dX5_seek_5 (by decide) ?_
  refine lv_istore_n (lv' := [(3, .int (nI (0))), (0, .ref (ad (0))), (1, .ref (ad (4))), (2, .int (x))]) hx hbc dX5_seek_6 rfl hl (by decide) rfl (fun ls hl => ?_)
  have lp_7 : ∀ (fu : Nat) (k : Nat) (H : Heap) (locs : List Loc) (ls : Array Slot), (R9 < k + fu) → (k ≤ R9) → (∀ i, i < k → ¬ (S.2.1 3 i = x ∧ rwIs S rz i t)) → WB D (tyC cy) 46 cy ad skSs A s (sI S 0 5 (nI (cnt (S.2.1 3) x k))) H locs → lv_has ls 4 [(0, .ref (ad (0))), (1, .ref (ad (4))), (2, .int (x)), (3, .int (nI (k)))] → W p l e R s m args below meth c H locs 0 0 Q (F0 m 7 ls []) := by
    intro fu
    induction fu with
    | zero =>
      intro k H locs ls h1 h2 h3 w hl
      exact absurd h1 (by omega)
    | succ fu ih_7 =>
      intro k H locs ls h1 h2 h3 w hl
      refine lv_iload_n hx hbc dX5_seek_7 rfl (lv_at hl 3 rfl) ?_
      refine lv_aload_n hx hbc dX5_seek_8 rfl (lv_at hl 0 rfl) ?_
      refine wb_gi (v := nI (R9)) hx hbc hg hown w inG_X5 0 (by decide) rfl rfl 3 (by decide) rfl wk_166 hR9 dX5_seek_9 ?_
      refine n_cmp_ge (tgt := 76) (by omega) (by omega) hx hbc dX5_seek_12 (by decide) (fun c_12 => ?_) (fun c_12 => ?_)
      · refine lv_iconst (v := (-1)) hx hbc dX5_seek_76 (by decide) ?_
        exact hend _ _ _ _ _ _ (Or.inr ⟨(fun i hi => h3 i (by omega)), rfl, (by obtain rfl : R9 = k := (by omega); rfl)⟩) rfl w dX5_seek_77
      · obtain ⟨hz1, hz2⟩ := hrz k c_12
        refine lv_aload_n hx hbc dX5_seek_15 rfl (lv_at hl 0 rfl) ?_
        refine wb_gr (t := 3) hx hbc hg hown w inG_X5 0 (by decide) rfl rfl 2 (by decide) rfl wk_165 dX5_seek_16 ?_
        refine lv_iload_n hx hbc dX5_seek_19 rfl (lv_at hl 3 rfl) ?_
        refine wb_iald (k := k) (v := (S.2.1 3) k) hx hbc w 3 (by decide) rfl 0 rfl rfl (by omega) (by decide) rfl dX5_seek_20 ?_
        refine lv_iload_n hx hbc dX5_seek_21 rfl (lv_at hl 2 rfl) ?_
        refine lv_icmp_ne (tgt := 70) hx hbc dX5_seek_22 (by decide) (fun c_22 => ?_) (fun c_22 => ?_)
        · refine lv_iinc (v := nI (k + 1)) (lv' := [(3, .int (nI (k + 1))), (0, .ref (ad (0))), (1, .ref (ad (4))), (2, .int (x))]) hx hbc dX5_seek_70 hl (k := 3) rfl (ni_inc _ _) (by decide) rfl (fun ls hl => ?_)
          refine lv_goto (tgt := 7) hx hbc dX5_seek_73 (by decide) ?_
          exact ih_7 (k + 1) _ _ _ (by omega) (by omega) (fun i hi => (by rcases Nat.lt_or_ge i k with h9 | h9; exact h3 i h9; (obtain rfl : i = k := (by omega); exact fun g => c_22 g.1))) (WB_cast w (by simp only [cnt]; rw [if_neg c_22])) (lv_sub hl [1, 2, 3, 0] rfl)
        · refine lv_aload_n hx hbc dX5_seek_25 rfl (lv_at hl 0 rfl) ?_
          refine lv_dup hx hbc dX5_seek_26 rfl ?_
          refine wb_gi (v := nI (cnt (S.2.1 3) x k)) hx hbc hg hown w inG_X5 0 (by decide) rfl rfl 5 (by decide) rfl wk_169 rfl dX5_seek_27 ?_
          refine lv_iconst (v := nI (1)) hx hbc dX5_seek_30 (by decide) ?_
          refine n_iadd hx hbc dX5_seek_31 ?_
          refine wb_pi (v := nI ((cnt (S.2.1 3) x k) + 1)) hx hbc hg hown w inG_X5 tyX5 tyX5_ok nmX5 0 (by decide) rfl rfl 5 (by decide) rfl wk_169 rfl rfl rfl rfl dX5_seek_32 (fun H locs w => ?_)
          refine lv_aload_n hx hbc dX5_seek_35 rfl (lv_at hl 0 rfl) ?_
          refine wb_gr (t := 2) hx hbc hg hown w inG_X5 0 (by decide) rfl rfl 1 (by decide) rfl wk_163 dX5_seek_36 ?_
          refine lv_iload_n hx hbc dX5_seek_39 rfl (lv_at hl 3 rfl) ?_
          refine wb_iald (k := k) (v := nI (rz k)) hx hbc w 2 (by decide) rfl 0 rfl rfl (by omega) (by decide) hz1 dX5_seek_40 ?_
          refine lv_aload_n hx hbc dX5_seek_41 rfl (lv_at hl 1 rfl) ?_
          refine wb_gi (v := nI (t)) hx hbc hg hown w inG_X0 4 (by decide) rfl rfl 1 (by decide) rfl wk_39 ht dX5_seek_42 ?_
          refine n_cmp_ne (tgt := 70) (by omega) (by omega) hx hbc dX5_seek_45 (by decide) (fun c_45 => ?_) (fun c_45 => ?_)
          · refine lv_iinc (v := nI (k + 1)) (lv' := [(3, .int (nI (k + 1))), (0, .ref (ad (0))), (1, .ref (ad (4))), (2, .int (x))]) hx hbc dX5_seek_70 hl (k := 3) rfl (ni_inc _ _) (by decide) rfl (fun ls hl => ?_)
            refine lv_goto (tgt := 7) hx hbc dX5_seek_73 (by decide) ?_
            exact ih_7 (k + 1) _ _ _ (by omega) (by omega) (fun i hi => (by rcases Nat.lt_or_ge i k with h9 | h9; exact h3 i h9; (obtain rfl : i = k := (by omega); exact fun g => c_45 g.2.1))) (WB_cast w (by rw [sI_sI]; simp only [cnt]; rw [if_pos c_22])) (lv_sub hl [1, 2, 3, 0] rfl)
          · refine lv_aload_n hx hbc dX5_seek_48 rfl (lv_at hl 0 rfl) ?_
            refine wb_gr (t := 1) hx hbc hg hown w inG_X5 0 (by decide) rfl rfl 0 (by decide) rfl wk_161 dX5_seek_49 ?_
            refine lv_iload_n hx hbc dX5_seek_52 rfl (lv_at hl 3 rfl) ?_
            refine wb_aaldA (k := k) (t := 6 + k) hx hbc w 1 (by decide) rfl (by decide) 5 rfl rfl (by omega) (by decide) rfl dX5_seek_53 ?_
            refine lv_aload_n hx hbc dX5_seek_54 rfl (lv_at hl 1 rfl) ?_
            refine wb_gr (t := 5) hx hbc hg hown w inG_X0 4 (by decide) rfl rfl 0 (by decide) rfl wk_36 dX5_seek_55 ?_
            refine lv_aload_n hx hbc dX5_seek_58 rfl (lv_at hl 1 rfl) ?_
            refine wb_gi (v := nI (t)) hx hbc hg hown w inG_X0 4 (by decide) rfl rfl 1 (by decide) rfl wk_39 ht dX5_seek_59 ?_
            have hli : Lie 46 skSs 2 (skB2 40 200) (f2 (6 + k) (5)) (fi2 (6 + k) (5)) := lie_2 (by omega) (by omega) (by omega) (skSs_r _) rfl
            refine wc_SNi (na := 3) (f := (f2 (6 + k) (5))) (As := [.ref (ad (6 + k)), .ref (ad (5)), .int (nI (t))]) (rest := []) hx hbc hml hg hown w (EC_ok al) hE (w.1.sub (tys' := tyM cy) [0, 1, 2] rfl) hli.A (k_alike l D cy (fun z9 => ad (f2 (6 + k) (5) z9)) al (pul (sI (sI S 0 5 (nI (cnt (S.2.1 3) x k))) 0 5 (nI ((cnt (S.2.1 3) x k) + 1))) (f2 (6 + k) (5))) 40 200 t (by decide) (by decide) (by omega) (by omega)) wk_364 wk_1 (hE.2.2.2.2.2 _ (List.mem_of_getElem? (i := 10) rfl)) wk_363 ⟨by decide, by decide, by decide⟩ ⟨by rw [hRf]; decide, by rw [hRl]; decide⟩ rfl hl.1 rfl (Nat.le_of_ble_eq_true rfl) dX5_seek_62 ⟨Nat.zero_le _, Nat.zero_le _⟩ (fun r S9 hp H locs w => ?_)
            obtain rfl : S9 = pul (sI (sI S 0 5 (nI (cnt (S.2.1 3) x k))) 0 5 (nI ((cnt (S.2.1 3) x k) + 1))) (f2 (6 + k) (5)) := by rcases hp with ⟨_, _, h9⟩ | ⟨_, _, h9⟩ <;> exact h9
            have w : WB D (tyC cy) 46 cy ad skSs A s (sI (sI S 0 5 (nI (cnt (S.2.1 3) x k))) 0 5 (nI ((cnt (S.2.1 3) x k) + 1))) H locs := w _ hli.id
            rcases hp with ⟨rfl, hal, _⟩ | ⟨rfl, hal, _⟩
            · skip
              refine lv_if_eq (tgt := 70) hx hbc dX5_seek_65 (by decide) (fun c_65 => ?_) (fun c_65 => ?_)
              · exact absurd c_65 (by decide)
              · refine lv_iload_n hx hbc dX5_seek_68 rfl (lv_at hl 3 rfl) ?_
                exact hend _ _ _ _ _ _ (Or.inl ⟨k, c_12, c_22, ⟨c_45, hal⟩, h3, rfl, (by rw [sI_sI]; simp only [cnt]; rw [if_pos c_22])⟩) rfl w dX5_seek_69
            · skip
              refine lv_if_eq (tgt := 70) hx hbc dX5_seek_65 (by decide) (fun c_65 => ?_) (fun c_65 => ?_)
              · refine lv_iinc (v := nI (k + 1)) (lv' := [(3, .int (nI (k + 1))), (0, .ref (ad (0))), (1, .ref (ad (4))), (2, .int (x))]) hx hbc dX5_seek_70 hl (k := 3) rfl (ni_inc _ _) (by decide) rfl (fun ls hl => ?_)
                refine lv_goto (tgt := 7) hx hbc dX5_seek_73 (by decide) ?_
                exact ih_7 (k + 1) _ _ _ (by omega) (by omega) (fun i hi => (by rcases Nat.lt_or_ge i k with h9 | h9; exact h3 i h9; (obtain rfl : i = k := (by omega); exact fun g => hal.elim (fun q hq => hq.2 (g.2.2 q hq.1))))) (WB_cast w (by rw [sI_sI]; simp only [cnt]; rw [if_pos c_22])) (lv_sub hl [1, 2, 3, 0] rfl)
              · exact absurd c_65 (by decide)
  exact lp_7 (R9 + 1) 0 _ _ _ (by omega) (by omega) (fun _ h9 => absurd h9 (Nat.not_lt_zero _)) w (lv_sub hl [1, 2, 3, 0] rfl)
