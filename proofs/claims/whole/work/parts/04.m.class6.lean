set_option maxHeartbeats 4000000 in
set_option maxRecDepth 100000 in
theorem k_pairsMeet (l : Launch) (D : va_G) (cy : Nat → ClassId) (ad al : Nat → Nat) (S : wS) (n : Nat) (hn : S.1 0 3 = nI n) (hn2 : n ≤ 40) : CtI l yX5_pairsThatMeet (Cond.code yX5_pairsThatMeet cX5_pairsThatMeet 4 (some .int) :: wsG) 0 0 [.ref (ad (0))] D (tyM cy) 4 cy ad (skSt) (EC al) (S) (fun r S' => r = nI (pjo (S.2.1 3) n n) ∧ S' = S) := by
  refine CtI_of (by decide) (Nat.le_of_ble_eq_true rfl) ?_
  intro p e s m args below meth c A ls R Q hB hRf hRl hend
  obtain ⟨hx, hbc, hr, hg, hown, hml, hlk, w, hE, hl⟩ := hB
  have hl : lv_has ls 4 [(0, .ref (ad (0)))] := hl
  refine lv_iconst (v := nI (0)) hx hbc dX5_pairsThatMeet_0 (by decide) ?_
  refine lv_istore_n (lv' := [(1, .int (nI (0))), (0, .ref (ad (0)))]) hx hbc dX5_pairsThatMeet_1 rfl hl (by decide) rfl (fun ls hl => ?_)
  refine lv_iconst (v := nI (0)) hx hbc dX5_pairsThatMeet_2 (by decide) ?_
  refine lv_istore_n (lv' := [(2, .int (nI (0))), (1, .int (nI (0))), (0, .ref (ad (0)))]) hx hbc dX5_pairsThatMeet_3 rfl hl (by decide) rfl (fun ls hl => ?_)
  have lp_4 : ∀ (fu : Nat) (a : Nat) (H : Heap) (locs : List Loc) (ls : Array Slot), (n < a + fu) → (a ≤ n) → WB D (tyM cy) 4 cy ad (skSt) A s (S) H locs → lv_has ls 4 [(0, .ref (ad (0))), (1, .int (nI (pjo (S.2.1 3) n a))), (2, .int (nI (a)))] → W p l e R s m args below meth c H locs 0 0 Q (F0 m 4 ls []) := by
    intro fu
    induction fu with
    | zero =>
      intro a H locs ls h1 h2 w hl
      exact absurd h1 (by omega)
    | succ fu ih_4 =>
      intro a H locs ls h1 h2 w hl
      refine lv_iload_n hx hbc dX5_pairsThatMeet_4 rfl (lv_at hl 2 rfl) ?_
      refine lv_aload_n hx hbc dX5_pairsThatMeet_5 rfl (lv_at hl 0 rfl) ?_
      refine wb_gi (v := nI (n)) hx hbc hg hown w inG_X5 0 (by decide) rfl rfl 3 (by decide) rfl wk_166 hn dX5_pairsThatMeet_6 ?_
      refine n_cmp_ge (tgt := 54) (by omega) (by omega) hx hbc dX5_pairsThatMeet_9 (by decide) (fun c_9 => ?_) (fun c_9 => ?_)
      · refine lv_iload_n hx hbc dX5_pairsThatMeet_54 rfl (lv_at hl 1 rfl) ?_
        exact hend _ _ _ _ _ _ ⟨(by obtain rfl : a = n := (by omega); rfl), rfl⟩ rfl w dX5_pairsThatMeet_55
      · refine lv_iload_n hx hbc dX5_pairsThatMeet_12 rfl (lv_at hl 2 rfl) ?_
        refine lv_iconst (v := nI (1)) hx hbc dX5_pairsThatMeet_13 (by decide) ?_
        refine n_iadd hx hbc dX5_pairsThatMeet_14 ?_
        refine lv_istore_n (lv' := [(3, .int (nI (a + 1))), (0, .ref (ad (0))), (1, .int (nI (pjo (S.2.1 3) n a))), (2, .int (nI (a)))]) hx hbc dX5_pairsThatMeet_15 rfl hl (by decide) rfl (fun ls hl => ?_)
        have lp_16 : ∀ (fu : Nat) (b : Nat) (H : Heap) (locs : List Loc) (ls : Array Slot), (n < a + 1 + b + fu) → (a + 1 + b ≤ n) → WB D (tyM cy) 4 cy ad (skSt) A s (S) H locs → lv_has ls 4 [(0, .ref (ad (0))), (1, .int (nI (pjo (S.2.1 3) n a + pjn (S.2.1 3) a b))), (2, .int (nI (a))), (3, .int (nI (a + 1 + b)))] → W p l e R s m args below meth c H locs 0 0 Q (F0 m 16 ls []) := by
          intro fu
          induction fu with
          | zero =>
            intro b H locs ls g1 g2 w hl
            exact absurd g1 (by omega)
          | succ fu ih_16 =>
            intro b H locs ls g1 g2 w hl
            refine lv_iload_n hx hbc dX5_pairsThatMeet_16 rfl (lv_at hl 3 rfl) ?_
            refine lv_aload_n hx hbc dX5_pairsThatMeet_17 rfl (lv_at hl 0 rfl) ?_
            refine wb_gi (v := nI (n)) hx hbc hg hown w inG_X5 0 (by decide) rfl rfl 3 (by decide) rfl wk_166 hn dX5_pairsThatMeet_18 ?_
            refine n_cmp_ge (tgt := 48) (by omega) (by omega) hx hbc dX5_pairsThatMeet_21 (by decide) (fun c_21 => ?_) (fun c_21 => ?_)
            · obtain rfl : b = n - (a + 1) := by omega
              have hl := lv_sub (l' := [(0, .ref (ad (0))), (1, .int (nI (pjo (S.2.1 3) n (a + 1)))), (2, .int (nI (a)))]) hl [0, 1, 2] rfl
              refine lv_iinc (v := nI (a + 1)) (lv' := [(2, .int (nI (a + 1))), (0, .ref (ad (0))), (1, .int (nI (pjo (S.2.1 3) n (a + 1))))]) hx hbc dX5_pairsThatMeet_48 hl (k := 2) rfl (ni_inc _ _) (by decide) rfl (fun ls hl => ?_)
              refine lv_goto (tgt := 4) hx hbc dX5_pairsThatMeet_51 (by decide) ?_
              exact ih_4 (a + 1) _ _ _ (by omega) (by omega) w (lv_sub hl [1, 2, 0] rfl)
            · refine lv_aload_n hx hbc dX5_pairsThatMeet_24 rfl (lv_at hl 0 rfl) ?_
              refine wb_gr (t := 3) hx hbc hg hown w inG_X5 0 (by decide) rfl rfl 2 (by decide) rfl wk_165 dX5_pairsThatMeet_25 ?_
              refine lv_iload_n hx hbc dX5_pairsThatMeet_28 rfl (lv_at hl 2 rfl) ?_
              refine wb_iald (k := a) (v := (S.2.1 3) a) hx hbc w 3 (by decide) rfl 0 rfl rfl (by omega) (by decide) rfl dX5_pairsThatMeet_29 ?_
              refine lv_aload_n hx hbc dX5_pairsThatMeet_30 rfl (lv_at hl 0 rfl) ?_
              refine wb_gr (t := 3) hx hbc hg hown w inG_X5 0 (by decide) rfl rfl 2 (by decide) rfl wk_165 dX5_pairsThatMeet_31 ?_
              refine lv_iload_n hx hbc dX5_pairsThatMeet_34 rfl (lv_at hl 3 rfl) ?_
              refine wb_iald (k := a + 1 + b) (v := (S.2.1 3) (a + 1 + b)) hx hbc w 3 (by decide) rfl 0 rfl rfl (by omega) (by decide) rfl dX5_pairsThatMeet_35 ?_
              refine lv_icmp_ne (tgt := 42) hx hbc dX5_pairsThatMeet_36 (by decide) (fun c_36 => ?_) (fun c_36 => ?_)
              · have hl : lv_has ls 4 [(0, .ref (ad (0))), (1, .int (nI (pjo (S.2.1 3) n a + pjn (S.2.1 3) a (b + 1)))), (2, .int (nI (a))), (3, .int (nI (a + 1 + b)))] := by rw [show pjn (S.2.1 3) a (b + 1) = pjn (S.2.1 3) a b by simp only [pjn]; rw [if_neg c_36]]; exact hl
                refine lv_iinc (v := nI (a + 1 + b + 1)) (lv' := [(3, .int (nI (a + 1 + b + 1))), (0, .ref (ad (0))), (1, .int (nI (pjo (S.2.1 3) n a + pjn (S.2.1 3) a (b + 1)))), (2, .int (nI (a)))]) hx hbc dX5_pairsThatMeet_42 hl (k := 3) rfl (ni_inc _ _) (by decide) rfl (fun ls hl => ?_)
                refine lv_goto (tgt := 16) hx hbc dX5_pairsThatMeet_45 (by decide) ?_
                exact ih_16 (b + 1) _ _ _ (by omega) (by omega) w (lv_sub hl [1, 2, 3, 0] rfl)
              · refine lv_iinc (v := nI (pjo (S.2.1 3) n a + pjn (S.2.1 3) a b + 1)) (lv' := [(1, .int (nI (pjo (S.2.1 3) n a + pjn (S.2.1 3) a b + 1))), (0, .ref (ad (0))), (2, .int (nI (a))), (3, .int (nI (a + 1 + b)))]) hx hbc dX5_pairsThatMeet_39 hl (k := 1) rfl (ni_inc _ _) (by decide) rfl (fun ls hl => ?_)
                have hl : lv_has ls 4 [(1, .int (nI (pjo (S.2.1 3) n a + pjn (S.2.1 3) a (b + 1)))), (0, .ref (ad (0))), (2, .int (nI (a))), (3, .int (nI (a + 1 + b)))] := by rw [show pjn (S.2.1 3) a (b + 1) = pjn (S.2.1 3) a b + 1 by simp only [pjn]; rw [if_pos c_36]]; exact hl
                refine lv_iinc (v := nI (a + 1 + b + 1)) (lv' := [(3, .int (nI (a + 1 + b + 1))), (1, .int (nI (pjo (S.2.1 3) n a + pjn (S.2.1 3) a (b + 1)))), (0, .ref (ad (0))), (2, .int (nI (a)))]) hx hbc dX5_pairsThatMeet_42 hl (k := 3) rfl (ni_inc _ _) (by decide) rfl (fun ls hl => ?_)
                refine lv_goto (tgt := 16) hx hbc dX5_pairsThatMeet_45 (by decide) ?_
                exact ih_16 (b + 1) _ _ _ (by omega) (by omega) w (lv_sub hl [2, 1, 3, 0] rfl)
        exact lp_16 (n + 1) 0 _ _ _ (by omega) (by omega) w (lv_sub hl [1, 2, 3, 0] rfl)
  exact lp_4 (n + 1) 0 _ _ _ (by omega) (by omega) w (lv_sub hl [2, 1, 0] rfl)
set_option maxHeartbeats 4000000 in
set_option maxRecDepth 100000 in
theorem k_due (l : Launch) (D : va_G) (cy : Nat → ClassId) (ad al : Nat → Nat) (S : wS) (n i : Nat) (hn : n ≤ 12) (hi : i < 12) : CtI l yX3_due (Cond.code yX3_due cX3_due 5 (some .int) :: wsG) 0 0 [.int (nI (n)), .int (nI (i))] D (tyM cy) 0 cy ad skSp E0 (S) (fun r _ => r = nI (dueF 4 n i)) := by
  refine CtI_of (by decide) (Nat.le_of_ble_eq_true rfl) ?_
  intro p e s m args below meth c A ls R Q hB hRf hRl hend
  obtain ⟨hx, hbc, hr, hg, hown, hml, hlk, w, hE, hl⟩ := hB
  have hl : lv_has ls 5 [(0, .int (nI (n))), (1, .int (nI (i)))] := hl
  refine lv_iconst (v := nI (0)) hx hbc dX3_due_0 (by decide) ?_
  refine lv_istore_n (lv' := [(2, .int (nI (0))), (0, .int (nI (n))), (1, .int (nI (i)))]) hx hbc dX3_due_1 rfl hl (by decide) rfl (fun ls hl => ?_)
  refine lv_iload_n hx hbc dX3_due_2 rfl (lv_at hl 2 rfl) ?_
  refine lv_istore_n (lv' := [(3, .int (nI (i))), (2, .int (nI (0))), (0, .int (nI (n))), (1, .int (nI (i)))]) hx hbc dX3_due_3 rfl hl (by decide) rfl (fun ls hl => ?_)
  refine lv_iload_n hx hbc dX3_due_4 rfl (lv_at hl 2 rfl) ?_
  refine lv_istore (lv' := [(4, .int (nI (n))), (3, .int (nI (i))), (2, .int (nI (0))), (0, .int (nI (n))), (1, .int (nI (i)))]) hx hbc dX3_due_5 hl (by decide) rfl (fun ls hl => ?_)
  have lp_7 : ∀ (fu : Nat) (u : Nat) (n9 : Nat) (a9 : Nat) (g : Nat) (H : Heap) (locs : List Loc) (ls : Array Slot), (n9 < fu) → (n9 ≤ 12) → (n9 ≤ 2 ^ g) → (a9 < 16) → (u + dueF g n9 a9 = dueF 4 n i) → (u ≤ 100 - n9) → WB D (tyM cy) 0 cy ad skSp A s (S) H locs → lv_has ls 5 [(2, .int (nI (u))), (3, .int (nI (a9))), (4, .int (nI (n9)))] → W p l e R s m args below meth c H locs 0 0 Q (F0 m 7 ls []) := by
    intro fu
    induction fu with
    | zero =>
      intro u n9 a9 g H locs ls h1 h2 h3 h4 h5 h6 w hl
      exact absurd h1 (by omega)
    | succ fu ih_7 =>
      intro u n9 a9 g H locs ls h1 h2 h3 h4 h5 h6 w hl
      refine lv_iload hx hbc dX3_due_7 (lv_at hl 2 rfl) ?_
      refine lv_iconst (v := nI (1)) hx hbc dX3_due_9 (by decide) ?_
      refine n_cmp_le (tgt := 39) (by omega) (by omega) hx hbc dX3_due_10 (by decide) (fun c_10 => ?_) (fun c_10 => ?_)
      · refine lv_iload_n hx hbc dX3_due_39 rfl (lv_at hl 0 rfl) ?_
        exact hend _ _ _ _ _ _ (by rw [← h5, dueF_1 _ _ _ c_10]; rfl) rfl w dX3_due_40
      · obtain ⟨g1, rfl, hg1⟩ := g_pos h3 c_10
        refine lv_iload_n hx hbc dX3_due_13 rfl (lv_at hl 1 rfl) ?_
        refine lv_iconst (v := nI (1)) hx hbc dX3_due_14 (by decide) ?_
        refine lv_ixor hx hbc dX3_due_15 ?_
        refine lv_ri (y := nI (bsd a9)) (xor1 ⟨a9, h4⟩) ?_
        have hbs := bsd_le a9
        refine lv_iload hx hbc dX3_due_16 (lv_at hl 2 rfl) ?_
        refine n_cmp_ge (tgt := 24) (by omega) (by omega) hx hbc dX3_due_18 (by decide) (fun c_18 => ?_) (fun c_18 => ?_)
        · refine lv_iload_n hx hbc dX3_due_24 rfl (lv_at hl 1 rfl) ?_
          refine lv_iconst (v := nI (2)) hx hbc dX3_due_25 (by decide) ?_
          refine n_idiv (by omega) (by omega) (by omega) hx hbc dX3_due_26 ?_
          refine lv_istore_n (lv' := [(3, .int (nI (a9 / 2))), (2, .int (nI (u))), (4, .int (nI (n9)))]) hx hbc dX3_due_27 rfl hl (by decide) rfl (fun ls hl => ?_)
          refine lv_iload hx hbc dX3_due_28 (lv_at hl 2 rfl) ?_
          refine lv_iconst (v := nI (1)) hx hbc dX3_due_30 (by decide) ?_
          refine n_iadd hx hbc dX3_due_31 ?_
          refine lv_iconst (v := nI (2)) hx hbc dX3_due_32 (by decide) ?_
          refine n_idiv (by omega) (by omega) (by omega) hx hbc dX3_due_33 ?_
          refine lv_istore (lv' := [(4, .int (nI ((n9 + 1) / 2))), (3, .int (nI (a9 / 2))), (2, .int (nI (u)))]) hx hbc dX3_due_34 hl (by decide) rfl (fun ls hl => ?_)
          refine lv_goto (tgt := 7) hx hbc dX3_due_36 (by decide) ?_
          exact ih_7 u ((n9 + 1) / 2) (a9 / 2) g1 _ _ _ (by omega) (by omega) hg1 (by omega) (by rw [dueF_s _ _ _ c_10, if_neg (by omega)] at h5; omega) (by omega) w (lv_sub hl [2, 1, 0] rfl)
        · refine lv_iinc (v := nI (u + 1)) (lv' := [(2, .int (nI (u + 1))), (3, .int (nI (a9))), (4, .int (nI (n9)))]) hx hbc dX3_due_21 hl (k := 0) rfl (ni_inc _ _) (by decide) rfl (fun ls hl => ?_)
          refine lv_iload_n hx hbc dX3_due_24 rfl (lv_at hl 1 rfl) ?_
          refine lv_iconst (v := nI (2)) hx hbc dX3_due_25 (by decide) ?_
          refine n_idiv (by omega) (by omega) (by omega) hx hbc dX3_due_26 ?_
          refine lv_istore_n (lv' := [(3, .int (nI (a9 / 2))), (2, .int (nI (u + 1))), (4, .int (nI (n9)))]) hx hbc dX3_due_27 rfl hl (by decide) rfl (fun ls hl => ?_)
          refine lv_iload hx hbc dX3_due_28 (lv_at hl 2 rfl) ?_
          refine lv_iconst (v := nI (1)) hx hbc dX3_due_30 (by decide) ?_
          refine n_iadd hx hbc dX3_due_31 ?_
          refine lv_iconst (v := nI (2)) hx hbc dX3_due_32 (by decide) ?_
          refine n_idiv (by omega) (by omega) (by omega) hx hbc dX3_due_33 ?_
          refine lv_istore (lv' := [(4, .int (nI ((n9 + 1) / 2))), (3, .int (nI (a9 / 2))), (2, .int (nI (u + 1)))]) hx hbc dX3_due_34 hl (by decide) rfl (fun ls hl => ?_)
          refine lv_goto (tgt := 7) hx hbc dX3_due_36 (by decide) ?_
          exact ih_7 (u + 1) ((n9 + 1) / 2) (a9 / 2) g1 _ _ _ (by omega) (by omega) hg1 (by omega) (by rw [dueF_s _ _ _ c_10, if_pos c_18] at h5; omega) (by omega) w (lv_sub hl [2, 1, 0] rfl)
  exact lp_7 (n + 1) 0 n i 4 _ _ _ (by omega) (by omega) (Nat.le_trans hn (by decide)) (by omega) (Nat.zero_add _) (Nat.zero_le _) w (lv_sub hl [2, 1, 0] rfl)
