set_option maxHeartbeats 4000000 in
set_option maxRecDepth 100000 in
theorem k_gather (l : Launch) (D : va_G) (cy : Nat → ClassId) (ad al : Nat → Nat) (S : wS) (n lf : Nat) (f : Nat → Nat → Int32) (hn : n ≤ 12) (hlf : lf < n) (hcn : S.1 2 2 = nI n) (hlv : LvR kC wC0 4 n 0 f (fun a => S.2.1 (9 + a))) : CtV l yX3_gather (Cond.code yX3_gather cX3_gather 7 none :: wsG) 1 26 [.ref (ad (0)), .ref (ad (2)), .int (nI (lf))] D (tyC cy) 33 cy ad skPg (EC al) (S) (fun S' => GP S S' (pvL kC wC0 4 n lf f)) := by
  refine CtV_of (by decide) (Nat.le_of_ble_eq_true rfl) ?_
  intro p e s m args below meth c A ls R Q hB hRf hRl hend
  obtain ⟨hx, hbc, hr, hg, hown, hml, hlk, w, hE, hl⟩ := hB
  have hl : lv_has ls 7 [(0, .ref (ad (0))), (1, .ref (ad (2))), (2, .int (nI (lf)))] := hl
  refine lv_aload_n hx hbc dX3_gather_0 rfl (lv_at hl 0 rfl) ?_
  refine lv_iconst (v := nI (0)) hx hbc dX3_gather_1 (by decide) ?_
  refine wb_pi (v := nI (0)) hx hbc hg hown w inG_X3 tyX3 tyX3_ok nmX3 0 (by decide) rfl rfl 1 (by decide) rfl wk_147 rfl rfl rfl rfl dX3_gather_2 (fun H locs w => ?_)
  refine lv_iconst (v := nI (0)) hx hbc dX3_gather_5 (by decide) ?_
  refine lv_istore_n (lv' := [(3, .int (nI (0))), (0, .ref (ad (0))), (1, .ref (ad (2))), (2, .int (nI (lf)))]) hx hbc dX3_gather_6 rfl hl (by decide) rfl (fun ls hl => ?_)
  refine lv_iload_n hx hbc dX3_gather_7 rfl (lv_at hl 3 rfl) ?_
  refine lv_istore (lv' := [(4, .int (nI (lf))), (3, .int (nI (0))), (0, .ref (ad (0))), (1, .ref (ad (2))), (2, .int (nI (lf)))]) hx hbc dX3_gather_8 hl (by decide) rfl (fun ls hl => ?_)
  refine lv_aload_n hx hbc dX3_gather_10 rfl (lv_at hl 3 rfl) ?_
  refine wb_gi (v := nI (n)) hx hbc hg hown w inG_X6 2 (by decide) rfl rfl 2 (by decide) rfl wk_196 hcn dX3_gather_11 ?_
  refine lv_istore (lv' := [(5, .int (nI (n))), (4, .int (nI (lf))), (3, .int (nI (0))), (0, .ref (ad (0))), (1, .ref (ad (2))), (2, .int (nI (lf)))]) hx hbc dX3_gather_14 hl (by decide) rfl (fun ls hl => ?_)
  have lp_16 : ∀ (fu : Nat) (P : List (Nat → Int32)) (s9 : Nat) (n9 : Nat) (a9 : Nat) (g : Nat) (f9 : Nat → Nat → Int32) (S1 : wS) (H : Heap) (locs : List Loc) (ls : Array Slot), (n9 < fu) → (n9 ≤ 2 ^ g) → (s9 + tot g n9 ≤ 24) → (a9 < n9 ∧ n9 ≤ 12) → (P ++ pvL kC wC0 g n9 a9 f9 = pvL kC wC0 4 n lf f) → (P.length + g ≤ 4) → (LvR kC wC0 g n9 s9 f9 (fun a => S.2.1 (9 + a))) → (GP S S1 P) → WB D (tyC cy) 33 cy ad skPg A s (S1) H locs → lv_has ls 7 [(0, .ref (ad (0))), (1, .ref (ad (2))), (3, .int (nI (s9))), (4, .int (nI (a9))), (5, .int (nI (n9)))] → W p l e R s m args below meth c H locs 0 0 Q (F0 m 16 ls []) := by
    intro fu
    induction fu with
    | zero =>
      intro P s9 n9 a9 g f9 S1 H locs ls h1 h2 h3 h4 h5 h6 h7 h8 w hl
      exact absurd h1 (by omega)
    | succ fu ih_16 =>
      intro P s9 n9 a9 g f9 S1 H locs ls h1 h2 h3 h4 h5 h6 h7 h8 w hl
      refine lv_iload hx hbc dX3_gather_16 (lv_at hl 4 rfl) ?_
      refine lv_iconst (v := nI (1)) hx hbc dX3_gather_18 (by decide) ?_
      refine n_cmp_le (tgt := 92) (by omega) (by omega) hx hbc dX3_gather_19 (by decide) (fun c_19 => ?_) (fun c_19 => ?_)
      · exact hend (S1) _ _ _ _ (by rw [pvL_1 _ _ _ _ _ _ c_19, List.append_nil] at h5; rw [← h5]; exact h8) w dX3_gather_92
      · obtain ⟨g1, rfl, hg1⟩ := g_pos h2 c_19
        refine lv_iload hx hbc dX3_gather_22 (lv_at hl 3 rfl) ?_
        refine lv_iconst (v := nI (1)) hx hbc dX3_gather_24 (by decide) ?_
        refine lv_ixor hx hbc dX3_gather_25 ?_
        refine lv_ri (y := nI (bsd a9)) (xor1 ⟨a9, (by omega)⟩) ?_
        have hbs := bsd_le a9
        have htg := tot_ge (g1 + 1) n9
        refine lv_istore (lv' := [(6, .int (nI (bsd a9))), (0, .ref (ad (0))), (1, .ref (ad (2))), (3, .int (nI (s9))), (4, .int (nI (a9))), (5, .int (nI (n9)))]) hx hbc dX3_gather_26 hl (by decide) rfl (fun ls hl => ?_)
        refine lv_iload hx hbc dX3_gather_28 (lv_at hl 0 rfl) ?_
        refine lv_iload hx hbc dX3_gather_30 (lv_at hl 5 rfl) ?_
        refine n_cmp_ge (tgt := 70) (by omega) (by omega) hx hbc dX3_gather_32 (by decide) (fun c_32 => ?_) (fun c_32 => ?_)
        · refine lv_iload_n hx hbc dX3_gather_70 rfl (lv_at hl 3 rfl) ?_
          refine lv_iload hx hbc dX3_gather_71 (lv_at hl 5 rfl) ?_
          refine n_iadd hx hbc dX3_gather_73 ?_
          refine lv_istore_n (lv' := [(3, .int (nI (s9 + n9))), (6, .int (nI (bsd a9))), (0, .ref (ad (0))), (1, .ref (ad (2))), (4, .int (nI (a9))), (5, .int (nI (n9)))]) hx hbc dX3_gather_74 rfl hl (by decide) rfl (fun ls hl => ?_)
          refine lv_iload hx hbc dX3_gather_75 (lv_at hl 4 rfl) ?_
          refine lv_iconst (v := nI (2)) hx hbc dX3_gather_77 (by decide) ?_
          refine n_idiv (by omega) (by omega) (by omega) hx hbc dX3_gather_78 ?_
          refine lv_istore (lv' := [(4, .int (nI (a9 / 2))), (3, .int (nI (s9 + n9))), (6, .int (nI (bsd a9))), (0, .ref (ad (0))), (1, .ref (ad (2))), (5, .int (nI (n9)))]) hx hbc dX3_gather_79 hl (by decide) rfl (fun ls hl => ?_)
          refine lv_iload hx hbc dX3_gather_81 (lv_at hl 5 rfl) ?_
          refine lv_iconst (v := nI (1)) hx hbc dX3_gather_83 (by decide) ?_
          refine n_iadd hx hbc dX3_gather_84 ?_
          refine lv_iconst (v := nI (2)) hx hbc dX3_gather_85 (by decide) ?_
          refine n_idiv (by omega) (by omega) (by omega) hx hbc dX3_gather_86 ?_
          refine lv_istore (lv' := [(5, .int (nI ((n9 + 1) / 2))), (4, .int (nI (a9 / 2))), (3, .int (nI (s9 + n9))), (6, .int (nI (bsd a9))), (0, .ref (ad (0))), (1, .ref (ad (2)))]) hx hbc dX3_gather_87 hl (by decide) rfl (fun ls hl => ?_)
          refine lv_goto (tgt := 16) hx hbc dX3_gather_89 (by decide) ?_
          exact ih_16 P (s9 + n9) ((n9 + 1) / 2) (a9 / 2) g1 (rsF kC wC0 n9 f9) S1 _ _ _ (by omega) hg1 (by rw [tot_s _ _ c_19] at h3; omega) (by omega) (by rw [← h5, pvL_n _ _ _ _ _ _ c_19 (by omega)]) (by omega) (h7.2 c_19) h8 w (lv_sub hl [4, 5, 2, 1, 0] rfl)
        · have hrw : ∀ j, j < 32 → S1.2.1 (9 + (s9 + bsd a9)) j = sbH (f9 (bsd a9)) j := fun j hj => (congrFun (h8.2.2.2 _ (by omega)) j).trans (h7.row _ c_32 j hj)
          refine lv_aload_n hx hbc dX3_gather_35 rfl (lv_at hl 2 rfl) ?_
          refine wb_gr (t := 4) hx hbc hg hown w inG_X6 2 (by decide) rfl rfl 1 (by decide) rfl wk_193 dX3_gather_36 ?_
          refine lv_iload_n hx hbc dX3_gather_39 rfl (lv_at hl 3 rfl) ?_
          refine lv_iload hx hbc dX3_gather_40 (lv_at hl 0 rfl) ?_
          refine n_iadd hx hbc dX3_gather_42 ?_
          refine wb_aaldA (k := s9 + (bsd a9)) (t := 9 + (s9 + (bsd a9))) hx hbc w 4 (by decide) rfl (by decide) 5 rfl rfl (by omega) (by decide) rfl dX3_gather_43 ?_
          refine lv_iconst (v := nI (0)) hx hbc dX3_gather_44 (by decide) ?_
          refine lv_aload_n hx hbc dX3_gather_45 rfl (lv_at hl 1 rfl) ?_
          refine wb_gr (t := 1) hx hbc hg hown w inG_X3 0 (by decide) rfl rfl 0 (by decide) rfl wk_145 dX3_gather_46 ?_
          refine lv_aload_n hx hbc dX3_gather_49 rfl (lv_at hl 1 rfl) ?_
          refine wb_gi (v := nI (P.length)) hx hbc hg hown w inG_X3 0 (by decide) rfl rfl 1 (by decide) rfl wk_147 h8.1 dX3_gather_50 ?_
          refine wb_aaldA (k := P.length) (t := 5 + P.length) hx hbc w 1 (by decide) rfl (by decide) 5 rfl rfl (by omega) (by decide) (if_pos (by omega)) dX3_gather_53 ?_
          refine lv_iconst (v := nI (0)) hx hbc dX3_gather_54 (by decide) ?_
          refine lv_bipush (v := nI (32)) hx hbc dX3_gather_55 (by decide) ?_
          refine wb_cpi (ty := .byte) (f := S1.2.1 (5 + P.length)) (f0 := S1.2.1 (9 + (s9 + (bsd a9)))) hx hbc (hml.trans hl.1.symm) hg hown wk_426 wk_246 wk_245 wk_10 w (9 + (s9 + (bsd a9))) (by omega) (skPg_r _) (5 + P.length) (by omega) (skPg_b _) (by decide) 1 rfl rfl (by omega) (by omega) (by decide) (by decide) rfl rfl (fun i hi => (by rw [Nat.zero_add, hrw i hi]; exact fits_sbH _ _)) (by rw [hRf]; decide) (by rw [hRl]; exact Nat.le_of_ble_eq_true rfl) dX3_gather_57 (fun H locs w => ?_)
          refine lv_aload_n hx hbc dX3_gather_60 rfl (lv_at hl 1 rfl) ?_
          refine lv_dup hx hbc dX3_gather_61 rfl ?_
          refine wb_gi (v := nI (P.length)) hx hbc hg hown w inG_X3 0 (by decide) rfl rfl 1 (by decide) rfl wk_147 (Eq.trans (by simp only [sI, sB, va_up]; first | rfl | (repeat first | rw [if_pos rfl] | rw [if_neg (by omega)])) h8.1) dX3_gather_62 ?_
          refine lv_iconst (v := nI (1)) hx hbc dX3_gather_65 (by decide) ?_
          refine n_iadd hx hbc dX3_gather_66 ?_
          refine wb_pi (v := nI (P.length + 1)) hx hbc hg hown w inG_X3 tyX3 tyX3_ok nmX3 0 (by decide) rfl rfl 1 (by decide) rfl wk_147 rfl rfl rfl rfl dX3_gather_67 (fun H locs w => ?_)
          refine lv_iload_n hx hbc dX3_gather_70 rfl (lv_at hl 3 rfl) ?_
          refine lv_iload hx hbc dX3_gather_71 (lv_at hl 5 rfl) ?_
          refine n_iadd hx hbc dX3_gather_73 ?_
          refine lv_istore_n (lv' := [(3, .int (nI (s9 + n9))), (6, .int (nI (bsd a9))), (0, .ref (ad (0))), (1, .ref (ad (2))), (4, .int (nI (a9))), (5, .int (nI (n9)))]) hx hbc dX3_gather_74 rfl hl (by decide) rfl (fun ls hl => ?_)
          refine lv_iload hx hbc dX3_gather_75 (lv_at hl 4 rfl) ?_
          refine lv_iconst (v := nI (2)) hx hbc dX3_gather_77 (by decide) ?_
          refine n_idiv (by omega) (by omega) (by omega) hx hbc dX3_gather_78 ?_
          refine lv_istore (lv' := [(4, .int (nI (a9 / 2))), (3, .int (nI (s9 + n9))), (6, .int (nI (bsd a9))), (0, .ref (ad (0))), (1, .ref (ad (2))), (5, .int (nI (n9)))]) hx hbc dX3_gather_79 hl (by decide) rfl (fun ls hl => ?_)
          refine lv_iload hx hbc dX3_gather_81 (lv_at hl 5 rfl) ?_
          refine lv_iconst (v := nI (1)) hx hbc dX3_gather_83 (by decide) ?_
          refine n_iadd hx hbc dX3_gather_84 ?_
          refine lv_iconst (v := nI (2)) hx hbc dX3_gather_85 (by decide) ?_
          refine n_idiv (by omega) (by omega) (by omega) hx hbc dX3_gather_86 ?_
          refine lv_istore (lv' := [(5, .int (nI ((n9 + 1) / 2))), (4, .int (nI (a9 / 2))), (3, .int (nI (s9 + n9))), (6, .int (nI (bsd a9))), (0, .ref (ad (0))), (1, .ref (ad (2)))]) hx hbc dX3_gather_87 hl (by decide) rfl (fun ls hl => ?_)
          refine lv_goto (tgt := 16) hx hbc dX3_gather_89 (by decide) ?_
          exact ih_16 (P ++ [f9 (bsd a9)]) (s9 + n9) ((n9 + 1) / 2) (a9 / 2) g1 (rsF kC wC0 n9 f9) (sI (sB S1 (5 + P.length) (va_cpy (S1.2.1 (9 + (s9 + (bsd a9)))) (S1.2.1 (5 + P.length)) 0 0 32)) 0 1 (nI (P.length + 1))) _ _ _ (by omega) hg1 (by rw [tot_s _ _ c_19] at h3; omega) (by omega) (by rw [← h5, pvL_y _ _ _ _ _ _ c_19 c_32, List.append_assoc]) (by rw [List.length_append]; show P.length + 1 + g1 ≤ 4; omega) (h7.2 c_19) (h8.put (by omega) hrw) w (lv_sub hl [4, 5, 2, 1, 0] rfl)
  exact lp_16 (n + 1) ([]) 0 n lf 4 f (sI S 0 1 (nI (0))) _ _ _ (by omega) (Nat.le_trans hn (by decide)) (by have h9 : tot 4 n ≤ 24 := tot_4 ⟨n, by omega⟩; omega) (by omega) rfl (by decide) hlv ⟨rfl, fun k hk => absurd hk (Nat.not_lt_zero k), fun i hi => (by simp [sI, va_up, hi]), fun _ _ => rfl⟩ w (lv_sub hl [3, 4, 2, 1, 0] rfl)
set_option maxHeartbeats 4000000 in
set_option maxRecDepth 100000 in
theorem k_follow (l : Launch) (D : va_G) (cy : Nat → ClassId) (ad al : Nat → Nat) (S : wS) (n i pv : Nat) (pf : Nat → Nat → Int32) (c0 : Nat → Int32) (hn : n ≤ 12) (hi : i < n) (hpv : pv ≤ 4) (hdu : dueF 4 n i = pv) (hpf : ∀ u, u < pv → ∀ k, k < 32 → S.2.1 (6 + u) k = sbH (pf u) k) (hc0 : ∀ k, k < 32 → S.2.1 5 k = sbH c0 k) : CtV l yX3_follow (Cond.code yX3_follow cX3_follow 9 none :: wsG) 6 145 [.ref (ad (3)), .ref (ad (0)), .int (nI (n)), .int (nI (i)), .ref (ad (5))] D (tyC cy) 10 cy ad skPf (EC al) (S) (fun S' => ∃ c1, ckF kC wC0 pf pv 4 n i 0 c0 = some (pv, c1) ∧ wr1 S S' 5 c1) := by
  refine CtV_of (by decide) (Nat.le_of_ble_eq_true rfl) ?_
  intro p e s m args below meth c A ls R Q hB hRf hRl hend
  obtain ⟨hx, hbc, hr, hg, hown, hml, hlk, w, hE, hl⟩ := hB
  have hl : lv_has ls 9 [(0, .ref (ad (3))), (1, .ref (ad (0))), (2, .int (nI (n))), (3, .int (nI (i))), (4, .ref (ad (5)))] := hl
  refine lv_iconst (v := nI (0)) hx hbc dX3_follow_0 (by decide) ?_
  refine lv_istore (lv' := [(5, .int (nI (0))), (0, .ref (ad (3))), (1, .ref (ad (0))), (2, .int (nI (n))), (3, .int (nI (i))), (4, .ref (ad (5)))]) hx hbc dX3_follow_1 hl (by decide) rfl (fun ls hl => ?_)
  refine lv_iload_n hx hbc dX3_follow_3 rfl (lv_at hl 4 rfl) ?_
  refine lv_istore (lv' := [(6, .int (nI (i))), (5, .int (nI (0))), (0, .ref (ad (3))), (1, .ref (ad (0))), (2, .int (nI (n))), (3, .int (nI (i))), (4, .ref (ad (5)))]) hx hbc dX3_follow_4 hl (by decide) rfl (fun ls hl => ?_)
  refine lv_iload_n hx hbc dX3_follow_6 rfl (lv_at hl 4 rfl) ?_
  refine lv_istore (lv' := [(7, .int (nI (n))), (6, .int (nI (i))), (5, .int (nI (0))), (0, .ref (ad (3))), (1, .ref (ad (0))), (2, .int (nI (n))), (3, .int (nI (i))), (4, .ref (ad (5)))]) hx hbc dX3_follow_7 hl (by decide) rfl (fun ls hl => ?_)
  have lp_9 : ∀ (fu : Nat) (u : Nat) (n9 : Nat) (a9 : Nat) (g : Nat) (c9 : Nat → Int32) (S1 : wS) (H : Heap) (locs : List Loc) (ls : Array Slot), (n9 < fu) → (n9 ≤ 2 ^ g) → (a9 < 16 ∧ n9 ≤ 12) → (ckF kC wC0 pf pv g n9 a9 u c9 = ckF kC wC0 pf pv 4 n i 0 c0) → (u + dueF g n9 a9 = pv) → (wr1 S S1 5 c9) → WB D (tyC cy) 10 cy ad skPf A s (S1) H locs → lv_has ls 9 [(0, .ref (ad (3))), (1, .ref (ad (0))), (4, .ref (ad (5))), (5, .int (nI (u))), (6, .int (nI (a9))), (7, .int (nI (n9)))] → W p l e R s m args below meth c H locs 0 0 Q (F0 m 9 ls []) := by
    intro fu
    induction fu with
    | zero =>
      intro u n9 a9 g c9 S1 H locs ls h1 h2 h4 h5 h6 h8 w hl
      exact absurd h1 (by omega)
    | succ fu ih_9 =>
      intro u n9 a9 g c9 S1 H locs ls h1 h2 h4 h5 h6 h8 w hl
      refine lv_iload hx hbc dX3_follow_9 (lv_at hl 5 rfl) ?_
      refine lv_iconst (v := nI (1)) hx hbc dX3_follow_11 (by decide) ?_
      refine n_cmp_le (tgt := 99) (by omega) (by omega) hx hbc dX3_follow_12 (by decide) (fun c_12 => ?_) (fun c_12 => ?_)
      · exact hend (S1) _ _ _ _ (by rw [ckF_1 _ _ _ _ _ _ _ _ _ c_12] at h5; rw [dueF_1 _ _ _ c_12] at h6; obtain rfl : u = pv := h6; exact ⟨c9, h5.symm, h8⟩) w dX3_follow_99
      · obtain ⟨g1, rfl, hg1⟩ := g_pos h2 c_12
        refine lv_iload hx hbc dX3_follow_15 (lv_at hl 4 rfl) ?_
        refine lv_iconst (v := nI (1)) hx hbc dX3_follow_17 (by decide) ?_
        refine lv_ixor hx hbc dX3_follow_18 ?_
        refine lv_ri (y := nI (bsd a9)) (xor1 ⟨a9, (by omega)⟩) ?_
        have hbs := bsd_le a9
        refine lv_iload hx hbc dX3_follow_19 (lv_at hl 5 rfl) ?_
        refine n_cmp_ge (tgt := 82) (by omega) (by omega) hx hbc dX3_follow_21 (by decide) (fun c_21 => ?_) (fun c_21 => ?_)
        · refine lv_iload hx hbc dX3_follow_82 (lv_at hl 4 rfl) ?_
          refine lv_iconst (v := nI (2)) hx hbc dX3_follow_84 (by decide) ?_
          refine n_idiv (by omega) (by omega) (by omega) hx hbc dX3_follow_85 ?_
          refine lv_istore (lv' := [(6, .int (nI (a9 / 2))), (0, .ref (ad (3))), (1, .ref (ad (0))), (4, .ref (ad (5))), (5, .int (nI (u))), (7, .int (nI (n9)))]) hx hbc dX3_follow_86 hl (by decide) rfl (fun ls hl => ?_)
          refine lv_iload hx hbc dX3_follow_88 (lv_at hl 5 rfl) ?_
          refine lv_iconst (v := nI (1)) hx hbc dX3_follow_90 (by decide) ?_
          refine n_iadd hx hbc dX3_follow_91 ?_
          refine lv_iconst (v := nI (2)) hx hbc dX3_follow_92 (by decide) ?_
          refine n_idiv (by omega) (by omega) (by omega) hx hbc dX3_follow_93 ?_
          refine lv_istore (lv' := [(7, .int (nI ((n9 + 1) / 2))), (6, .int (nI (a9 / 2))), (0, .ref (ad (3))), (1, .ref (ad (0))), (4, .ref (ad (5))), (5, .int (nI (u)))]) hx hbc dX3_follow_94 hl (by decide) rfl (fun ls hl => ?_)
          refine lv_goto (tgt := 9) hx hbc dX3_follow_96 (by decide) ?_
          exact ih_9 u ((n9 + 1) / 2) (a9 / 2) g1 c9 S1 _ _ _ (by omega) hg1 (by omega) (by rw [← h5, ckF_n _ _ _ _ _ _ _ _ _ c_12 (by omega)]) (by rw [dueF_s _ _ _ c_12, if_neg (by omega)] at h6; omega) h8 w (lv_sub hl [2, 3, 4, 5, 1, 0] rfl)
        · have hup : ¬ u = pv := by rw [dueF_s _ _ _ c_12, if_pos c_21] at h6; omega
          have hu4 : u < pv := by rw [dueF_s _ _ _ c_12, if_pos c_21] at h6; omega
          refine lv_iload hx hbc dX3_follow_24 (lv_at hl 4 rfl) ?_
          refine lv_iconst (v := nI (2)) hx hbc dX3_follow_26 (by decide) ?_
          refine n_irem (by omega) (by omega) (by omega) hx hbc dX3_follow_27 ?_
          refine lv_iconst (v := nI (1)) hx hbc dX3_follow_28 (by decide) ?_
          refine n_cmp_ne (tgt := 36) (by omega) (by omega) hx hbc dX3_follow_29 (by decide) (fun c_29 => ?_) (fun c_29 => ?_)
          · refine lv_iconst (v := nI (0)) hx hbc dX3_follow_36 (by decide) ?_
            refine lv_istore (lv' := [(8, .int (nI (0))), (0, .ref (ad (3))), (1, .ref (ad (0))), (4, .ref (ad (5))), (5, .int (nI (u))), (6, .int (nI (a9))), (7, .int (nI (n9)))]) hx hbc dX3_follow_37 hl (by decide) rfl (fun ls hl => ?_)
            refine lv_aload_n hx hbc dX3_follow_39 rfl (lv_at hl 2 rfl) ?_
            refine lv_iload hx hbc dX3_follow_40 (lv_at hl 0 rfl) ?_
            refine lv_if_eq (tgt := 55) hx hbc dX3_follow_42 (by decide) (fun c_42 => ?_) (fun c_42 => ?_)
            · refine lv_aload hx hbc dX3_follow_55 (lv_at hl 3 rfl) ?_
              refine lv_iload hx hbc dX3_follow_57 (lv_at hl 0 rfl) ?_
              refine lv_if_eq (tgt := 67) hx hbc dX3_follow_59 (by decide) (fun c_59 => ?_) (fun c_59 => ?_)
              · refine lv_aload_n hx hbc dX3_follow_67 rfl (lv_at hl 1 rfl) ?_
                refine wb_gr (t := 4) hx hbc hg hown w inG_X3 3 (by decide) rfl rfl 0 (by decide) rfl wk_145 dX3_follow_68 ?_
                refine lv_iload hx hbc dX3_follow_71 (lv_at hl 4 rfl) ?_
                refine wb_aaldA (k := u) (t := 6 + u) hx hbc w 4 (by decide) rfl (by decide) 5 rfl rfl (by omega) (by decide) (if_pos (by omega)) dX3_follow_73 ?_
                refine lv_aload hx hbc dX3_follow_74 (lv_at hl 3 rfl) ?_
                have hli : Lie 10 skPf 5 (skMi 32) (fP (5) (6 + u) 0) (fiP2 (5) (6 + u)) := lie_P2 (by decide) hM_pf (by omega) (by omega) (by omega) rfl (skPf_r _)
                refine wc_SNv (na := 4) (f := (fP (5) (6 + u) 0)) (As := [.ref (ad (0)), .ref (ad (5)), .ref (ad (6 + u)), .ref (ad (5))]) (rest := []) hx hbc hml hg hown w (EC_ok al) hE (w.1.sub (tys' := tyM cy) [0, 1, 2] rfl) hli.A (k_digestPairC l D cy (fun z9 => ad ((fP (5) (6 + u) 0) z9)) al (pul S1 (fP (5) (6 + u) 0))) wk_408 wk_1 (hE.2.2.2.2.2 _ (List.mem_of_getElem? (i := 9) rfl)) wk_407 ⟨by decide, by decide, by decide⟩ ⟨by rw [hRf]; decide, by rw [hRl]; decide⟩ rfl hl.1 rfl (Nat.le_of_ble_eq_true rfl) dX3_follow_76 ⟨Nat.zero_le _, Nat.zero_le _⟩ (fun S9 hp H locs w => ?_)
                have hw9 : wr1 S1 (psh S1 (fiP2 (5) (6 + u)) S9) (5) (prH kC wC0 c9 (pf u)) := (wr1_of hli (fun k hk hk2 => (by rcases (show k = 3 ∨ k = 4 by omega) with rfl | rfl <;> first | exact Nat.le_of_ble_eq_true rfl | (simp only [fP]; omega))) (fun k hk => (by rcases (show k = 0 ∨ k = 1 ∨ k = 2 by omega) with rfl | rfl | rfl <;> rfl)) ⟨by decide, by decide⟩ hp).h (prH_U rfl h8.2 (fun k hk => (congrFun (h8.1 (6 + u) (by omega) (by omega)).2 k).trans (hpf u (by omega) k hk)))
                have w : WB D (tyC cy) 10 cy ad skPf A s (psh S1 (fiP2 (5) (6 + u)) S9) H locs := w _ (hli.T _)
                obtain ⟨S_1, eS_1⟩ : ∃ z, z = psh S1 (fiP2 (5) (6 + u)) S9 := ⟨_, rfl⟩
                rw [← eS_1] at w hw9
                have h9 : wr1 S S_1 5 _ := ⟨fun j hj hj5 => ⟨((hw9.1 j hj hj5).1).trans (h8.1 j hj hj5).1, ((hw9.1 j hj hj5).2).trans (h8.1 j hj hj5).2⟩, hw9.2⟩
                refine lv_iinc (v := nI (u + 1)) (lv' := [(5, .int (nI (u + 1))), (8, .int (nI (0))), (0, .ref (ad (3))), (1, .ref (ad (0))), (4, .ref (ad (5))), (6, .int (nI (a9))), (7, .int (nI (n9)))]) hx hbc dX3_follow_79 hl (k := 4) rfl (ni_inc _ _) (by decide) rfl (fun ls hl => ?_)
                refine lv_iload hx hbc dX3_follow_82 (lv_at hl 5 rfl) ?_
                refine lv_iconst (v := nI (2)) hx hbc dX3_follow_84 (by decide) ?_
                refine n_idiv (by omega) (by omega) (by omega) hx hbc dX3_follow_85 ?_
                refine lv_istore (lv' := [(6, .int (nI (a9 / 2))), (5, .int (nI (u + 1))), (8, .int (nI (0))), (0, .ref (ad (3))), (1, .ref (ad (0))), (4, .ref (ad (5))), (7, .int (nI (n9)))]) hx hbc dX3_follow_86 hl (by decide) rfl (fun ls hl => ?_)
                refine lv_iload hx hbc dX3_follow_88 (lv_at hl 6 rfl) ?_
                refine lv_iconst (v := nI (1)) hx hbc dX3_follow_90 (by decide) ?_
                refine n_iadd hx hbc dX3_follow_91 ?_
                refine lv_iconst (v := nI (2)) hx hbc dX3_follow_92 (by decide) ?_
                refine n_idiv (by omega) (by omega) (by omega) hx hbc dX3_follow_93 ?_
                refine lv_istore (lv' := [(7, .int (nI ((n9 + 1) / 2))), (6, .int (nI (a9 / 2))), (5, .int (nI (u + 1))), (8, .int (nI (0))), (0, .ref (ad (3))), (1, .ref (ad (0))), (4, .ref (ad (5)))]) hx hbc dX3_follow_94 hl (by decide) rfl (fun ls hl => ?_)
                refine lv_goto (tgt := 9) hx hbc dX3_follow_96 (by decide) ?_
                exact ih_9 (u + 1) ((n9 + 1) / 2) (a9 / 2) g1 (prH kC wC0 c9 (pf u)) S_1 _ _ _ (by omega) hg1 (by omega) (by rw [← h5, ckF_y _ _ _ _ _ _ _ _ _ c_12 c_21 hup, if_pos (by omega)]) (by rw [dueF_s _ _ _ c_12, if_pos c_21] at h6; omega) h9 w (lv_sub hl [4, 5, 6, 2, 1, 0] rfl)
              · exact absurd c_59 (by decide)
            · exact absurd c_42 (by decide)
          · refine lv_iconst (v := nI (1)) hx hbc dX3_follow_32 (by decide) ?_
            refine lv_goto (tgt := 37) hx hbc dX3_follow_33 (by decide) ?_
            refine lv_istore (lv' := [(8, .int (nI (1))), (0, .ref (ad (3))), (1, .ref (ad (0))), (4, .ref (ad (5))), (5, .int (nI (u))), (6, .int (nI (a9))), (7, .int (nI (n9)))]) hx hbc dX3_follow_37 hl (by decide) rfl (fun ls hl => ?_)
            refine lv_aload_n hx hbc dX3_follow_39 rfl (lv_at hl 2 rfl) ?_
            refine lv_iload hx hbc dX3_follow_40 (lv_at hl 0 rfl) ?_
            refine lv_if_eq (tgt := 55) hx hbc dX3_follow_42 (by decide) (fun c_42 => ?_) (fun c_42 => ?_)
            · exact absurd c_42 (by decide)
            · refine lv_aload_n hx hbc dX3_follow_45 rfl (lv_at hl 1 rfl) ?_
              refine wb_gr (t := 4) hx hbc hg hown w inG_X3 3 (by decide) rfl rfl 0 (by decide) rfl wk_145 dX3_follow_46 ?_
              refine lv_iload hx hbc dX3_follow_49 (lv_at hl 4 rfl) ?_
              refine wb_aaldA (k := u) (t := 6 + u) hx hbc w 4 (by decide) rfl (by decide) 5 rfl rfl (by omega) (by decide) (if_pos (by omega)) dX3_follow_51 ?_
              refine lv_goto (tgt := 57) hx hbc dX3_follow_52 (by decide) ?_
              refine lv_iload hx hbc dX3_follow_57 (lv_at hl 0 rfl) ?_
              refine lv_if_eq (tgt := 67) hx hbc dX3_follow_59 (by decide) (fun c_59 => ?_) (fun c_59 => ?_)
              · exact absurd c_59 (by decide)
              · refine lv_aload hx hbc dX3_follow_62 (lv_at hl 3 rfl) ?_
                refine lv_goto (tgt := 74) hx hbc dX3_follow_64 (by decide) ?_
                refine lv_aload hx hbc dX3_follow_74 (lv_at hl 3 rfl) ?_
                have hli : Lie 10 skPf 5 (skMi 32) (fP (6 + u) (5) 0) (fiP2 (6 + u) (5)) := lie_P2 (by decide) hM_pf (by omega) (by omega) (by omega) (skPf_r _) rfl
                refine wc_SNv (na := 4) (f := (fP (6 + u) (5) 0)) (As := [.ref (ad (0)), .ref (ad (6 + u)), .ref (ad (5)), .ref (ad (5))]) (rest := []) hx hbc hml hg hown w (EC_ok al) hE (w.1.sub (tys' := tyM cy) [0, 1, 2] rfl) hli.A (k_digestPairB l D cy (fun z9 => ad ((fP (6 + u) (5) 0) z9)) al (pul S1 (fP (6 + u) (5) 0))) wk_408 wk_1 (hE.2.2.2.2.2 _ (List.mem_of_getElem? (i := 9) rfl)) wk_407 ⟨by decide, by decide, by decide⟩ ⟨by rw [hRf]; decide, by rw [hRl]; decide⟩ rfl hl.1 rfl (Nat.le_of_ble_eq_true rfl) dX3_follow_76 ⟨Nat.zero_le _, Nat.zero_le _⟩ (fun S9 hp H locs w => ?_)
                have hw9 : wr1 S1 (psh S1 (fiP2 (6 + u) (5)) S9) (5) (prH kC wC0 (pf u) c9) := (wr1_of hli (fun k hk hk2 => (by rcases (show k = 3 ∨ k = 4 by omega) with rfl | rfl <;> first | exact Nat.le_of_ble_eq_true rfl | (simp only [fP]; omega))) (fun k hk => (by rcases (show k = 0 ∨ k = 1 ∨ k = 2 by omega) with rfl | rfl | rfl <;> rfl)) ⟨by decide, by decide⟩ hp).h (prH_U rfl (fun k hk => (congrFun (h8.1 (6 + u) (by omega) (by omega)).2 k).trans (hpf u (by omega) k hk)) h8.2)
                have w : WB D (tyC cy) 10 cy ad skPf A s (psh S1 (fiP2 (6 + u) (5)) S9) H locs := w _ (hli.T _)
                obtain ⟨S_2, eS_2⟩ : ∃ z, z = psh S1 (fiP2 (6 + u) (5)) S9 := ⟨_, rfl⟩
                rw [← eS_2] at w hw9
                have h9 : wr1 S S_2 5 _ := ⟨fun j hj hj5 => ⟨((hw9.1 j hj hj5).1).trans (h8.1 j hj hj5).1, ((hw9.1 j hj hj5).2).trans (h8.1 j hj hj5).2⟩, hw9.2⟩
                refine lv_iinc (v := nI (u + 1)) (lv' := [(5, .int (nI (u + 1))), (8, .int (nI (1))), (0, .ref (ad (3))), (1, .ref (ad (0))), (4, .ref (ad (5))), (6, .int (nI (a9))), (7, .int (nI (n9)))]) hx hbc dX3_follow_79 hl (k := 4) rfl (ni_inc _ _) (by decide) rfl (fun ls hl => ?_)
                refine lv_iload hx hbc dX3_follow_82 (lv_at hl 5 rfl) ?_
                refine lv_iconst (v := nI (2)) hx hbc dX3_follow_84 (by decide) ?_
                refine n_idiv (by omega) (by omega) (by omega) hx hbc dX3_follow_85 ?_
                refine lv_istore (lv' := [(6, .int (nI (a9 / 2))), (5, .int (nI (u + 1))), (8, .int (nI (1))), (0, .ref (ad (3))), (1, .ref (ad (0))), (4, .ref (ad (5))), (7, .int (nI (n9)))]) hx hbc dX3_follow_86 hl (by decide) rfl (fun ls hl => ?_)
                refine lv_iload hx hbc dX3_follow_88 (lv_at hl 6 rfl) ?_
                refine lv_iconst (v := nI (1)) hx hbc dX3_follow_90 (by decide) ?_
                refine n_iadd hx hbc dX3_follow_91 ?_
                refine lv_iconst (v := nI (2)) hx hbc dX3_follow_92 (by decide) ?_
                refine n_idiv (by omega) (by omega) (by omega) hx hbc dX3_follow_93 ?_
                refine lv_istore (lv' := [(7, .int (nI ((n9 + 1) / 2))), (6, .int (nI (a9 / 2))), (5, .int (nI (u + 1))), (8, .int (nI (1))), (0, .ref (ad (3))), (1, .ref (ad (0))), (4, .ref (ad (5)))]) hx hbc dX3_follow_94 hl (by decide) rfl (fun ls hl => ?_)
                refine lv_goto (tgt := 9) hx hbc dX3_follow_96 (by decide) ?_
                exact ih_9 (u + 1) ((n9 + 1) / 2) (a9 / 2) g1 (prH kC wC0 (pf u) c9) S_2 _ _ _ (by omega) hg1 (by omega) (by rw [← h5, ckF_y _ _ _ _ _ _ _ _ _ c_12 c_21 hup, if_neg (by omega)]) (by rw [dueF_s _ _ _ c_12, if_pos c_21] at h6; omega) h9 w (lv_sub hl [4, 5, 6, 2, 1, 0] rfl)
  exact lp_9 (n + 1) 0 n i 4 c0 S _ _ _ (by omega) (Nat.le_trans hn (by decide)) (by omega) rfl (by omega) ⟨fun _ _ _ => ⟨rfl, rfl⟩, hc0⟩ w (lv_sub hl [3, 4, 7, 2, 1, 0] rfl)
