set_option maxHeartbeats 4000000 in
set_option maxRecDepth 100000 in
theorem k_climb0 (l : Launch) (D : va_G) (cy : Nat → ClassId) (ad al : Nat → Nat) (S : wS) (hcn : S.1 3 2 = nI 0) : CtR l yX6_climb (Cond.code yX6_climb cX6_climb 6 (some (.array .byte)) :: wsG) 1 23 [.ref (ad (3)), .ref (ad (0))] D (tyC cy) 30 cy ad skTc (EC al) (S) (fun r S' => r = 6 + 0 ∧ S' = sB S (6 + 0) (cps (S.2.1 (6 + 0)) (fun _ => (nI (0)).toInt8.toInt32) 32)) := by
  refine CtR_of (by decide) (Nat.le_of_ble_eq_true rfl) ?_
  intro p e s m args below meth c A ls R Q hB hRf hRl hend
  obtain ⟨hx, hbc, hr, hg, hown, hml, hlk, w, hE, hl⟩ := hB
  have hl : lv_has ls 6 [(0, .ref (ad (3))), (1, .ref (ad (0)))] := hl
  refine lv_aload_n hx hbc dX6_climb_0 rfl (lv_at hl 0 rfl) ?_
  refine wb_gi (v := nI (0)) hx hbc hg hown w inG_X6 3 (by decide) rfl rfl 2 (by decide) rfl wk_195 hcn dX6_climb_1 ?_
  refine lv_if_ne (tgt := 24) hx hbc dX6_climb_4 (by decide) (fun c_4 => ?_) (fun c_4 => ?_)
  · exact absurd c_4 (by decide)
  · refine lv_aload_n hx hbc dX6_climb_7 rfl (lv_at hl 0 rfl) ?_
    refine wb_gr (t := 5) hx hbc hg hown w inG_X6 3 (by decide) rfl rfl 1 (by decide) rfl wk_192 dX6_climb_8 ?_
    refine lv_iconst (v := nI (0)) hx hbc dX6_climb_11 (by decide) ?_
    refine wb_aaldA (k := 0) (t := 6 + 0) hx hbc w 5 (by decide) rfl (by decide) 5 rfl rfl (by omega) (by decide) rfl dX6_climb_12 ?_
    refine lv_iconst (v := nI (0)) hx hbc dX6_climb_13 (by decide) ?_
    refine wc_Sv (na := 2) (f := (fun z9 => z9 + (6 + 0))) (As := [.ref (ad (6 + 0)), .int (nI (0))]) (rest := []) hx hbc hml hg hown w (EC_ok al) hE (w.1.sub (tys' := tyM cy) [0, 1, 2] rfl) (one_A (by decide) (skTc_r _) (by decide) rfl) (k_fill l D cy (fun z9 => ad (z9 + (6 + 0))) al (shS S (6 + 0)) (nI (0)) 32 (by decide)) wk_268 wk_11 wk_405 wk_267 ⟨by decide, by decide, by decide⟩ ⟨by rw [hRf]; decide, by rw [hRl]; decide⟩ rfl hl.1 rfl (Nat.le_of_ble_eq_true rfl) dX6_climb_14 ⟨Nat.zero_le _, Nat.zero_le _⟩ (fun S9 hp H locs w => ?_)
    subst hp
    have w : WB D (tyC cy) 30 cy ad skTc A s (sB S (6 + 0) (cps (S.2.1 (6 + 0)) (fun _ => (nI (0)).toInt8.toInt32) 32)) H locs := w _ (one_T (skTc_r _) (by decide) rfl _)
    refine lv_aload_n hx hbc dX6_climb_17 rfl (lv_at hl 0 rfl) ?_
    refine wb_gr (t := 5) hx hbc hg hown w inG_X6 3 (by decide) rfl rfl 1 (by decide) rfl wk_192 dX6_climb_18 ?_
    refine lv_iconst (v := nI (0)) hx hbc dX6_climb_21 (by decide) ?_
    refine wb_aaldA (k := 0) (t := 6 + 0) hx hbc w 5 (by decide) rfl (by decide) 5 rfl rfl (by omega) (by decide) rfl dX6_climb_22 ?_
    exact hend (6 + 0) _ _ _ _ _ ⟨rfl, rfl⟩ w dX6_climb_23
set_option maxHeartbeats 4000000 in
set_option maxRecDepth 100000 in
theorem k_climb (l : Launch) (D : va_G) (cy : Nat → ClassId) (ad al : Nat → Nat) (S : wS) (n : Nat) (f : Nat → Nat → Int32) (hn : n ≤ 12) (hn1 : 1 ≤ n) (hcn : S.1 3 2 = nI n) (hlf : ∀ a, a < n → ∀ k, k < 32 → S.2.1 (6 + a) k = sbH (f a) k) : CtR l yX6_climb (Cond.code yX6_climb cX6_climb 6 (some (.array .byte)) :: wsG) 6 145 [.ref (ad (3)), .ref (ad (0))] D (tyC cy) 30 cy ad skTc (EC al) (S) (fun r S' => ∃ s9, s9 < 24 ∧ r = 6 + s9 ∧ cT S S' n ∧ (∀ k, k < 32 → S'.2.1 (6 + s9) k = sbH (topF kC wC0 4 n f) k) ∧ LvR kC wC0 4 n 0 f (fun a => S'.2.1 (6 + a))) := by
  refine CtR_of (by decide) (Nat.le_of_ble_eq_true rfl) ?_
  intro p e s m args below meth c A ls R Q hB hRf hRl hend
  obtain ⟨hx, hbc, hr, hg, hown, hml, hlk, w, hE, hl⟩ := hB
  have hl : lv_has ls 6 [(0, .ref (ad (3))), (1, .ref (ad (0)))] := hl
  refine lv_aload_n hx hbc dX6_climb_0 rfl (lv_at hl 0 rfl) ?_
  refine wb_gi (v := nI (n)) hx hbc hg hown w inG_X6 3 (by decide) rfl rfl 2 (by decide) rfl wk_195 hcn dX6_climb_1 ?_
  refine lv_if_ne (tgt := 24) hx hbc dX6_climb_4 (by decide) (fun c_4 => ?_) (fun c_4 => ?_)
  · refine lv_iconst (v := nI (0)) hx hbc dX6_climb_24 (by decide) ?_
    refine lv_istore_n (lv' := [(2, .int (nI (0))), (0, .ref (ad (3))), (1, .ref (ad (0)))]) hx hbc dX6_climb_25 rfl hl (by decide) rfl (fun ls hl => ?_)
    refine lv_aload_n hx hbc dX6_climb_26 rfl (lv_at hl 1 rfl) ?_
    refine wb_gi (v := nI (n)) hx hbc hg hown w inG_X6 3 (by decide) rfl rfl 2 (by decide) rfl wk_195 hcn dX6_climb_27 ?_
    refine lv_istore_n (lv' := [(3, .int (nI (n))), (2, .int (nI (0))), (0, .ref (ad (3))), (1, .ref (ad (0)))]) hx hbc dX6_climb_30 rfl hl (by decide) rfl (fun ls hl => ?_)
    have lp_31 : ∀ (fu : Nat) (s9 : Nat) (n9 : Nat) (g : Nat) (f9 : Nat → Nat → Int32) (S1 : wS) (H : Heap) (locs : List Loc) (ls : Array Slot), (n9 < fu) → (n9 ≤ 2 ^ g) → (s9 + tot g n9 ≤ 24) → (1 ≤ n9 ∧ n9 ≤ 12 ∧ n ≤ s9 + n9) → (∀ R : Nat → Nat → Int32, (∀ a, a < s9 + n9 → ∀ k, k < 32 → R a k = S1.2.1 (6 + a) k) → LvR kC wC0 g n9 s9 f9 R → LvR kC wC0 4 n 0 f R) → (∀ a, a < n9 → ∀ k, k < 32 → S1.2.1 (6 + (s9 + a)) k = sbH (f9 a) k) → (topF kC wC0 g n9 f9 = topF kC wC0 4 n f) → (cT S S1 n) → WB D (tyC cy) 30 cy ad skTc A s (S1) H locs → lv_has ls 6 [(0, .ref (ad (3))), (1, .ref (ad (0))), (2, .int (nI (s9))), (3, .int (nI (n9)))] → W p l e R s m args below meth c H locs 0 0 Q (F0 m 31 ls []) := by
      intro fu
      induction fu with
      | zero =>
        intro s9 n9 g f9 S1 H locs ls h1 h2 h3 h0 h4 h5 h6 h7 w hl
        exact absurd h1 (by omega)
      | succ fu ih_31 =>
        intro s9 n9 g f9 S1 H locs ls h1 h2 h3 h0 h4 h5 h6 h7 w hl
        refine lv_iload_n hx hbc dX6_climb_31 rfl (lv_at hl 3 rfl) ?_
        refine lv_iconst (v := nI (1)) hx hbc dX6_climb_32 (by decide) ?_
        refine n_cmp_le (tgt := 140) (by omega) (by omega) hx hbc dX6_climb_33 (by decide) (fun c_33 => ?_) (fun c_33 => ?_)
        · have htg0 := tot_ge g n9
          refine lv_aload_n hx hbc dX6_climb_140 rfl (lv_at hl 0 rfl) ?_
          refine wb_gr (t := 5) hx hbc hg hown w inG_X6 3 (by decide) rfl rfl 1 (by decide) rfl wk_192 dX6_climb_141 ?_
          refine lv_iload_n hx hbc dX6_climb_144 rfl (lv_at hl 2 rfl) ?_
          refine wb_aaldA (k := s9) (t := 6 + s9) hx hbc w 5 (by decide) rfl (by decide) 5 rfl rfl (by omega) (by decide) rfl dX6_climb_145 ?_
          exact hend (6 + s9) (S1) _ _ _ _ ⟨s9, (by have := tot_ge g n9; omega), rfl, h7, (fun k hk => (by rw [← h6, topF_1 _ _ _ _ _ c_33]; exact h5 0 (by omega) k hk)), h4 _ (fun _ _ _ _ => rfl) (LvR.last c_33 h5)⟩ w dX6_climb_146
        · obtain ⟨g1, rfl, hg1⟩ := g_pos h2 c_33
          refine lv_iload_n hx hbc dX6_climb_36 rfl (lv_at hl 2 rfl) ?_
          refine lv_iload_n hx hbc dX6_climb_37 rfl (lv_at hl 3 rfl) ?_
          refine n_iadd hx hbc dX6_climb_38 ?_
          refine lv_istore (lv' := [(4, .int (nI (s9 + n9))), (0, .ref (ad (3))), (1, .ref (ad (0))), (2, .int (nI (s9))), (3, .int (nI (n9)))]) hx hbc dX6_climb_39 hl (by decide) rfl (fun ls hl => ?_)
          refine lv_iconst (v := nI (0)) hx hbc dX6_climb_41 (by decide) ?_
          refine lv_istore (lv' := [(5, .int (nI (0))), (4, .int (nI (s9 + n9))), (0, .ref (ad (3))), (1, .ref (ad (0))), (2, .int (nI (s9))), (3, .int (nI (n9)))]) hx hbc dX6_climb_42 hl (by decide) rfl (fun ls hl => ?_)
          have htg : n9 + (n9 + 1) / 2 ≤ tot (g1 + 1) n9 := by rw [tot_s _ _ c_33]; have := tot_ge g1 ((n9 + 1) / 2); omega
          have lp_44 : ∀ (fu : Nat) (p9 : Nat) (S2 : wS) (H : Heap) (locs : List Loc) (ls : Array Slot), (n9 < p9 + fu) → (2 * p9 ≤ n9) → (up1 S1 S2 (s9 + n9) p9 (rsF kC wC0 n9 f9)) → WB D (tyC cy) 30 cy ad skTc A s (S2) H locs → lv_has ls 6 [(0, .ref (ad (3))), (1, .ref (ad (0))), (2, .int (nI (s9))), (3, .int (nI (n9))), (4, .int (nI (s9 + n9))), (5, .int (nI (2 * p9)))] → W p l e R s m args below meth c H locs 0 0 Q (F0 m 44 ls []) := by
            intro fu
            induction fu with
            | zero =>
              intro p9 S2 H locs ls k1 k2 k6 w hl
              exact absurd k1 (by omega)
            | succ fu ih_44 =>
              intro p9 S2 H locs ls k1 k2 k6 w hl
              refine lv_iload hx hbc dX6_climb_44 (lv_at hl 5 rfl) ?_
              refine lv_iconst (v := nI (1)) hx hbc dX6_climb_46 (by decide) ?_
              refine n_iadd hx hbc dX6_climb_47 ?_
              refine lv_iload_n hx hbc dX6_climb_48 rfl (lv_at hl 3 rfl) ?_
              refine n_cmp_ge (tgt := 94) (by omega) (by omega) hx hbc dX6_climb_49 (by decide) (fun c_49 => ?_) (fun c_49 => ?_)
              · refine lv_iload_n hx hbc dX6_climb_94 rfl (lv_at hl 3 rfl) ?_
                refine lv_iconst (v := nI (2)) hx hbc dX6_climb_95 (by decide) ?_
                refine n_irem (by omega) (by omega) (by omega) hx hbc dX6_climb_96 ?_
                refine lv_iconst (v := nI (1)) hx hbc dX6_climb_97 (by decide) ?_
                refine n_cmp_ne (tgt := 128) (by omega) (by omega) hx hbc dX6_climb_98 (by decide) (fun c_98 => ?_) (fun c_98 => ?_)
                · refine lv_iload hx hbc dX6_climb_128 (lv_at hl 4 rfl) ?_
                  refine lv_istore_n (lv' := [(2, .int (nI (s9 + n9))), (0, .ref (ad (3))), (1, .ref (ad (0))), (3, .int (nI (n9))), (4, .int (nI (s9 + n9))), (5, .int (nI (2 * p9)))]) hx hbc dX6_climb_130 rfl hl (by decide) rfl (fun ls hl => ?_)
                  refine lv_iload_n hx hbc dX6_climb_131 rfl (lv_at hl 3 rfl) ?_
                  refine lv_iconst (v := nI (1)) hx hbc dX6_climb_132 (by decide) ?_
                  refine n_iadd hx hbc dX6_climb_133 ?_
                  refine lv_iconst (v := nI (2)) hx hbc dX6_climb_134 (by decide) ?_
                  refine n_idiv (by omega) (by omega) (by omega) hx hbc dX6_climb_135 ?_
                  refine lv_istore_n (lv' := [(3, .int (nI ((n9 + 1) / 2))), (2, .int (nI (s9 + n9))), (0, .ref (ad (3))), (1, .ref (ad (0))), (4, .int (nI (s9 + n9))), (5, .int (nI (2 * p9)))]) hx hbc dX6_climb_136 rfl hl (by decide) rfl (fun ls hl => ?_)
                  refine lv_goto (tgt := 31) hx hbc dX6_climb_137 (by decide) ?_
                  have hU : up1 S1 (S2) (s9 + n9) ((n9 + 1) / 2) (rsF kC wC0 n9 f9) := (show up1 S1 S2 (s9 + n9) ((n9 + 1) / 2) (rsF kC wC0 n9 f9) by rw [show (n9 + 1) / 2 = p9 by omega]; exact k6)
                  exact ih_31 (s9 + n9) ((n9 + 1) / 2) g1 (rsF kC wC0 n9 f9) S2 _ _ _ (by omega) hg1 (by rw [tot_s _ _ c_33] at h3; omega) (by omega) (climb_up c_33 h4 h5 hU) hU.2 (by rw [← h6, topF_s _ _ _ _ _ c_33]) (h7.up hU h0.2.2) w (lv_sub hl [2, 3, 1, 0] rfl)
                · have hrw : ∀ k, k < 32 → S2.2.1 (6 + (s9 + n9 - 1)) k = sbH (rsF kC wC0 n9 f9 p9) k := fun k hk => ((congrFun (k6.1 (6 + (s9 + n9 - 1)) (by omega) (by omega)).2 k).trans ((congrArg (fun z => S1.2.1 (6 + z) k) (show s9 + n9 - 1 = s9 + (n9 - 1) by omega)).trans (h5 (n9 - 1) (by omega) k hk))).trans (sbH_cg (fun j _ => (by rw [rsF, if_neg (by omega)])) k hk)
                  refine lv_aload_n hx hbc dX6_climb_101 rfl (lv_at hl 0 rfl) ?_
                  refine wb_gr (t := 5) hx hbc hg hown w inG_X6 3 (by decide) rfl rfl 1 (by decide) rfl wk_192 dX6_climb_102 ?_
                  refine lv_iload hx hbc dX6_climb_105 (lv_at hl 4 rfl) ?_
                  refine lv_iconst (v := nI (1)) hx hbc dX6_climb_107 (by decide) ?_
                  refine n_isub (by omega) hx hbc dX6_climb_108 ?_
                  refine wb_aaldA (k := (s9 + n9) - 1) (t := 6 + ((s9 + n9) - 1)) hx hbc w 5 (by decide) rfl (by decide) 5 rfl rfl (by omega) (by decide) rfl dX6_climb_109 ?_
                  refine lv_iconst (v := nI (0)) hx hbc dX6_climb_110 (by decide) ?_
                  refine lv_aload_n hx hbc dX6_climb_111 rfl (lv_at hl 0 rfl) ?_
                  refine wb_gr (t := 5) hx hbc hg hown w inG_X6 3 (by decide) rfl rfl 1 (by decide) rfl wk_192 dX6_climb_112 ?_
                  refine lv_iload hx hbc dX6_climb_115 (lv_at hl 4 rfl) ?_
                  refine lv_iload_n hx hbc dX6_climb_117 rfl (lv_at hl 3 rfl) ?_
                  refine lv_iconst (v := nI (2)) hx hbc dX6_climb_118 (by decide) ?_
                  refine n_idiv (by omega) (by omega) (by omega) hx hbc dX6_climb_119 ?_
                  refine n_iadd hx hbc dX6_climb_120 ?_
                  refine wb_aaldA (k := s9 + n9 + p9) (t := 6 + (s9 + n9 + p9)) hx hbc w 5 (by decide) rfl (by decide) 5 rfl (congrArg nI (by omega)) (by omega) (by decide) rfl dX6_climb_121 ?_
                  refine lv_iconst (v := nI (0)) hx hbc dX6_climb_122 (by decide) ?_
                  refine lv_bipush (v := nI (32)) hx hbc dX6_climb_123 (by decide) ?_
                  refine wb_cpi (ty := .byte) (f := S2.2.1 (6 + (s9 + n9 + p9))) (f0 := S2.2.1 (6 + ((s9 + n9) - 1))) hx hbc (hml.trans hl.1.symm) hg hown wk_409 wk_246 wk_245 wk_10 w (6 + ((s9 + n9) - 1)) (by omega) (skTc_r _) (6 + (s9 + n9 + p9)) (by omega) (skTc_r _) (by decide) 1 rfl rfl (by omega) (by omega) (by decide) (by decide) rfl rfl (fun i hi => (by rw [Nat.zero_add, hrw i hi]; exact fits_sbH _ _)) (by rw [hRf]; decide) (by rw [hRl]; exact Nat.le_of_ble_eq_true rfl) dX6_climb_125 (fun H locs w => ?_)
                  have hu9 : up1 S1 (sB S2 (6 + (s9 + n9 + p9)) (va_cpy (S2.2.1 (6 + ((s9 + n9) - 1))) (S2.2.1 (6 + (s9 + n9 + p9))) 0 0 32)) (s9 + n9) ((n9 + 1) / 2) (rsF kC wC0 n9 f9) := by rw [show (n9 + 1) / 2 = p9 + 1 by omega]; exact k6.cp (s9 + n9 - 1) hrw
                  refine lv_iload hx hbc dX6_climb_128 (lv_at hl 4 rfl) ?_
                  refine lv_istore_n (lv' := [(2, .int (nI (s9 + n9))), (0, .ref (ad (3))), (1, .ref (ad (0))), (3, .int (nI (n9))), (4, .int (nI (s9 + n9))), (5, .int (nI (2 * p9)))]) hx hbc dX6_climb_130 rfl hl (by decide) rfl (fun ls hl => ?_)
                  refine lv_iload_n hx hbc dX6_climb_131 rfl (lv_at hl 3 rfl) ?_
                  refine lv_iconst (v := nI (1)) hx hbc dX6_climb_132 (by decide) ?_
                  refine n_iadd hx hbc dX6_climb_133 ?_
                  refine lv_iconst (v := nI (2)) hx hbc dX6_climb_134 (by decide) ?_
                  refine n_idiv (by omega) (by omega) (by omega) hx hbc dX6_climb_135 ?_
                  refine lv_istore_n (lv' := [(3, .int (nI ((n9 + 1) / 2))), (2, .int (nI (s9 + n9))), (0, .ref (ad (3))), (1, .ref (ad (0))), (4, .int (nI (s9 + n9))), (5, .int (nI (2 * p9)))]) hx hbc dX6_climb_136 rfl hl (by decide) rfl (fun ls hl => ?_)
                  refine lv_goto (tgt := 31) hx hbc dX6_climb_137 (by decide) ?_
                  have hU : up1 S1 (sB S2 (6 + (s9 + n9 + p9)) (va_cpy (S2.2.1 (6 + ((s9 + n9) - 1))) (S2.2.1 (6 + (s9 + n9 + p9))) 0 0 32)) (s9 + n9) ((n9 + 1) / 2) (rsF kC wC0 n9 f9) := hu9
                  exact ih_31 (s9 + n9) ((n9 + 1) / 2) g1 (rsF kC wC0 n9 f9) (sB S2 (6 + (s9 + n9 + p9)) (va_cpy (S2.2.1 (6 + ((s9 + n9) - 1))) (S2.2.1 (6 + (s9 + n9 + p9))) 0 0 32)) _ _ _ (by omega) hg1 (by rw [tot_s _ _ c_33] at h3; omega) (by omega) (climb_up c_33 h4 h5 hU) hU.2 (by rw [← h6, topF_s _ _ _ _ _ c_33]) (h7.up hU h0.2.2) w (lv_sub hl [2, 3, 1, 0] rfl)
              · refine lv_aload_n hx hbc dX6_climb_52 rfl (lv_at hl 1 rfl) ?_
                refine lv_aload_n hx hbc dX6_climb_53 rfl (lv_at hl 0 rfl) ?_
                refine wb_gr (t := 5) hx hbc hg hown w inG_X6 3 (by decide) rfl rfl 1 (by decide) rfl wk_192 dX6_climb_54 ?_
                refine lv_iload_n hx hbc dX6_climb_57 rfl (lv_at hl 2 rfl) ?_
                refine lv_iload hx hbc dX6_climb_58 (lv_at hl 5 rfl) ?_
                refine n_iadd hx hbc dX6_climb_60 ?_
                refine wb_aaldA (k := s9 + (2 * p9)) (t := 6 + (s9 + (2 * p9))) hx hbc w 5 (by decide) rfl (by decide) 5 rfl rfl (by omega) (by decide) rfl dX6_climb_61 ?_
                refine lv_aload_n hx hbc dX6_climb_62 rfl (lv_at hl 0 rfl) ?_
                refine wb_gr (t := 5) hx hbc hg hown w inG_X6 3 (by decide) rfl rfl 1 (by decide) rfl wk_192 dX6_climb_63 ?_
                refine lv_iload_n hx hbc dX6_climb_66 rfl (lv_at hl 2 rfl) ?_
                refine lv_iload hx hbc dX6_climb_67 (lv_at hl 5 rfl) ?_
                refine n_iadd hx hbc dX6_climb_69 ?_
                refine lv_iconst (v := nI (1)) hx hbc dX6_climb_70 (by decide) ?_
                refine n_iadd hx hbc dX6_climb_71 ?_
                refine wb_aaldA (k := (s9 + (2 * p9)) + 1) (t := 6 + ((s9 + (2 * p9)) + 1)) hx hbc w 5 (by decide) rfl (by decide) 5 rfl rfl (by omega) (by decide) rfl dX6_climb_72 ?_
                refine lv_aload_n hx hbc dX6_climb_73 rfl (lv_at hl 0 rfl) ?_
                refine wb_gr (t := 5) hx hbc hg hown w inG_X6 3 (by decide) rfl rfl 1 (by decide) rfl wk_192 dX6_climb_74 ?_
                refine lv_iload hx hbc dX6_climb_77 (lv_at hl 4 rfl) ?_
                refine lv_iload hx hbc dX6_climb_79 (lv_at hl 5 rfl) ?_
                refine lv_iconst (v := nI (2)) hx hbc dX6_climb_81 (by decide) ?_
                refine n_idiv (by omega) (by omega) (by omega) hx hbc dX6_climb_82 ?_
                refine n_iadd hx hbc dX6_climb_83 ?_
                refine wb_aaldA (k := s9 + n9 + p9) (t := 6 + (s9 + n9 + p9)) hx hbc w 5 (by decide) rfl (by decide) 5 rfl (congrArg nI (by omega)) (by omega) (by decide) rfl dX6_climb_84 ?_
                have hli : Lie 30 skTc 6 (skMi 32) (fP (6 + (s9 + (2 * p9))) (6 + ((s9 + (2 * p9)) + 1)) (6 + (s9 + n9 + p9))) (fiP (6 + (s9 + (2 * p9))) (6 + ((s9 + (2 * p9)) + 1)) (6 + (s9 + n9 + p9))) := lie_P3 (by decide) hM_tc (by omega) (by omega) (by omega) (by omega) (by omega) (by omega) (skTc_r _) (skTc_r _) (skTc_r _)
                refine wc_SNv (na := 4) (f := (fP (6 + (s9 + (2 * p9))) (6 + ((s9 + (2 * p9)) + 1)) (6 + (s9 + n9 + p9)))) (As := [.ref (ad (0)), .ref (ad (6 + (s9 + (2 * p9)))), .ref (ad (6 + ((s9 + (2 * p9)) + 1))), .ref (ad (6 + (s9 + n9 + p9)))]) (rest := []) hx hbc hml hg hown w (EC_ok al) hE (w.1.sub (tys' := tyM cy) [0, 1, 2] rfl) hli.A (k_digestPairA l D cy (fun z9 => ad ((fP (6 + (s9 + (2 * p9))) (6 + ((s9 + (2 * p9)) + 1)) (6 + (s9 + n9 + p9))) z9)) al (pul S2 (fP (6 + (s9 + (2 * p9))) (6 + ((s9 + (2 * p9)) + 1)) (6 + (s9 + n9 + p9))))) wk_408 wk_1 (hE.2.2.2.2.2 _ (List.mem_of_getElem? (i := 8) rfl)) wk_407 ⟨by decide, by decide, by decide⟩ ⟨by rw [hRf]; decide, by rw [hRl]; decide⟩ rfl hl.1 rfl (Nat.le_of_ble_eq_true rfl) dX6_climb_85 ⟨Nat.zero_le _, Nat.zero_le _⟩ (fun S9 hp H locs w => ?_)
                have hw9 : wr1 S2 (psh S2 (fiP (6 + (s9 + (2 * p9))) (6 + ((s9 + (2 * p9)) + 1)) (6 + (s9 + n9 + p9))) S9) (6 + (s9 + n9 + p9)) (prH kC wC0 (f9 (2 * p9)) (f9 (2 * p9 + 1))) := (wr1_of hli (fun k hk hk2 => (by rcases (show k = 3 ∨ k = 4 ∨ k = 5 by omega) with rfl | rfl | rfl <;> first | exact Nat.le_of_ble_eq_true rfl | (simp only [fP]; omega))) (fun k hk => (by rcases (show k = 0 ∨ k = 1 ∨ k = 2 by omega) with rfl | rfl | rfl <;> rfl)) ⟨by decide, by decide⟩ hp).h (prH_U rfl (fun k hk => (congrFun (k6.1 (6 + (s9 + 2 * p9)) (by omega) (by omega)).2 k).trans (h5 (2 * p9) (by omega) k hk)) (fun k hk => (congrFun (k6.1 (6 + (s9 + 2 * p9 + 1)) (by omega) (by omega)).2 k).trans (h5 (2 * p9 + 1) (by omega) k hk)))
                have w : WB D (tyC cy) 30 cy ad skTc A s (psh S2 (fiP (6 + (s9 + (2 * p9))) (6 + ((s9 + (2 * p9)) + 1)) (6 + (s9 + n9 + p9))) S9) H locs := w _ (hli.T _)
                obtain ⟨S_1, eS_1⟩ : ∃ z, z = psh S2 (fiP (6 + (s9 + (2 * p9))) (6 + ((s9 + (2 * p9)) + 1)) (6 + (s9 + n9 + p9))) S9 := ⟨_, rfl⟩
                rw [← eS_1] at w hw9
                have k7 := k6.put hw9 (fun j _ => (show prH kC wC0 (f9 (2 * p9)) (f9 (2 * p9 + 1)) j = rsF kC wC0 n9 f9 p9 j by rw [rsF, if_pos c_49]))
                refine lv_iinc (v := nI (2 * p9 + 2)) (lv' := [(5, .int (nI (2 * p9 + 2))), (0, .ref (ad (3))), (1, .ref (ad (0))), (2, .int (nI (s9))), (3, .int (nI (n9))), (4, .int (nI (s9 + n9)))]) hx hbc dX6_climb_88 hl (k := 5) rfl (ni_inc _ _) (by decide) rfl (fun ls hl => ?_)
                refine lv_goto (tgt := 44) hx hbc dX6_climb_91 (by decide) ?_
                exact ih_44 (p9 + 1) S_1 _ _ _ (by omega) (by omega) k7 w (lv_sub hl [1, 2, 3, 4, 5, 0] rfl)
          exact lp_44 (n9 + 1) 0 S1 _ _ _ (by omega) (by omega) ⟨fun _ _ _ => ⟨rfl, rfl⟩, fun a ha => absurd ha (Nat.not_lt_zero a)⟩ w (lv_sub hl [2, 3, 4, 5, 1, 0] rfl)
    exact lp_31 (n + 1) 0 n 4 f S _ _ _ (by omega) (Nat.le_trans hn (by decide)) (by have h9 : tot 4 n ≤ 24 := tot_4 ⟨n, by omega⟩; omega) (by omega) (fun R _ h9 => h9) (fun a ha k hk => (by rw [Nat.zero_add]; exact hlf a ha k hk)) rfl (fun _ _ _ => ⟨rfl, rfl⟩) w (lv_sub hl [2, 3, 1, 0] rfl)
  · exact absurd c_4 (nI_ne0 (by omega) (by omega))
