theorem and31 (x : Int32) : ∃ v, v < 32 ∧ x &&& nI 31 = nI v := by
  refine ⟨(x &&& nI 31).toBitVec.toNat, ?_, ?_⟩
  · rw [Int32.toBitVec_and, BitVec.toNat_and, show (nI 31).toBitVec.toNat = 2 ^ 5 - 1 by decide, Nat.and_two_pow_sub_one_eq_mod]
    exact Nat.mod_lt _ (by decide)
  · apply Int32.toBitVec_inj.mp
    show _ = BitVec.ofNat 32 _
    rw [BitVec.ofNat_toNat]
    simp
set_option maxHeartbeats 1000000 in
set_option maxRecDepth 100000 in
theorem law_step {p : Program} {l : Launch} {e : Env} {s : State} {m : MethodId} {args : Array Value} {below : List Frame} {meth : Method} {c : Code} {Q : State → Prop} {D : va_G} {cy : Nat → ClassId} {ad al sx : Nat → Nat} {A : Nat → Prop} {b L : Nat} {xs : Nat → Int32} {S : wS} {H : Heap} {locs : List Loc} {ls : Array Slot} {i cN sN : Nat} (B : lB p l s m args c A al sx b L xs) (hi : i + 5 ≤ L) (hc9 : cN + 1 ≤ 603072) (hs9 : sN + 8 ≤ 7211114) (hR : LR S) (w : WB D (tyC cy) 354 cy ad skL A s S H locs) (hl : lv_has ls 8 [(4, .int (nI i)), (3, .ref (ad 353)), (2, .ref (ad 322)), (1, .ref (ad 57)), (0, .ref b)])
    (k : ∀ (S : wS) (H : Heap) (locs : List Loc) (ls : Array Slot) (c9 s9 : Nat), LR S → WB D (tyC cy) 354 cy ad skL A s S H locs → lv_has ls 8 [(4, .int (nI i)), (3, .ref (ad 353)), (2, .ref (ad 322)), (1, .ref (ad 57)), (0, .ref b)] → c9 ≤ cN + 1 → s9 ≤ sN + 8 → W p l e room_1 s m args below meth c H locs c9 s9 Q (F0 m 1029 ls [])) : W p l e room_1 s m args below meth c H locs cN sN Q (F0 m 32 ls []) := by
  have B0 := B
  obtain ⟨hx, hbc, hml, hg, hown, hE, hX, hbl, hbA, hlt, hL9⟩ := B0
  refine lv_aload_n hx hbc dL_law_32 rfl (lv_at hl 4 rfl) ?_
  refine lv_iload hx hbc dL_law_33 (lv_at hl 0 rfl) ?_
  refine va_sld hx hbc hX hbl hbA w.2.2.2.1 (vp_in_nI (n := i) (N := L) (by omega) (by omega)) dL_law_35 ?_
  rw [nI_clamp (show i < 2 ^ 31 by omega)]
  refine lv_bipush (v := nI 31) hx hbc dL_law_36 (by decide) ?_
  refine lv_iand hx hbc dL_law_38 ?_
  obtain ⟨v, hv, ev⟩ := and31 (xs i)
  rw [ev]
  rcases (show v = 0 ∨ v = 1 ∨ v = 2 ∨ v = 3 ∨ v = 4 ∨ v = 5 ∨ v = 6 ∨ v = 7 ∨ v = 8 ∨ v = 9 ∨ v = 10 ∨ v = 11 ∨ v = 12 ∨ v = 13 ∨ v = 14 ∨ v = 15 ∨ v = 16 ∨ v = 17 ∨ v = 18 ∨ v = 19 ∨ v = 20 ∨ v = 21 ∨ v = 22 ∨ v = 23 ∨ v = 24 ∨ v = 25 ∨ v = 26 ∨ v = 27 ∨ v = 28 ∨ v = 29 ∨ v = 30 ∨ v = 31 by omega) with rfl | rfl | rfl | rfl | rfl | rfl | rfl | rfl | rfl | rfl | rfl | rfl | rfl | rfl | rfl | rfl | rfl | rfl | rfl | rfl | rfl | rfl | rfl | rfl | rfl | rfl | rfl | rfl | rfl | rfl | rfl | rfl
  · exact lv_tableIn (tgt := 144) hx hbc dL_law_39 (by decide) (by decide) rfl (by decide) (lc_feed B hi hc9 hs9 hR w hl k)
  · exact lv_tableIn (tgt := 213) hx hbc dL_law_39 (by decide) (by decide) rfl (by decide) (lc_key B hi hc9 hs9 hR w hl k)
  · exact lv_tableIn (tgt := 226) hx hbc dL_law_39 (by decide) (by decide) rfl (by decide) (lc_digest B hi hc9 hs9 hR w hl k)
  · exact lv_tableIn (tgt := 251) hx hbc dL_law_39 (by decide) (by decide) rfl (by decide) (lc_open B hi hc9 hs9 hR w hl k)
  · exact lv_tableIn (tgt := 288) hx hbc dL_law_39 (by decide) (by decide) rfl (by decide) (lc_more B hi hc9 hs9 hR w hl k)
  · exact lv_tableIn (tgt := 313) hx hbc dL_law_39 (by decide) (by decide) rfl (by decide) (lc_end B hi hc9 hs9 hR w hl k)
  · exact lv_tableIn (tgt := 338) hx hbc dL_law_39 (by decide) (by decide) rfl (by decide) (lc_told B hi hc9 hs9 hR w hl k)
  · exact lv_tableIn (tgt := 375) hx hbc dL_law_39 (by decide) (by decide) rfl (by decide) (lc_read B hi hc9 hs9 hR w hl k)
  · exact lv_tableIn (tgt := 454) hx hbc dL_law_39 (by decide) (by decide) rfl (by decide) (lc_plan B hi hc9 hs9 hR w hl k)
  · exact lv_tableIn (tgt := 521) hx hbc dL_law_39 (by decide) (by decide) rfl (by decide) (lc_same B hi hc9 hs9 hR w hl k)
  · exact lv_tableIn (tgt := 558) hx hbc dL_law_39 (by decide) (by decide) rfl (by decide) (lc_table B hi hc9 hs9 hR w hl k)
  · exact lv_tableIn (tgt := 614) hx hbc dL_law_39 (by decide) (by decide) rfl (by decide) (lc_leaf B hi hc9 hs9 hR w hl k)
  · exact lv_tableIn (tgt := 651) hx hbc dL_law_39 (by decide) (by decide) rfl (by decide) (lc_change B hi hc9 hs9 hR w hl k)
  · exact lv_tableIn (tgt := 700) hx hbc dL_law_39 (by decide) (by decide) rfl (by decide) (lc_root B hi hc9 hs9 hR w hl k)
  · exact lv_tableIn (tgt := 725) hx hbc dL_law_39 (by decide) (by decide) rfl (by decide) (lc_drop B hi hc9 hs9 hR w hl k)
  · exact lv_tableIn (tgt := 750) hx hbc dL_law_39 (by decide) (by decide) rfl (by decide) (lc_prove B hi hc9 hs9 hR w hl k)
  · exact lv_tableIn (tgt := 787) hx hbc dL_law_39 (by decide) (by decide) rfl (by decide) (lc_alter B hi hc9 hs9 hR w hl k)
  · exact lv_tableIn (tgt := 836) hx hbc dL_law_39 (by decide) (by decide) rfl (by decide) (lc_check B hi hc9 hs9 hR w hl k)
  · exact lv_tableIn (tgt := 897) hx hbc dL_law_39 (by decide) (by decide) rfl (by decide) (lc_keep B hi hc9 hs9 hR w hl k)
  · exact lv_tableIn (tgt := 910) hx hbc dL_law_39 (by decide) (by decide) rfl (by decide) (lc_find B hi hc9 hs9 hR w hl k)
  · exact lv_tableIn (tgt := 923) hx hbc dL_law_39 (by decide) (by decide) rfl (by decide) (lc_row B hi hc9 hs9 hR w hl k)
  · exact lv_tableIn (tgt := 991) hx hbc dL_law_39 (by decide) (by decide) rfl (by decide) (lc_about B hi hc9 hs9 hR w hl k)
  · exact lv_tableIn (tgt := 1016) hx hbc dL_law_39 (by decide) (by decide) rfl (by decide) (lc_clear B hi hc9 hs9 hR w hl k)
  · exact lv_tableOut (tgt := 1029) hx hbc dL_law_39 (Or.inr (by decide)) (by decide) (k _ _ _ _ _ _ hR w hl (Nat.le_succ _) (Nat.le_add_right _ _))
  · exact lv_tableOut (tgt := 1029) hx hbc dL_law_39 (Or.inr (by decide)) (by decide) (k _ _ _ _ _ _ hR w hl (Nat.le_succ _) (Nat.le_add_right _ _))
  · exact lv_tableOut (tgt := 1029) hx hbc dL_law_39 (Or.inr (by decide)) (by decide) (k _ _ _ _ _ _ hR w hl (Nat.le_succ _) (Nat.le_add_right _ _))
  · exact lv_tableOut (tgt := 1029) hx hbc dL_law_39 (Or.inr (by decide)) (by decide) (k _ _ _ _ _ _ hR w hl (Nat.le_succ _) (Nat.le_add_right _ _))
  · exact lv_tableOut (tgt := 1029) hx hbc dL_law_39 (Or.inr (by decide)) (by decide) (k _ _ _ _ _ _ hR w hl (Nat.le_succ _) (Nat.le_add_right _ _))
  · exact lv_tableOut (tgt := 1029) hx hbc dL_law_39 (Or.inr (by decide)) (by decide) (k _ _ _ _ _ _ hR w hl (Nat.le_succ _) (Nat.le_add_right _ _))
  · exact lv_tableOut (tgt := 1029) hx hbc dL_law_39 (Or.inr (by decide)) (by decide) (k _ _ _ _ _ _ hR w hl (Nat.le_succ _) (Nat.le_add_right _ _))
  · exact lv_tableOut (tgt := 1029) hx hbc dL_law_39 (Or.inr (by decide)) (by decide) (k _ _ _ _ _ _ hR w hl (Nat.le_succ _) (Nat.le_add_right _ _))
  · exact lv_tableOut (tgt := 1029) hx hbc dL_law_39 (Or.inr (by decide)) (by decide) (k _ _ _ _ _ _ hR w hl (Nat.le_succ _) (Nat.le_add_right _ _))
set_option maxHeartbeats 1000000 in
set_option maxRecDepth 100000 in
theorem law_loop {p : Program} {l : Launch} {e : Env} {s : State} {m : MethodId} {args : Array Value} {below : List Frame} {meth : Method} {c : Code} {Q : State → Prop} {D : va_G} {cy : Nat → ClassId} {ad al sx : Nat → Nat} {A : Nat → Prop} {b L : Nat} {xs : Nat → Int32} (B : lB p l s m args c A al sx b L xs) (hend : ∀ (H : Heap) (locs : List Loc) (ls : Array Slot) (cN sN : Nat), cN ≤ 603072 → sN ≤ 7211114 → va_S A s.heap H locs → W p l e room_1 s m args below meth c H locs cN sN Q (F0 m 1035 ls [])) : ∀ (fu j i : Nat) (S : wS) (H : Heap) (locs : List Loc) (ls : Array Slot) (cN sN : Nat), i = 5 * j → 512 < j + fu → i ≤ L → cN ≤ 354 + j → sN ≤ 30722 + 8 * j → LR S → WB D (tyC cy) 354 cy ad skL A s S H locs → lv_has ls 8 [(4, .int (nI i)), (3, .ref (ad 353)), (2, .ref (ad 322)), (1, .ref (ad 57)), (0, .ref b)] → W p l e room_1 s m args below meth c H locs cN sN Q (F0 m 23 ls []) := by
  have B0 := B
  obtain ⟨hx, hbc, hml, hg, hown, hE, hX, hbl, hbA, hlt, hL9⟩ := B0
  intro fu
  induction fu with
  | zero =>
    intro j i S H locs ls cN sN h1 h2 h3
    omega
  | succ fu ih =>
    intro j i S H locs ls cN sN h1 h2 h3 h4 h5 hR w hl
    refine lv_iload hx hbc dL_law_23 (lv_at hl 0 rfl) ?_
    refine lv_aload_n hx hbc dL_law_25 rfl (lv_at hl 4 rfl) ?_
    refine va_slen hx hbc hX hbl hbA w.2.2.2.1 dL_law_26 ?_
    refine lv_iconst (v := nI 5) hx hbc dL_law_27 (by decide) ?_
    have hlN : (Int32.ofNat L) = nI L := rfl
    rw [hlN]
    have hex : W p l e room_1 s m args below meth c H locs cN sN Q (F0 m 1035 ls []) := hend H locs ls cN sN (by omega) (by omega) w.2.2.2.1
    by_cases hL5 : L < 5
    · refine lv_isub hx hbc dL_law_28 ?_
      refine lv_icmp_gt (tgt := 1035) hx hbc dL_law_29 (by decide) (fun _ => hex) (fun c9 => absurd ?_ c9)
      have hi0 : i = 0 := by omega
      subst hi0
      rcases (show L = 0 ∨ L = 1 ∨ L = 2 ∨ L = 3 ∨ L = 4 by omega) with rfl | rfl | rfl | rfl | rfl <;> decide
    · refine n_isub (a := L) (b := 5) (by omega) hx hbc dL_law_28 ?_
      refine n_cmp_gt (a := i) (b := L - 5) (tgt := 1035) (by omega) (by omega) hx hbc dL_law_29 (by decide) (fun _ => hex) (fun c9 => ?_)
      refine law_step B (by omega) (by omega) (by omega) hR w hl (fun S H locs ls c9 s9 hR w hl hc hs => ?_)
      refine lv_iinc (v := nI (i + 5)) (lv' := [(4, .int (nI (i + 5))), (3, .ref (ad 353)), (2, .ref (ad 322)), (1, .ref (ad 57)), (0, .ref b)]) hx hbc dL_law_1029 hl (k := 0) rfl (ni_inc _ _) (by decide) rfl (fun ls hl => ?_)
      refine lv_goto (tgt := 23) hx hbc dL_law_1032 (by decide) ?_
      exact ih (j + 1) (i + 5) S H locs ls c9 s9 (by omega) (by omega) (by omega) (by omega) (by omega) hR w hl
/-! the world at the loop's start -/
def bdB (n : Nat) (x : wK) : Bool := match x with
  | .inl q => q.2.all (fun o => o.all (fun t => decide (t < n)))
  | .inr q => decide (q.1 ≤ 2) || (List.range q.2.1).all (fun j => (q.2.2 j).all (fun t => decide (t < n)))
theorem bd_D : ∀ i : Fin 322, bdB 322 (skD i.val) = true := by decide +kernel
theorem bd_M : ∀ i : Fin 31, bdB 31 (skM i.val) = true := by decide +kernel
theorem wC_ad {n : Nat} {cy : Nat → ClassId} {ad ad2 : Nat → Nat} {sk : Nat → wK} {S : wS} {i : Nat} (h : ∀ t, t < n → ad t = ad2 t) (hb : bdB n (sk i) = true) : cE (wC cy ad sk S i) (wC cy ad2 sk S i) := by
  unfold wC
  cases hq : sk i with
  | inl q =>
    rw [hq] at hb
    refine Or.inl ?_
    have hb : ∀ o ∈ q.2, o.all (fun t => decide (t < n)) = true := List.all_eq_true.mp hb
    have e : wFs ad (S.1 i) q.2 = wFs ad2 (S.1 i) q.2 := by
      unfold wFs
      apply List.ext_getElem?
      intro j
      rw [List.getElem?_mapIdx, List.getElem?_mapIdx]
      cases ho : q.2[j]? with
      | none => rfl
      | some o =>
        cases o with
        | none => rfl
        | some t =>
          have ht : t < n := by
            have := hb _ (List.mem_of_getElem? ho)
            exact of_decide_eq_true this
          show some (Value.ref (ad t)) = some (Value.ref (ad2 t))
          rw [h t ht]
    show Sum.inr (q.1, wFs ad (S.1 i) q.2) = Sum.inr (q.1, wFs ad2 (S.1 i) q.2)
    rw [e]
  | inr q =>
    rw [hq] at hb
    by_cases h2 : q.1 ≤ 2
    · refine Or.inl ?_
      dsimp only
      by_cases e2 : q.1 = 2
      · rw [if_pos e2, if_pos e2]
      · rw [if_neg e2, if_neg e2, if_pos (show q.1 < 2 by omega), if_pos (show q.1 < 2 by omega)]
    · refine Or.inr ⟨cy q.1, q.2.1, fun j => (q.2.2 j).map ad, fun j => (q.2.2 j).map ad2, ?_, ?_, fun j hj => ?_⟩
      · dsimp only
        rw [if_neg (show ¬ q.1 = 2 by omega), if_neg (show ¬ q.1 < 2 by omega)]
      · dsimp only
        rw [if_neg (show ¬ q.1 = 2 by omega), if_neg (show ¬ q.1 < 2 by omega)]
      · have hb : (decide (q.1 ≤ 2) || (List.range q.2.1).all (fun j => (q.2.2 j).all (fun t => decide (t < n)))) = true := hb
        rw [decide_eq_false h2, Bool.false_or] at hb
        have hj := List.all_eq_true.mp hb j (List.mem_range.mpr hj)
        show Option.map ad (q.2.2 j) = Option.map ad2 (q.2.2 j)
        cases ho : q.2.2 j with
        | none => rfl
        | some t =>
          rw [ho] at hj
          show some (ad t) = some (ad2 t)
          rw [h t (of_decide_eq_true hj)]
theorem wC_sk9 {cy : Nat → ClassId} {ad : Nat → Nat} {sk sk2 : Nat → wK} {S S2 : wS} {i : Nat} (h : sk i = sk2 i) (h1 : S.1 i = S2.1 i) (h2 : S.2.1 i = S2.2.1 i) (h3 : S.2.2 i = S2.2.2 i) : wC cy ad sk S i = wC cy ad sk2 S2 i := by
  unfold wC
  rw [h, h1, h2, h3]
theorem CB_Y {D : va_G} {cy : Nat → ClassId} {A : Nat → Prop} {s : State} {L : va_W} {n : Nat} {ad : Nat → Nat} {sk : Nat → wK} {S : wS} {H : Heap} {locs : List Loc} (w : CB D cy A s L H locs) (he : ∀ i, i < n → ∃ e, L[i]? = some (ad i, e) ∧ cE e (wC cy ad sk S i)) : WB D (tyC cy) n cy ad sk A s S H locs := by
  refine ⟨w.1, fun k q hk => ?_, ⟨fun i j x z hi hj hxz => ?_, fun k q hk => ?_⟩, w.2.2.2.1, w.2.2.2.2⟩
  · obtain ⟨hk2, rfl⟩ := wW_of hk
    obtain ⟨e, h0, h9⟩ := he k hk2
    have h1 := w.2.1 _ _ h0
    rcases h9 with h2 | ⟨cA, n, f, g, h2, h3, h4⟩
    · rw [← h2]; exact h1
    · rw [h3]
      rw [h2] at h1
      have e1 : vp_cell cA (n, .inr (.inr (.inr (.inr f)))) = vp_cell cA (n, .inr (.inr (.inr (.inr g)))) := by
        rw [vp_cell_q, vp_cell_q]
        exact arrV_cg (fun j hj => by rw [h4 j hj])
      show H[ad k]? = some (vp_cell cA (n, .inr (.inr (.inr (.inr g)))))
      rw [← e1]
      exact h1
  · obtain ⟨h1, rfl⟩ := wW_of hi
    obtain ⟨h2, rfl⟩ := wW_of hj
    obtain ⟨e1, g1, _⟩ := he i h1
    obtain ⟨e2, g2, _⟩ := he j h2
    exact w.2.2.1.1 _ _ _ _ g1 g2 hxz
  · obtain ⟨h1, rfl⟩ := wW_of hk
    obtain ⟨e, h0, _⟩ := he k h1
    exact w.2.2.1.2 _ (ad k, e) h0
def adA (a0 a1 : Nat → Nat) (q3 : Nat) : Nat → Nat := fun i => if i < 322 then a0 i else if i < 353 then a1 (i - 322) else q3
theorem adA_lo {a0 a1 : Nat → Nat} {q3 i : Nat} (h : i < 322) : adA a0 a1 q3 i = a0 i := if_pos h
theorem adA_in {a0 a1 : Nat → Nat} {q3 k : Nat} (h : k < 31) : adA a0 a1 q3 (k + 322) = a1 k := by
  unfold adA
  rw [if_neg (by omega), if_pos (by omega), Nat.add_sub_cancel]
theorem adA_hi {a0 a1 : Nat → Nat} {q3 : Nat} : adA a0 a1 q3 353 = q3 := by
  unfold adA
  rw [if_neg (by omega), if_neg (by omega)]
theorem law_world {D : va_G} {cy : Nat → ClassId} {A : Nat → Prop} {s : State} {a0 a1 : Nat → Nat} {q3 : Nat} {M0 : wS} {H : Heap} {locs : List Loc} (w : CB D cy A s ((wW 322 cy a0 skD Z0 ++ wW 31 cy a1 skM M0) ++ [(q3, eJ cy 1)]) H locs) : WB D (tyC cy) 354 cy (adA a0 a1 q3) skL A s (psh Z0 fiRf M0) H locs := by
  refine CB_Y w (fun i hi => ?_)
  by_cases h1 : i < 322
  · refine ⟨wC cy a0 skD Z0 i, ?_, ?_⟩
    · rw [List.getElem?_append_left (by simp only [List.length_append, wW_len]; omega), List.getElem?_append_left (by rw [wW_len]; exact h1), wW_get h1, adA_lo h1]
    · rw [wC_sk9 (sk := skL) (sk2 := skD) (S := psh Z0 fiRf M0) (S2 := Z0) (skL_lo h1) (by simp only [psh, fiR_lo h1, Option.elim]) (by simp only [psh, fiR_lo h1, Option.elim]) (by simp only [psh, fiR_lo h1, Option.elim])]
      exact wC_ad (n := 322) (ad := a0) (ad2 := adA a0 a1 q3) (fun t ht => (adA_lo (a0 := a0) (a1 := a1) (q3 := q3) ht).symm) (bd_D ⟨i, h1⟩)
  · by_cases h2 : i < 353
    · obtain ⟨k, rfl⟩ : ∃ k, i = k + 322 := ⟨i - 322, by omega⟩
      have hk : k < 31 := by omega
      refine ⟨wC cy a1 skM M0 k, ?_, ?_⟩
      · rw [List.getElem?_append_left (by simp only [List.length_append, wW_len]; omega), List.getElem?_append_right (by rw [wW_len]; omega), wW_len, Nat.add_sub_cancel, wW_get hk, adA_in hk]
      · have e1 : wC cy (adA a0 a1 q3) skL (psh Z0 fiRf M0) (k + 322) = wC cy (fun z => adA a0 a1 q3 (fRf z)) skM M0 k := wC_rn (lieM.1 k hk).2.2 (by show (fiRf (k + 322)).elim _ _ = _; rw [fiR_in hk]; rfl) (by show (fiRf (k + 322)).elim _ _ = _; rw [fiR_in hk]; rfl) (by show (fiRf (k + 322)).elim _ _ = _; rw [fiR_in hk]; rfl)
        rw [e1]
        exact wC_ad (n := 31) (ad := a1) (ad2 := fun z => adA a0 a1 q3 (fRf z)) (fun t ht => (adA_in (a0 := a0) (a1 := a1) (q3 := q3) ht).symm) (bd_M ⟨k, hk⟩)
    · obtain rfl : i = 353 := by omega
      refine ⟨eJ cy 1, ?_, Or.inl ?_⟩
      · rw [List.getElem?_append_right (by simp only [List.length_append, wW_len]; omega), adA_hi]
        simp only [List.length_append, wW_len]
        rfl
      · rw [wC_l skL_out]
        rfl
theorem rel0 (x y z : Nat → Int64) : Rel Z0 (rbS (cst (tb 64) (wb 64) (nb 64) x y z)) := by
  refine ⟨⟨tb_64, wb_64, nb_64, 0, rfl⟩, ⟨0, rfl, rfl, by decide, fun k hk => absurd hk (by omega), fun k => rfl⟩, ⟨0, rfl, rfl, by decide, fun k hk => absurd hk (by omega), fun k => rfl⟩, ⟨0, rfl, rfl, by decide, fun k hk => absurd hk (by omega)⟩, fun j hj => ⟨0, rfl, by decide, Or.inl ⟨rfl, ?_⟩⟩, ⟨fun _ => 0, fun _ => 0, fun tr htr => ⟨rfl, rfl, Nat.zero_le _, fun a ha => absurd ha (Nat.not_lt_zero a)⟩⟩, ⟨0, rfl, rfl, by decide, fun k hk => absurd hk (by omega)⟩, 0, fun _ => 0, rfl, rfl, by decide, rfl, fun k hk => absurd hk (by omega)⟩
  rcases (show j = 0 ∨ j = 1 ∨ j = 2 ∨ j = 3 by omega) with rfl | rfl | rfl | rfl <;> rfl
theorem LR0 (x y z : Nat → Int64) : LR (psh Z0 fiRf (rbS (cst (tb 64) (wb 64) (nb 64) x y z))) := by
  refine (rel0 x y z).cg (fun i hi => ?_) (fun k hk => ?_)
  · simp only [pul, psh, id, fiR_lo hi, Option.elim]
    exact ⟨trivial, trivial⟩
  · simp only [pul, psh, fRf, fiR_in hk, Option.elim]
    exact ⟨trivial, trivial⟩
