section WL9
variable {p : Program} {l : Launch} {e : Env} {R : Room} {s : State} {m : MethodId} {args : Array Value} {below : List Frame} {meth : Method} {c : Code} {H : Heap} {locs : List Loc} {cells slots : Nat} {Q : State → Prop}
variable {cc : ByteArray} {pc : Nat} {ls : Array Slot} {rest st0 : List Value}
variable {D : va_G} {tys : List (ClassId × FieldType)} {n : Nat} {cy : Nat → ClassId} {ad : Nat → Nat} {sk : Nat → wK} {A : Nat → Prop} {S S0 : wS} {own : String}
variable {n2 : Nat} {ad2 : Nat → Nat} {sk2 : Nat → wK} {S2 : wS} {f : Nat → Nat} {tys2 : List (ClassId × FieldType)} {E2 : (Nat → Prop) → State → Prop}
variable {y : MethodName} {bytes : ByteArray} {maxL nL fr lo ns index na : Nat} {ret : Option FieldType} {As : List Value} {hh : List (Nat × Nat × Nat × Nat)}
/-- a call that answers a long, into a smaller world -/
theorem wc_Vl9 {post : Int64 → wS → Prop} (hx : p.tables.exec = Jvm.exec) (hb : c.code = cc) (hml : c.maxLocals = nL) (hg : ∀ w ∈ wsG, w.before args s = true) (hown : s.vm.findClass own = some m.cls) (w : WB D tys n cy ad sk A s S H locs) (hE2 : EOk E2) (hE : E2 A s) (hty : va_K D vwCl tys2 s) (sub : SubA n cy ad sk S n2 ad2 sk2 S2 f) (i : Nat) (hi : i < n) {ci : Nat} {fs : List (Option Nat)} (he : sk i = .inl (ci, fs)) {q : vw_C} (hc : vwCl[ci]? = some q) (hM : CtL l y (Cond.code y bytes maxL ret :: wsG) fr lo (.ref (ad i) :: As) D tys2 n2 cy ad2 sk2 E2 S2 post) (hcd : Cond.code y bytes maxL ret ∈ wsG) (hini : Cond.initialized y.cls ∈ wsG) (hl : Cond.methodLink own index y ∈ wsG) (him : Cond.instanceMethod y ∈ wsG) (hsel : Cond.selects q.1 y y ∈ wsG) (hd : y.cls ≠ "java/lang/invoke/MethodHandle" ∧ y.cls ≠ "java/lang/invoke/VarHandle" ∧ (parseMethodDescriptor y.desc).map (fun d => d.parameters.length) = some na) (hR : fr + 1 ≤ R.frames ∧ 8 + (maxL + 11) + lo ≤ R.locals) (hn : As.length = na) (hsz : ls.size = nL) (hst : st0 = As.reverse ++ .ref (ad i) :: rest) (hcat : (rest.map fun v => v.category).sum ≤ 8) (hdg : decode cc pc = .ok (.invokevirtual index, 3)) (hf : cells ≤ R.cells ∧ slots ≤ R.slots)
    (kk : ∀ (r : Int64) (S' : wS), post r S' → Go p l e R s m args below meth c cells slots Q D tys n cy ad sk A S n2 ad2 sk2 f S' (F0 m (pc + 3) ls (.long r :: rest))) : W p l e R s m args below meth c H locs cells slots Q (F0 m pc ls st0) := by
  have h3 := (sub.P w).2.2
  refine va_calll (va_runV (As := As) (rest := rest) ⟨hx, hb, hml, hown, hg⟩ (hM H.size) ⟨wCallB hg hcd hini hl hd hR, hg _ him, hg _ hsel⟩ ⟨wPre_blind hE2, va_recv w.1 w.2.1 hc ((wW_get hi).trans (by rw [wC_o he])), fun U hU hW => wPre_of2 hE2 sub w hE hty hU hW _⟩ rfl hn hsz hst (lv_room hcat) hdg hf) w.2.2.2.1 (fun q _ h => h3 q h) h3 (fun r u t H1 locs1 ht hvm hw hB hz1 hk1 hS => ?_)
  exact kk r u hw H1 locs1 (fun T hT => sub.back w hT (by rw [← ht]; exact hB.1) hk1 hS)
/-- a static call of a method with handlers -/
theorem wc_H {post : Int32 → wS → Prop} (hx : p.tables.exec = Jvm.exec) (hb : c.code = cc) (hml : c.maxLocals = nL) (hg : ∀ w ∈ wsG, w.before args s = true) (hown : s.vm.findClass own = some m.cls) (w : WB D tys n cy ad sk A s S H locs) (hE2 : EOk E2) (hE : E2 A s) (hM : CtH l y bytes maxL hh fr lo ns As D tys n cy ad sk E2 S post) (hcd : Cond.codeWith y bytes maxL (some .int) hh ∈ wsG) (hini : Cond.initialized y.cls ∈ wsG) (hl : Cond.methodLink own index y ∈ wsG) (hsta : Cond.static y ∈ wsG) (hd : y.cls ≠ "java/lang/invoke/MethodHandle" ∧ y.cls ≠ "java/lang/invoke/VarHandle" ∧ (parseMethodDescriptor y.desc).map (fun d => d.parameters.length) = some na) (hR : fr + 1 ≤ R.frames ∧ 8 + (maxL + 11) + lo ≤ R.locals) (hn : As.length = na) (hsz : ls.size = nL) (hst : st0 = As.reverse ++ rest) (hcat : (rest.map fun v => v.category).sum ≤ 8) (hdg : decode cc pc = .ok (.invokestatic index, 3)) (hf : cells + 1 ≤ R.cells ∧ slots + ns ≤ R.slots)
    (kk : ∀ (r : Int32) (S' : wS) (H1 : Heap) (locs1 : List Loc), post r S' → WB D tys n cy ad sk A s S' H1 locs1 → W p l e R s m args below meth c H1 locs1 (cells + 1) (slots + ns) Q (F0 m (pc + 3) ls (.int r :: rest))) : W p l e R s m args below meth c H locs cells slots Q (F0 m pc ls st0) := by
  have h3 := ((Sub.self (n := n) (cy := cy) (ad := ad) (sk := sk) (S := S)).P w).2.2
  refine va_calli (vx_runSW (As := As) (rest := rest) (hh := hh) ⟨hx, hb, hml, hown, hg⟩ (hM H.size) ⟨⟨rfl, rfl, hR.1, hR.2, pay_in hg (gdG hcd), List.mem_cons_self⟩, hg _ hcd, hg _ hini, ⟨hd.1, hd.2.1⟩, (fun sig h => by have h2 := hd.2.2; rw [h] at h2; exact (Option.some.inj h2).symm), hg _ hl, hg _ hsta⟩ ⟨wPre_blind hE2, fun U hU hW => wPre_of hE2 Sub.self w hE w.1 hU hW _⟩ rfl hn hsz hst (lv_room hcat) hdg hf) w.2.2.2.1 (fun q _ h => h3 q h) h3 (fun r u t H1 locs1 ht hvm hw hB hz1 hk1 hS => ?_)
  exact kk r u H1 locs1 hw ((Sub.self (n := n) (cy := cy) (ad := ad) (sk := sk) (S := S)).back w (by rw [← ht]; exact hB.1) hk1 hS)
end WL9
/-- what holds all through the law -/
def lB (p : Program) (l : Launch) (s : State) (m : MethodId) (args : Array Value) (c : Code) (A : Nat → Prop) (al sx : Nat → Nat) (b L : Nat) (xs : Nat → Int32) : Prop :=
  p.tables.exec = Jvm.exec ∧ c.code = code ∧ c.maxLocals = 8 ∧ (∀ w ∈ wsG, w.before args s = true) ∧ s.vm.findClass RL = some m.cls ∧ EY al sx A s ∧ va_X b L xs s s.heap ∧ b < s.heap.size ∧ ¬ A b ∧ l.stackTraces = false ∧ L ≤ 2560
theorem skL_322 : skL 322 = .inl (11, [none, some 323, some 324, some 325, some 326, some 327, some 328, some 329, none, some 330, some 331, none, none, some 332, none, some 333, none, some 334, some 335, some 336, some 337, some 338, some 339, some 340, some 341, some 342, some 343, some 344, some 345, some 346, some 347, some 348, none, some 349, none, some 350, some 351, some 352, none, none]) := rfl
theorem subM {cy : Nat → ClassId} {ad : Nat → Nat} {S1 M : wS} (h : ∀ k, k < 31 → S1.1 (k + 322) = M.1 k ∧ S1.2.1 (k + 322) = M.2.1 k ∧ S1.2.2 (k + 322) = M.2.2 k) : SubA 354 cy ad skL S1 31 (fun k => ad (fRf k)) skM M fRf :=
  ⟨fun k hk => ⟨(lieM.1 k hk).1, rfl, (wC_rn (lieM.1 k hk).2.2 (h k hk).1 (h k hk).2.1 (h k hk).2.2).symm⟩, fun k k' _ _ e => by unfold fRf at e; omega⟩
theorem subM0 {cy : Nat → ClassId} {ad : Nat → Nat} (S T : wS) : SubA 354 cy ad skL (psh S fiC T) 31 (fun k => ad (fRf k)) skM (pul S fRf) fRf := subM (fun k hk => by
  simp only [psh, pul, fRf, fiC_hi (show 322 ≤ k + 322 by omega), Option.elim]
  exact ⟨trivial, trivial, trivial⟩)
theorem subMJ {cy : Nat → ClassId} {ad : Nat → Nat} (S T : wS) (f : Nat → Int64) : SubA 354 cy ad skL (sJ (psh S fiC T) 353 f) 31 (fun k => ad (fRf k)) skM (pul S fRf) fRf := subM (fun k hk => by
  have h9 : ¬ k + 322 = 353 := by omega
  simp only [sJ, va_up, h9, if_false, psh, pul, fRf, fiC_hi (show 322 ≤ k + 322 by omega), Option.elim]
  exact ⟨trivial, trivial, trivial⟩)
theorem LR.bothJ {S T M9 : wS} {f : Nat → Int64} (h : Rel T M9) : LR (psh (sJ (psh S fiC T) 353 f) fiRf M9) := LR.cg (LR.both (S := S) h) (fun i _ => ⟨rfl, rfl⟩)
theorem psh_th (S1 M9 : wS) : (pul (psh S1 fiRf M9) fRf).1 0 0 = M9.1 0 0 := rfl
theorem psh_out (S1 M9 : wS) : (psh S1 fiRf M9).2.2 353 = S1.2.2 353 := rfl
theorem sJ_out (S : wS) (f : Nat → Int64) : (sJ S 353 f).2.2 353 = f := rfl
theorem lg_cmp_rf (x : Int64) : lg_cmp x x = 0 := by
  unfold lg_cmp
  rw [if_neg (Int64.lt_irrefl), if_pos rfl]
theorem sti {S : wS} {M : wS} (h : RG S M) : ∃ (so : Nat → Nat) (lk : Nat → Nat → Int32) (bl : Nat → Nat) (g : Nat → Nat → Int32) (n : Nat → Nat), ∀ j, j < 4 → M.2.1 19 j = nI (n j) ∧ n j ≤ 2000 ∧ ((S.1 (15 + 3 * (j + 1)) 3 = nI 0 ∧ M.2.1 20 j = (-1)) ∨ RO S M j (so j) (lk j) (bl j) (g j) (n j)) := by
  have key : ∀ j : Nat, ∃ q : Nat × (Nat → Int32) × Nat × (Nat → Int32) × Nat, j < 4 → M.2.1 19 j = nI q.2.2.2.2 ∧ q.2.2.2.2 ≤ 2000 ∧ ((S.1 (15 + 3 * (j + 1)) 3 = nI 0 ∧ M.2.1 20 j = (-1)) ∨ RO S M j q.1 q.2.1 q.2.2.1 q.2.2.2.1 q.2.2.2.2) := by
    intro j
    by_cases hj : j < 4
    · obtain ⟨n, h1, h2, h3⟩ := h j hj
      rcases h3 with h3 | ⟨k, lk, bl, g, h3⟩
      · exact ⟨(0, (fun _ => 0), 0, (fun _ => 0), n), fun _ => ⟨h1, h2, Or.inl h3⟩⟩
      · exact ⟨(k, lk, bl, g, n), fun _ => ⟨h1, h2, Or.inr h3⟩⟩
    · exact ⟨(0, (fun _ => 0), 0, (fun _ => 0), 0), fun h => absurd h hj⟩
  obtain ⟨q, hq⟩ := Classical.axiomOfChoice key
  exact ⟨fun j => (q j).1, fun j => (q j).2.1, fun j => (q j).2.2.1, fun j => (q j).2.2.2.1, fun j => (q j).2.2.2.2, fun j hj => hq j hj⟩
