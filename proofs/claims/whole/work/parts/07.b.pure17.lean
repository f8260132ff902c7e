/-- n bytes with sign, together -/
def rdS (f : Nat → Int32) : Nat → Int64
  | 0 => 0
  | n + 1 => (rdS f n <<< ((nI (8)).toInt64 &&& 63)) ||| (f n &&& nI (255)).toInt64
theorem oor_le {x : Int32} {n : Nat} (h : ¬ x ≤ nI n) (hn : n < 2 ^ 30) : oor x (n + 1) := fun k hk e => h (e ▸ nI_le (by omega) (by omega))
section CRL
variable {p : Program} {l : Launch} {e : Env} {R : Room} {s : State} {m : MethodId} {args : Array Value} {below : List Frame} {meth : Method} {c : Code} {H : Heap} {locs : List Loc} {cells slots : Nat} {Q : State → Prop}
variable {cc : ByteArray} {pc : Nat} {ls : Array Slot} {rest st0 : List Value}
variable {D : va_G} {tys : List (ClassId × FieldType)} {n : Nat} {cy : Nat → ClassId} {ad : Nat → Nat} {sk : Nat → wK} {A : Nat → Prop} {S S0 : wS} {own : String}
variable {n2 : Nat} {ad2 : Nat → Nat} {sk2 : Nat → wK} {S2 : wS} {f : Nat → Nat} {up : wS → wS} {tys2 : List (ClassId × FieldType)} {E E2 : (Nat → Prop) → State → Prop}
variable {y : MethodName} {bytes : ByteArray} {maxL nL fr lo index na : Nat} {ret : Option FieldType} {As : List Value}
theorem wb_Sl {post : Int64 → wS → Prop} (hx : p.tables.exec = Jvm.exec) (hb : c.code = cc) (hml : c.maxLocals = nL) (hg : ∀ w ∈ wsG, w.before args s = true) (hown : s.vm.findClass own = some m.cls) (w : WB D tys n cy ad sk A s S H locs) (hE2 : EOk E2) (hE : E2 A s) (hty : va_K D vwCl tys2 s) (sub : Sub n cy ad sk S n2 ad2 sk2 S2 f up) (hM : CtL l y (Cond.code y bytes maxL ret :: wsG) fr lo As D tys2 n2 cy ad2 sk2 E2 S2 post) (hcd : Cond.code y bytes maxL ret ∈ wsG) (hini : Cond.initialized y.cls ∈ wsG) (hl : Cond.methodLink own index y ∈ wsG) (hsta : Cond.static y ∈ wsG) (hd : y.cls ≠ "java/lang/invoke/MethodHandle" ∧ y.cls ≠ "java/lang/invoke/VarHandle" ∧ (parseMethodDescriptor y.desc).map (fun d => d.parameters.length) = some na) (hR : fr + 1 ≤ R.frames ∧ 8 + (maxL + 11) + lo ≤ R.locals) (hn : As.length = na) (hsz : ls.size = nL) (hst : st0 = As.reverse ++ rest) (hcat : (rest.map fun v => v.category).sum ≤ 8) (hdg : decode cc pc = .ok (.invokestatic index, 3)) (hf : cells ≤ R.cells ∧ slots ≤ R.slots)
    (kk : ∀ (r : Int64) (S' : wS) (H1 : Heap) (locs1 : List Loc), post r S' → WB D tys n cy ad sk A s (up S') H1 locs1 → W p l e R s m args below meth c H1 locs1 cells slots Q (F0 m (pc + 3) ls (.long r :: rest))) : W p l e R s m args below meth c H locs cells slots Q (F0 m pc ls st0) := by
  have h3 := (sub.P w).2.2
  refine va_calll (va_runS (As := As) (rest := rest) ⟨hx, hb, hml, hown, hg⟩ (hM H.size) ⟨wCallB hg hcd hini hl hd hR, hg _ hsta⟩ ⟨wPre_blind hE2, fun U hU hW => wPre_of hE2 sub w hE hty hU hW _⟩ rfl hn hsz hst (lv_room hcat) hdg hf) w.2.2.2.1 (fun q _ h => h3 q h) h3 (fun r u t H1 locs1 ht hvm hw hB hz1 hk1 hS => ?_)
  exact kk r u H1 locs1 hw (sub.back w (by rw [← ht]; exact hB.1) hk1 hS)
end CRL
