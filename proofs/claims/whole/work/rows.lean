section
-- ===== PART A: goes FIRST, ahead of the names: the tables' words, and 'selects' of the private methods out of them =====
/-- a private method of a class that the tables say can be made, by its rows of tables_1 -/
def lw_okq (q : MethodName × Nat) : Prop := (q.1.cls ≠ "java/lang/invoke/MethodHandle" ∧ q.1.cls ≠ "java/lang/invoke/VarHandle") ∧ Cond.instantiable q.1.cls q.2 ∈ tables_1 ∧ Cond.privateMethod q.1 ∈ tables_1 ∧ Cond.instanceMethod q.1 ∈ tables_1
theorem lw_p0 : lw_okq (⟨"DigestTrees$Message", "makeLock", "(LDigestTrees$Bytes;)V"⟩, 7) := ⟨⟨by decide +kernel, by decide +kernel⟩, List.mem_of_getElem? (i := 74) (by decide +kernel), List.mem_of_getElem? (i := 263) (by decide +kernel), List.mem_of_getElem? (i := 264) (by decide +kernel)⟩
theorem lw_p1 : lw_okq (⟨"DigestTrees$Mill", "put", "(I)V"⟩, 5) := ⟨⟨by decide +kernel, by decide +kernel⟩, List.mem_of_getElem? (i := 48) (by decide +kernel), List.mem_of_getElem? (i := 282) (by decide +kernel), List.mem_of_getElem? (i := 283) (by decide +kernel)⟩
theorem lw_p2 : lw_okq (⟨"DigestTrees$Mill", "work", "()V"⟩, 5) := ⟨⟨by decide +kernel, by decide +kernel⟩, List.mem_of_getElem? (i := 48) (by decide +kernel), List.mem_of_getElem? (i := 286) (by decide +kernel), List.mem_of_getElem? (i := 287) (by decide +kernel)⟩
theorem lw_p3 : lw_okq (⟨"DigestTrees$Message", "beginLocked", "(I)V"⟩, 7) := ⟨⟨by decide +kernel, by decide +kernel⟩, List.mem_of_getElem? (i := 74) (by decide +kernel), List.mem_of_getElem? (i := 308) (by decide +kernel), List.mem_of_getElem? (i := 309) (by decide +kernel)⟩
theorem lw_p4 : lw_okq (⟨"DigestTrees", "isLeaf", "(I)Z"⟩, 10) := ⟨⟨by decide +kernel, by decide +kernel⟩, List.mem_of_getElem? (i := 21) (by decide +kernel), List.mem_of_getElem? (i := 373) (by decide +kernel), List.mem_of_getElem? (i := 374) (by decide +kernel)⟩
theorem lw_p5 : lw_okq (⟨"DigestTrees", "setLeaf", "(LDigestTrees$Tree;II)V"⟩, 10) := ⟨⟨by decide +kernel, by decide +kernel⟩, List.mem_of_getElem? (i := 21) (by decide +kernel), List.mem_of_getElem? (i := 377) (by decide +kernel), List.mem_of_getElem? (i := 378) (by decide +kernel)⟩
theorem lw_p6 : lw_okq (⟨"DigestTrees", "spotOf", "(LDigestTrees$Bytes;)I"⟩, 10) := ⟨⟨by decide +kernel, by decide +kernel⟩, List.mem_of_getElem? (i := 21) (by decide +kernel), List.mem_of_getElem? (i := 448) (by decide +kernel), List.mem_of_getElem? (i := 449) (by decide +kernel)⟩
theorem lw_p7 : lw_okq (⟨"java/lang/NullPointerException", "getExtendedNPEMessage", "()Ljava/lang/String;"⟩, 8) := ⟨⟨by decide +kernel, by decide +kernel⟩, List.mem_of_getElem? (i := 511) (by decide +kernel), List.mem_of_getElem? (i := 509) (by decide +kernel), List.mem_of_getElem? (i := 510) (by decide +kernel)⟩
theorem lw_p8 : lw_okq (⟨"java/lang/Throwable", "fillInStackTrace", "(I)Ljava/lang/Throwable;"⟩, 6) := ⟨⟨by decide +kernel, by decide +kernel⟩, List.mem_of_getElem? (i := 520) (by decide +kernel), List.mem_of_getElem? (i := 518) (by decide +kernel), List.mem_of_getElem? (i := 519) (by decide +kernel)⟩
theorem lw_p9 : lw_okq (⟨"DigestTreesModel", "cubeBits", "(I)I"⟩, 40) := ⟨⟨by decide +kernel, by decide +kernel⟩, List.mem_of_getElem? (i := 642) (by decide +kernel), List.mem_of_getElem? (i := 648) (by decide +kernel), List.mem_of_getElem? (i := 649) (by decide +kernel)⟩
theorem lw_p10 : lw_okq (⟨"DigestTreesModel", "multiply", "([J[JII)V"⟩, 40) := ⟨⟨by decide +kernel, by decide +kernel⟩, List.mem_of_getElem? (i := 642) (by decide +kernel), List.mem_of_getElem? (i := 652) (by decide +kernel), List.mem_of_getElem? (i := 653) (by decide +kernel)⟩
theorem lw_p11 : lw_okq (⟨"DigestTreesModel", "squareBits", "(II)I"⟩, 40) := ⟨⟨by decide +kernel, by decide +kernel⟩, List.mem_of_getElem? (i := 642) (by decide +kernel), List.mem_of_getElem? (i := 660) (by decide +kernel), List.mem_of_getElem? (i := 661) (by decide +kernel)⟩
theorem lw_p12 : lw_okq (⟨"DigestTreesModel", "rowsBegin", "()V"⟩, 40) := ⟨⟨by decide +kernel, by decide +kernel⟩, List.mem_of_getElem? (i := 642) (by decide +kernel), List.mem_of_getElem? (i := 664) (by decide +kernel), List.mem_of_getElem? (i := 665) (by decide +kernel)⟩
theorem lw_p13 : lw_okq (⟨"DigestTreesModel", "padKey", "(I)V"⟩, 40) := ⟨⟨by decide +kernel, by decide +kernel⟩, List.mem_of_getElem? (i := 642) (by decide +kernel), List.mem_of_getElem? (i := 810) (by decide +kernel), List.mem_of_getElem? (i := 811) (by decide +kernel)⟩
theorem lw_p14 : lw_okq (⟨"DigestTreesModel", "put", "(I)V"⟩, 40) := ⟨⟨by decide +kernel, by decide +kernel⟩, List.mem_of_getElem? (i := 642) (by decide +kernel), List.mem_of_getElem? (i := 814) (by decide +kernel), List.mem_of_getElem? (i := 815) (by decide +kernel)⟩
theorem lw_p15 : lw_okq (⟨"DigestTreesModel", "work", "(Z)V"⟩, 40) := ⟨⟨by decide +kernel, by decide +kernel⟩, List.mem_of_getElem? (i := 642) (by decide +kernel), List.mem_of_getElem? (i := 818) (by decide +kernel), List.mem_of_getElem? (i := 819) (by decide +kernel)⟩
def lw_privs_1 : List (MethodName × Nat) := [(⟨"DigestTrees$Message", "makeLock", "(LDigestTrees$Bytes;)V"⟩, 7), (⟨"DigestTrees$Mill", "put", "(I)V"⟩, 5), (⟨"DigestTrees$Mill", "work", "()V"⟩, 5), (⟨"DigestTrees$Message", "beginLocked", "(I)V"⟩, 7), (⟨"DigestTrees", "isLeaf", "(I)Z"⟩, 10), (⟨"DigestTrees", "setLeaf", "(LDigestTrees$Tree;II)V"⟩, 10), (⟨"DigestTrees", "spotOf", "(LDigestTrees$Bytes;)I"⟩, 10), (⟨"java/lang/NullPointerException", "getExtendedNPEMessage", "()Ljava/lang/String;"⟩, 8), (⟨"java/lang/Throwable", "fillInStackTrace", "(I)Ljava/lang/Throwable;"⟩, 6), (⟨"DigestTreesModel", "cubeBits", "(I)I"⟩, 40), (⟨"DigestTreesModel", "multiply", "([J[JII)V"⟩, 40), (⟨"DigestTreesModel", "squareBits", "(II)I"⟩, 40), (⟨"DigestTreesModel", "rowsBegin", "()V"⟩, 40), (⟨"DigestTreesModel", "padKey", "(I)V"⟩, 40), (⟨"DigestTreesModel", "put", "(I)V"⟩, 40), (⟨"DigestTreesModel", "work", "(Z)V"⟩, 40)]
theorem lw_r1 : ∀ q ∈ lw_privs_1, lw_okq q := List.forall_mem_cons.mpr ⟨lw_p0, List.forall_mem_cons.mpr ⟨lw_p1, List.forall_mem_cons.mpr ⟨lw_p2, List.forall_mem_cons.mpr ⟨lw_p3, List.forall_mem_cons.mpr ⟨lw_p4, List.forall_mem_cons.mpr ⟨lw_p5, List.forall_mem_cons.mpr ⟨lw_p6, List.forall_mem_cons.mpr ⟨lw_p7, List.forall_mem_cons.mpr ⟨lw_p8, List.forall_mem_cons.mpr ⟨lw_p9, List.forall_mem_cons.mpr ⟨lw_p10, List.forall_mem_cons.mpr ⟨lw_p11, List.forall_mem_cons.mpr ⟨lw_p12, List.forall_mem_cons.mpr ⟨lw_p13, List.forall_mem_cons.mpr ⟨lw_p14, List.forall_mem_cons.mpr ⟨lw_p15, fun _ h => absurd h List.not_mem_nil⟩⟩⟩⟩⟩⟩⟩⟩⟩⟩⟩⟩⟩⟩⟩⟩
theorem lw_p16 : lw_okq (⟨"DigestTreesModel", "block", "(I)V"⟩, 40) := ⟨⟨by decide +kernel, by decide +kernel⟩, List.mem_of_getElem? (i := 642) (by decide +kernel), List.mem_of_getElem? (i := 823) (by decide +kernel), List.mem_of_getElem? (i := 824) (by decide +kernel)⟩
theorem lw_p17 : lw_okq (⟨"DigestTreesModel", "byteOfH", "(I)I"⟩, 40) := ⟨⟨by decide +kernel, by decide +kernel⟩, List.mem_of_getElem? (i := 642) (by decide +kernel), List.mem_of_getElem? (i := 830) (by decide +kernel), List.mem_of_getElem? (i := 831) (by decide +kernel)⟩
theorem lw_p18 : lw_okq (⟨"DigestTreesModel", "made", "(II)I"⟩, 40) := ⟨⟨by decide +kernel, by decide +kernel⟩, List.mem_of_getElem? (i := 642) (by decide +kernel), List.mem_of_getElem? (i := 834) (by decide +kernel), List.mem_of_getElem? (i := 835) (by decide +kernel)⟩
theorem lw_p19 : lw_okq (⟨"DigestTreesModel", "keepDigest", "(I)I"⟩, 40) := ⟨⟨by decide +kernel, by decide +kernel⟩, List.mem_of_getElem? (i := 642) (by decide +kernel), List.mem_of_getElem? (i := 838) (by decide +kernel), List.mem_of_getElem? (i := 839) (by decide +kernel)⟩
theorem lw_p20 : lw_okq (⟨"DigestTreesModel", "isDigest", "(I)Z"⟩, 40) := ⟨⟨by decide +kernel, by decide +kernel⟩, List.mem_of_getElem? (i := 642) (by decide +kernel), List.mem_of_getElem? (i := 858) (by decide +kernel), List.mem_of_getElem? (i := 859) (by decide +kernel)⟩
theorem lw_p21 : lw_okq (⟨"DigestTreesModel", "layLeaf", "(III)V"⟩, 40) := ⟨⟨by decide +kernel, by decide +kernel⟩, List.mem_of_getElem? (i := 642) (by decide +kernel), List.mem_of_getElem? (i := 890) (by decide +kernel), List.mem_of_getElem? (i := 891) (by decide +kernel)⟩
theorem lw_p22 : lw_okq (⟨"DigestTreesModel", "layLevel", "(I)V"⟩, 40) := ⟨⟨by decide +kernel, by decide +kernel⟩, List.mem_of_getElem? (i := 642) (by decide +kernel), List.mem_of_getElem? (i := 902) (by decide +kernel), List.mem_of_getElem? (i := 903) (by decide +kernel)⟩
theorem lw_p23 : lw_okq (⟨"DigestTreesModel", "toLevel", "(I)V"⟩, 40) := ⟨⟨by decide +kernel, by decide +kernel⟩, List.mem_of_getElem? (i := 642) (by decide +kernel), List.mem_of_getElem? (i := 906) (by decide +kernel), List.mem_of_getElem? (i := 907) (by decide +kernel)⟩
theorem lw_p24 : lw_okq (⟨"DigestTreesModel", "rise", "(I)I"⟩, 40) := ⟨⟨by decide +kernel, by decide +kernel⟩, List.mem_of_getElem? (i := 642) (by decide +kernel), List.mem_of_getElem? (i := 910) (by decide +kernel), List.mem_of_getElem? (i := 911) (by decide +kernel)⟩
theorem lw_p25 : lw_okq (⟨"DigestTreesModel", "putWord", "(I)V"⟩, 40) := ⟨⟨by decide +kernel, by decide +kernel⟩, List.mem_of_getElem? (i := 642) (by decide +kernel), List.mem_of_getElem? (i := 914) (by decide +kernel), List.mem_of_getElem? (i := 915) (by decide +kernel)⟩
theorem lw_p26 : lw_okq (⟨"DigestTreesModel", "workRoot", "(I)V"⟩, 40) := ⟨⟨by decide +kernel, by decide +kernel⟩, List.mem_of_getElem? (i := 642) (by decide +kernel), List.mem_of_getElem? (i := 918) (by decide +kernel), List.mem_of_getElem? (i := 919) (by decide +kernel)⟩
theorem lw_p27 : lw_okq (⟨"DigestTreesModel", "join", "(IZ)V"⟩, 40) := ⟨⟨by decide +kernel, by decide +kernel⟩, List.mem_of_getElem? (i := 642) (by decide +kernel), List.mem_of_getElem? (i := 938) (by decide +kernel), List.mem_of_getElem? (i := 939) (by decide +kernel)⟩
theorem lw_p28 : lw_okq (⟨"DigestTreesModel", "spotOfTape", "()I"⟩, 40) := ⟨⟨by decide +kernel, by decide +kernel⟩, List.mem_of_getElem? (i := 642) (by decide +kernel), List.mem_of_getElem? (i := 946) (by decide +kernel), List.mem_of_getElem? (i := 947) (by decide +kernel)⟩
theorem lw_p29 : lw_okq (⟨"DigestTreesModel", "look", "(I)I"⟩, 40) := ⟨⟨by decide +kernel, by decide +kernel⟩, List.mem_of_getElem? (i := 642) (by decide +kernel), List.mem_of_getElem? (i := 950) (by decide +kernel), List.mem_of_getElem? (i := 951) (by decide +kernel)⟩
theorem lw_p30 : lw_okq (⟨"DigestTreesModel", "isRow", "(I)Z"⟩, 40) := ⟨⟨by decide +kernel, by decide +kernel⟩, List.mem_of_getElem? (i := 642) (by decide +kernel), List.mem_of_getElem? (i := 954) (by decide +kernel), List.mem_of_getElem? (i := 955) (by decide +kernel)⟩
theorem lw_p31 : lw_okq (⟨"DigestTreesModel", "pairs", "()I"⟩, 40) := ⟨⟨by decide +kernel, by decide +kernel⟩, List.mem_of_getElem? (i := 642) (by decide +kernel), List.mem_of_getElem? (i := 970) (by decide +kernel), List.mem_of_getElem? (i := 971) (by decide +kernel)⟩
def lw_privs_2 : List (MethodName × Nat) := [(⟨"DigestTreesModel", "block", "(I)V"⟩, 40), (⟨"DigestTreesModel", "byteOfH", "(I)I"⟩, 40), (⟨"DigestTreesModel", "made", "(II)I"⟩, 40), (⟨"DigestTreesModel", "keepDigest", "(I)I"⟩, 40), (⟨"DigestTreesModel", "isDigest", "(I)Z"⟩, 40), (⟨"DigestTreesModel", "layLeaf", "(III)V"⟩, 40), (⟨"DigestTreesModel", "layLevel", "(I)V"⟩, 40), (⟨"DigestTreesModel", "toLevel", "(I)V"⟩, 40), (⟨"DigestTreesModel", "rise", "(I)I"⟩, 40), (⟨"DigestTreesModel", "putWord", "(I)V"⟩, 40), (⟨"DigestTreesModel", "workRoot", "(I)V"⟩, 40), (⟨"DigestTreesModel", "join", "(IZ)V"⟩, 40), (⟨"DigestTreesModel", "spotOfTape", "()I"⟩, 40), (⟨"DigestTreesModel", "look", "(I)I"⟩, 40), (⟨"DigestTreesModel", "isRow", "(I)Z"⟩, 40), (⟨"DigestTreesModel", "pairs", "()I"⟩, 40)]
theorem lw_r2 : ∀ q ∈ lw_privs_2, lw_okq q := List.forall_mem_cons.mpr ⟨lw_p16, List.forall_mem_cons.mpr ⟨lw_p17, List.forall_mem_cons.mpr ⟨lw_p18, List.forall_mem_cons.mpr ⟨lw_p19, List.forall_mem_cons.mpr ⟨lw_p20, List.forall_mem_cons.mpr ⟨lw_p21, List.forall_mem_cons.mpr ⟨lw_p22, List.forall_mem_cons.mpr ⟨lw_p23, List.forall_mem_cons.mpr ⟨lw_p24, List.forall_mem_cons.mpr ⟨lw_p25, List.forall_mem_cons.mpr ⟨lw_p26, List.forall_mem_cons.mpr ⟨lw_p27, List.forall_mem_cons.mpr ⟨lw_p28, List.forall_mem_cons.mpr ⟨lw_p29, List.forall_mem_cons.mpr ⟨lw_p30, List.forall_mem_cons.mpr ⟨lw_p31, fun _ h => absurd h List.not_mem_nil⟩⟩⟩⟩⟩⟩⟩⟩⟩⟩⟩⟩⟩⟩⟩⟩
def lw_privs : List (MethodName × Nat) := lw_privs_1 ++ (lw_privs_2)
def lw_tbl : List Cond := k2_sels lw_privs ++ tables_1
theorem lw_privs_ok : ∀ q ∈ lw_privs, lw_okq q := by
  show ∀ q ∈ lw_privs_1 ++ (lw_privs_2), lw_okq q
  exact List.forall_mem_append.mpr ⟨lw_r1, lw_r2⟩
-- ===== end of PART A; then your names; then what follows =====
end
section
/-- arrays of arrays of t can be made (the printed row va_mna speaks of it) -/
def va_AOA (t : FieldType) (U : State) : Prop := (Cond.arrayOver (.array t)).before #[] U = true
theorem va_AOA.use {t : FieldType} {A : Array Value} {U : State} (h : va_AOA t U) : (Cond.arrayOver (.array t)).before A U = true := h
/-! ===== BEGIN words of one list among another's, by their places ===== -/
theorem goodIn_r {big : List Cond} (ws : List Cond) (ps : List Nat) (hp : ws = ps.filterMap (fun i => big[i]?)) (h : ws.all goodWord = true) : GoodIn big ws := by
  intro w hw
  have h1 := List.all_eq_true.mp h w hw
  rw [hp] at hw
  obtain ⟨i, -, hi⟩ := List.mem_filterMap.mp hw
  have hm : w ∈ big := by first | exact List.mem_of_getElem? hi | exact List.getElem?_mem hi
  exact ⟨hm, good_of_word h1⟩
theorem goodIn_app {big a b : List Cond} (ha : GoodIn big a) (hb : GoodIn big b) : GoodIn big (a ++ b) := fun w h => (List.mem_append.mp h).elim (ha w) (hb w)
theorem goodIn_ca {big a b : List Cond} {c : Cond} (ha : GoodIn big (c :: a)) (hb : GoodIn big b) : GoodIn big (c :: (a ++ b)) := fun w h => (List.mem_cons.mp h).elim (fun e => ha w (List.mem_cons.mpr (Or.inl e))) (fun h => (List.mem_append.mp h).elim (fun h => ha w (List.mem_cons.mpr (Or.inr h))) (hb w))
theorem goodIn_sub {big ws : List Cond} (hm : ∀ w ∈ ws, w ∈ big) (h : ws.all goodWord = true) : GoodIn big ws := fun w hw => ⟨hm w hw, good_of_word (List.all_eq_true.mp h w hw)⟩
/-! ===== END ===== -/

/-! ===== BEGIN new T[n][m]: the outer array a place, the inner ones among the pooled ===== -/
/-- f, but v at every address of l -/
def vr_up {α : Type} (f : Nat → α) (l : List Nat) (v : α) : Nat → α := fun a => if a ∈ l then v else f a
theorem vr_up_in {α : Type} {f : Nat → α} {l : List Nat} {v : α} {a : Nat} (h : a ∈ l) : vr_up f l v a = v := if_pos h
theorem vr_up_ne {α : Type} {f : Nat → α} {l : List Nat} {v : α} {a : Nat} (h : a ∉ l) : vr_up f l v a = f a := if_neg h
theorem vr_rows {L l : List Nat} {f : Nat → va_E} {e : va_E} (h : ∀ a, a ∈ l → a ∉ L) : va_pl L f ++ l.map (fun a => (a, e)) = va_pl (L ++ l) (vr_up f l e) := by
  unfold va_pl
  rw [List.map_append]
  congr 1
  · apply List.map_congr_left
    intro a ha
    rw [vr_up_ne (fun q => h a q ha)]
  · apply List.map_congr_left
    intro a ha
    rw [vr_up_in ha]
theorem vr_lay {X rows : va_W} {x : Nat × va_E} {pl : va_W} {D : va_G} {cl : List vw_C} {H : Heap} (hP : va_P D cl (((X ++ pl) ++ [x]) ++ rows) H) : va_P D cl ((X ++ [x]) ++ (pl ++ rows)) H := by
  rw [List.append_assoc (X ++ pl)] at hP
  have h := va_P.swap hP
  rw [← List.append_assoc X] at h
  have h2 := va_P.swap h
  rw [List.append_assoc (X ++ [x])] at h2
  exact h2
theorem vr_layD {X rows : va_W} {x : Nat × va_E} {pl : va_W} {A : Nat → Prop} (hD : va_D A (((X ++ pl) ++ [x]) ++ rows)) : va_D A ((X ++ [x]) ++ (pl ++ rows)) := by
  rw [List.append_assoc (X ++ pl)] at hD
  have h := va_D.swap hD
  rw [← List.append_assoc X] at h
  have h2 := va_D.swap h
  rw [List.append_assoc (X ++ [x])] at h2
  exact h2
theorem vr_outer (c : ClassId) (N h0 : Nat) : ∀ i : Nat, Jvm.Free.Multi.outerC c N h0 i = arrV c N (fun j => va_rf (if j < i then some (h0 + 1 + j) else none))
  | 0 => by
    show ({ cls := c, slots := Array.replicate N .null, vm := .none } : Cell) = _
    rw [arrV_new]
    refine congrArg (arrV c N) (funext fun j => ?_)
    simp [va_rf]
  | i + 1 => by
    show (Jvm.Free.Multi.outerC c N h0 i).setSlot i (.ref (h0 + 1 + i)) = _
    rw [vr_outer c N h0 i, arrV_store]
    refine congrArg (arrV c N) (funext fun j => ?_)
    by_cases e : j = i
    · subst e
      simp [updV, va_rf]
    · by_cases h : j < i
      · simp [updV, e, h, Nat.lt_succ_of_lt h]
      · simp [updV, e, h, show ¬ j < i + 1 by omega]
section VGM
variable {p : Program} {l : Launch} {e : Env} {R : Room} {s : State} {m : MethodId} {args : Array Value} {below : List Frame} {meth : Method} {c : Code} {H : Heap} {locs : List Loc} {cells slots : Nat} {Q : State → Prop}
variable {cc : ByteArray} {pc : Nat} {ls : Array Slot} {rest : List Value} {D : va_G} {cl : List vw_C} {A : Nat → Prop} {a : Nat} {tys : List (ClassId × FieldType)} {ws : va_W} {H0 : Heap}
theorem va_mna {X : va_W} {L : List Nat} {f : Nat → va_E} {cc : ByteArray} (hexec : p.tables.exec = Jvm.exec) (hb : c.code = cc) {own : String} {index : Nat} {ty : FieldType} {cy : ClassId} (hown : s.vm.findClass own = some m.cls) (hclink : (Cond.classLink own index ("[" ++ (FieldType.array ty).toString)).before args s = true) (hover : va_AOA ty s) (harr : (Cond.arrayClass ty).before args s = true) (hcy : s.vm.findClass (FieldType.array ty).toString = some cy)
    (hK : va_K D cl tys s) (hP : va_P D cl (X ++ va_pl L f) H) (hD : va_D A (X ++ va_pl L f)) (hS : va_S A H0 H locs) (hA : ∀ q, H0.size ≤ q → A q) {n k : Int32} {N' K' : Nat} {z : vp_A} (hn : ¬ n < 0) (hk : ¬ k < 0) (hN : n.toNatClampNeg = N') (hM : k.toNatClampNeg = K')
    (hb1 : N' * 4 ≤ 536870912) (hb2 : K' * componentBytes ty ≤ 536870912) (hb3 : K' ≤ 536870912) (hdf : fits ty (defaultValue ty) = true) (hdd : (defaultValue ty).isDefault = true) (hcells : cells + (1 + N') ≤ R.cells) (hslots : slots + (N' + N' * K') ≤ R.slots) (hz : ∀ c : ClassId, Jvm.Free.Multi.innerC c K' (defaultValue ty) = vp_cell c z) (hdg : decode cc pc = .ok (.multianewarray index 2, 4))
    (kk : ∀ (q : Nat) (r : Nat → Nat) (cA : ClassId) (H1 : Heap), (∀ i j : Nat, i < N' → j < N' → r i = r j → i = j) → (∀ i : Nat, i < N' → r i ∉ L) → va_K D cl (tys ++ [(cA, .array ty)]) s →
      va_P D cl ((X ++ [(q, .inl (cA, N', .inr (.inr (.inr (.inr (fun i => if i < N' then some (r i) else none))))))]) ++ va_pl (L ++ (List.range N').map r) (vr_up f ((List.range N').map r) (.inl (cy, z)))) H1 → va_D A ((X ++ [(q, .inl (cA, N', .inr (.inr (.inr (.inr (fun i => if i < N' then some (r i) else none))))))]) ++ va_pl (L ++ (List.range N').map r) (vr_up f ((List.range N').map r) (.inl (cy, z)))) → va_S A H0 H1 locs →
      W p l e R s m args below meth c H1 locs (cells + 1 + N') (slots + N' + N' * K') Q (F0 m (pc + 4) ls (.ref q :: rest))) : W p l e R s m args below meth c H locs cells slots Q (F0 m pc ls (.int k :: .int n :: rest)) := by
  subst hN
  subst hM
  intro T hT Xs
  obtain ⟨vm₁, cA, comp, -, fA, fC, hO, -, X', step⟩ := Xs.multianewarray2F hexec hown hclink (va_AOA.use hover) harr (g := F0 m pc ls (.int k :: .int n :: rest)) rfl (by rw [hb]; exact hdg) rfl hn hk hb1 hb2 hb3 hdf hdd hcells hslots
  have ec : some cy = some comp := hcy.symm.trans fC
  cases ec
  generalize hF : Jvm.Free.Multi.fill (T.setVm vm₁) cA cy n.toNatClampNeg k.toNatClampNeg (defaultValue ty) n.toNatClampNeg = F at X' step
  have hTh : (T.setVm vm₁).heap = H := hT
  obtain ⟨f1, f2, -, -⟩ := Jvm.Free.Multi.fill_facts (T.setVm vm₁) cA cy n.toNatClampNeg k.toNatClampNeg (defaultValue ty) n.toNatClampNeg
  rw [hF, hTh] at f1 f2
  have hold : ∀ x : Nat, x < H.size → F.heap[x]? = H[x]? := fun x hx => by
    have := Jvm.Free.Multi.fill_old (T.setVm vm₁) cA cy n.toNatClampNeg k.toNatClampNeg (defaultValue ty) (a := x) (by rw [hTh]; exact hx) n.toNatClampNeg
    rw [hF, hTh] at this
    exact this
  have hrow : ∀ j : Nat, j < n.toNatClampNeg → F.heap[H.size + 1 + j]? = some (vp_cell cy z) := fun j hj => by
    have := Jvm.Free.Multi.fill_inner (T.setVm vm₁) cA cy n.toNatClampNeg k.toNatClampNeg (defaultValue ty) n.toNatClampNeg j hj
    rw [hF, hTh, hz] at this
    exact this
  have hout : Jvm.Free.Multi.outerC cA n.toNatClampNeg H.size n.toNatClampNeg = vp_cell cA (n.toNatClampNeg, .inr (.inr (.inr (.inr (fun i => if i < n.toNatClampNeg then some (H.size + 1 + i) else none))))) := by
    rw [vp_cell_q]
    exact vr_outer cA n.toNatClampNeg H.size n.toNatClampNeg
  rw [hout] at f2
  have hlt : ∀ a, a ∈ L → a < H.size := fun a ha => by
    obtain ⟨k9, hk9⟩ := va_pl_get (X := X) (f := f) ha
    exact (hP k9 _ hk9).lt
  have hnl : ∀ i : Nat, i < n.toNatClampNeg → H.size + 1 + i ∉ L := fun i _ h => by
    have := hlt _ h
    omega
  have hnm : ∀ a, a ∈ (List.range n.toNatClampNeg).map (fun i => H.size + 1 + i) → a ∉ L := fun a ha h => by
    obtain ⟨i, -, rfl⟩ := List.mem_map.mp ha
    have := hlt _ h
    omega
  have hP0 : va_P D cl (X ++ va_pl L f) F.heap := hP.kept (fun k9 x hx => hold x.1 ((hP k9 x hx).lt))
  have hP1 : va_P D cl ((X ++ va_pl L f) ++ [(H.size, .inl (cA, n.toNatClampNeg, .inr (.inr (.inr (.inr (fun i => if i < n.toNatClampNeg then some (H.size + 1 + i) else none))))))]) F.heap := hP0.app (fun k9 x hx => by
    have h0 : k9 < 1 := (List.getElem?_eq_some_iff.mp hx).1
    rw [show k9 = 0 by omega] at hx
    cases hx
    exact f2)
  have hP2 : va_P D cl (((X ++ va_pl L f) ++ [(H.size, .inl (cA, n.toNatClampNeg, .inr (.inr (.inr (.inr (fun i => if i < n.toNatClampNeg then some (H.size + 1 + i) else none))))))]) ++ ((List.range n.toNatClampNeg).map (fun i => H.size + 1 + i)).map (fun a => (a, .inl (cy, z)))) F.heap := hP1.app (fun k9 x hx => by
    obtain ⟨a, ha, rfl⟩ := List.mem_map.mp (List.mem_of_getElem? hx)
    obtain ⟨i, hi, rfl⟩ := List.mem_map.mp ha
    exact hrow i (List.mem_range.mp hi))
  have hD2 : va_D A (((X ++ va_pl L f) ++ [(H.size, .inl (cA, n.toNatClampNeg, .inr (.inr (.inr (.inr (fun i => if i < n.toNatClampNeg then some (H.size + 1 + i) else none))))))]) ++ ((List.range n.toNatClampNeg).map (fun i => H.size + 1 + i)).map (fun a => (a, .inl (cy, z)))) := by
    have hD1 := hD.push (e := .inl (cA, n.toNatClampNeg, .inr (.inr (.inr (.inr (fun i => if i < n.toNatClampNeg then some (H.size + 1 + i) else none)))))) hP rfl (hA _ hS.1)
    generalize hW1 : (X ++ va_pl L f) ++ [(H.size, .inl (cA, n.toNatClampNeg, .inr (.inr (.inr (.inr (fun i => if i < n.toNatClampNeg then some (H.size + 1 + i) else none))))))] = W1 at hD1 hP1 ⊢
    have hle : ∀ (k9 : Nat) (x : Nat × va_E), W1[k9]? = some x → x.1 ≤ H.size := fun k9 x hx => by
      rw [← hW1] at hx
      by_cases hl : k9 < (X ++ va_pl L f).length
      · rw [List.getElem?_append_left hl] at hx
        exact Nat.le_of_lt ((hP k9 x hx).lt)
      · rw [List.getElem?_append_right (by omega)] at hx
        have h0 : k9 - (X ++ va_pl L f).length < 1 := (List.getElem?_eq_some_iff.mp hx).1
        rw [show k9 - (X ++ va_pl L f).length = 0 by omega] at hx
        cases hx
        exact Nat.le_refl _
    have hr : ∀ (k9 : Nat) (x : Nat × va_E), (((List.range n.toNatClampNeg).map (fun i => H.size + 1 + i)).map (fun a => ((a, .inl (cy, z)) : Nat × va_E)))[k9]? = some x → x.1 = H.size + 1 + k9 := fun k9 x hx => by
      rw [List.getElem?_map, List.getElem?_map] at hx
      by_cases h9 : k9 < n.toNatClampNeg
      · rw [List.getElem?_range h9] at hx
        cases hx
        rfl
      · have hn0 : (List.range n.toNatClampNeg)[k9]? = none := List.getElem?_eq_none (by rw [List.length_range]; omega)
        rw [hn0] at hx
        cases hx
    refine ⟨fun i j x y hi hj hxy => ?_, fun k9 x hx => ?_⟩
    · by_cases h1 : i < W1.length <;> by_cases h2 : j < W1.length
      · rw [List.getElem?_append_left h1] at hi
        rw [List.getElem?_append_left h2] at hj
        exact hD1.1 i j x y hi hj hxy
      · rw [List.getElem?_append_left h1] at hi
        rw [List.getElem?_append_right (by omega)] at hj
        have := hle _ _ hi
        have := hr _ _ hj
        omega
      · rw [List.getElem?_append_right (by omega)] at hi
        rw [List.getElem?_append_left h2] at hj
        have := hle _ _ hj
        have := hr _ _ hi
        omega
      · rw [List.getElem?_append_right (by omega)] at hi hj
        have := hr _ _ hi
        have := hr _ _ hj
        omega
    · by_cases h1 : k9 < W1.length
      · rw [List.getElem?_append_left h1] at hx
        exact hD1.2 k9 x hx
      · rw [List.getElem?_append_right (by omega)] at hx
        have := hr _ _ hx
        exact hA _ (by have := hS.1; omega)
  have hAr : ArrOfT s cA (.array ty) := fun N9 z9 => by
    obtain ⟨-, k9, hk9, cm9, hkk9⟩ := (hO 0 0 0).1
    exact ⟨(fun q hq => by cases hq), k9, hk9, cm9, hkk9⟩
  have hK2 : va_K D cl (tys ++ [(cA, .array ty)]) s := ⟨hK.1, fun k9 x hx => by
    by_cases hl : k9 < tys.length
    · rw [List.getElem?_append_left hl] at hx
      exact hK.2 k9 x hx
    · rw [List.getElem?_append_right (by omega)] at hx
      have h0 : k9 - tys.length < 1 := (List.getElem?_eq_some_iff.mp hx).1
      rw [show k9 - tys.length = 0 by omega] at hx
      cases hx
      exact ⟨hAr, fA⟩⟩
  obtain ⟨t, a1, b1⟩ := kk H.size (fun i => H.size + 1 + i) cA F.heap (fun i j _ _ h => by have h9 : H.size + 1 + i = H.size + 1 + j := h; omega) hnl hK2 (by rw [← vr_rows hnm]; exact vr_lay hP2) (by rw [← vr_rows hnm]; exact vr_layD hD2) ⟨by rw [f1]; have := hS.1; omega, fun x h1 h2 => (hold x (Nat.lt_of_lt_of_le h1 hS.1)).trans (hS.2.1 x h1 h2), hS.2.2⟩ F rfl X'
  refine ⟨t, step t ?_, b1⟩
  have e : T.heap.size = H.size := by rw [hT]
  rw [e]
  exact a1
end VGM
/-! ===== END ===== -/
end
section
/-! ===== BEGIN exceptions that leave a method, and their catching by the caller (launches without stack traces) ===== -/
section VXA
/-! The laws vx_back, vx_callV, vx_callS, vx_callSW, vx_throw0, vx_throwS follow proofs of the library, with one case more: JvmDerived/Free/Laws.lean (Back.of_free), Shelf42/LK1.lean (callV, callS), Shelf/KitTraced.lean (throwNew0V, throwNewS). -/
/-- where a method has thrown q: the class by its name, the cell, what was written, the world -/
def vx_T (XC : String → State → State → Prop) (st : State) (q : Addr) (t : State) (mc ms : Nat) (free : Addr → Prop) : Prop :=
  ∃ (E : String) (ce : Cell) (L : List Loc), XC E st t ∧ t.heap[q]? = some ce ∧ ce.vm = .none ∧ st.vm.findClass E = some ce.cls ∧ st.WarmedH t.vm ∧ st.sameButNew ({ t with vm := st.vm } : State) L mc ms ∧ ∀ z ∈ L, free z.base
def vx_Q (Qc : Array Value → State → Outcome → State → Prop) (XC : String → State → State → Prop) (mc ms : Nat) (free : Addr → Prop) : Array Value → State → Outcome → State → Prop := fun a st o t =>
  (Qc a st o t ∧ ∃ L, FrameEnd st o t L mc ms ∧ ∀ q ∈ L, free q.base) ∨ ∃ q, o = .threw q ∧ vx_T XC st q t mc ms free
/-- a callee that returns or throws -/
def vx_Met (l : Launch) (y : MethodName) (ws : List Cond) (rm : Room) (Pc : Array Value → State → Prop) (Qc : Array Value → State → Outcome → State → Prop) (XC : String → State → State → Prop) (mc ms : Nat) (free : Addr → Prop) : Prop :=
  MetFree l y (headSpec ws rm) Pc (fun _ _ _ _ _ => True) (vx_Q Qc XC mc ms free)
def vx_Post (XC : String → State → State → Prop) (mc ms : Nat) (free : Addr → Prop) : Pt → Array Value → Addr → Pt → Prop := fun A a q B =>
  ∃ (g : JFrame) (mk : MethodId) (t : State) (L : List Loc) (E : String) (ce : Cell), B.U.heap = t.heap ∧ B.U.vm = t.vm ∧ XC E (A.U.calling g mk a) t ∧ t.heap[q]? = some ce ∧ ce.vm = .none ∧ A.U.vm.findClass E = some ce.cls ∧ B.locs = A.locs ++ L ∧ (∀ z ∈ L, free z.base) ∧ B.cells = A.cells + mc ∧ B.slots = A.slots + ms
def vx_Back (l : Launch) (R : Room) (p : Program) (e : Env) (below : List Frame) (s : State) (sargs : Array Value) (y : MethodName) (len W9 : Nat)
    (Pre : Pt → Array Value → Prop) (Post : Pt → Array Value → Option Value → Pt → Prop) (PostX : Pt → Array Value → Addr → Pt → Prop) : Prop :=
  ∀ (m : MethodId) (meth : Method) (c : Code) (A : Pt) (g : JFrame) (ig : Instr) (mk : MethodId) (a : Array Value),
    Stand p l e R s m sargs below meth c A.U A.locs A.cells A.slots → g.method = m → g.locals.size = c.maxLocals → decode c.code g.pc = .ok (ig, len) →
    2 * g.monitorRoom + (g.stack.map fun v => v.category).sum ≤ W9 → A.U.methodNamed? y = some mk → Pre A a →
    (∃ (v : Option Value) (B : Pt), Stand p l e R s m sargs below meth c B.U B.locs B.cells B.slots ∧ Post A a v B ∧
      Steps p.tables e below (doInvoke e (A.U.setTop g) [] mk a).1 (B.U.setTop { g with pc := g.pc + len, stack := v.toList ++ g.stack })) ∨
    (∃ (q : Addr) (B : Pt), Stand p l e R s m sargs below meth c B.U B.locs B.cells B.slots ∧ PostX A a q B ∧
      Steps p.tables e below (doInvoke e (A.U.setTop g) [] mk a).1 ((B.U.setTop g).pushFrame (.throwing q)))
section Payer
variable {l : Launch} {R : Room} {p : Program} {e : Env} {below : List Frame} {s : State} {sargs : Array Value} {y : MethodName} {len W9 : Nat}
theorem vx_back {ws : List Cond} {rm : Room} {Pc : Array Value → State → Prop} {Qc : Array Value → State → Outcome → State → Prop} {XC : String → State → State → Prop} {mc ms : Nat} {free : Addr → Prop} {bytes : ByteArray} {maxL : Nat} {ret : Option FieldType}
    (hM : vx_Met l y ws rm Pc Qc XC mc ms free) (hblind : FrameBlind Pc) (hrc : rm.cells = mc) (hrs : rm.slots = ms)
    (hframes : rm.frames + 1 ≤ R.frames) (hlocals : W9 + (maxL + 11) + rm.locals ≤ R.locals)
    (hws : ∀ w ∈ ws, ∀ a' U, s.WarmedH U.vm → w.before a' U = true) (hcode : Cond.code y bytes maxL ret ∈ ws) (hinit : ∀ a' U, s.WarmedH U.vm → (Cond.initialized y.cls).before a' U = true) :
    vx_Back l R p e below s sargs y len W9 (PreOf R mc ms Pc) (PostOf Qc mc ms free) (vx_Post XC mc ms free) := by
  intro m meth c A g ig mk a X hg hsize hdg hW hn hp
  have h1 : (headSpec ws rm).pre.before a A.U = true := atoms_intro fun w hw => hws w hw _ _ X.warmed
  have h2 : (Cond.code y bytes maxL ret).before a A.U = true := hws _ hcode _ _ X.warmed
  have h3 : (Cond.initialized y.cls).before a A.U = true := hinit _ _ X.warmed
  have h4 : A.cells + (headSpec ws rm).room.cells ≤ R.cells := by rw [show (headSpec ws rm).room.cells = mc from hrc]; exact hp.1
  have h5 : A.slots + (headSpec ws rm).room.slots ≤ R.slots := by rw [show (headSpec ws rm).room.slots = ms from hrs]; exact hp.2.1
  have hPc : Pc a (A.U.calling g mk a) := hblind _ _ _ _ hp.2.2
  obtain ⟨U, Ls, c0, s0⟩ := A
  dsimp only [Pt.U, Pt.locs, Pt.cells, Pt.slots] at h1 h2 h3 h4 h5 X hn hPc ⊢
  obtain ⟨methY, cY, hmY, hcY, -, hlY, -, -, -, -⟩ := Cond.code_spec hn h2
  obtain ⟨kY, hkY, -⟩ := className_of_methodNamed hn
  have hinitY : kY.init = .initialized := Cond.initialized_spec (findClass_of_methodNamed hn) hkY h3
  have h : At U g.method c below := by rw [hg]; exact X.here
  have hlocals9 : W9 + (maxL + 11) + (headSpec ws rm).room.locals ≤ R.locals := hlocals
  have happ : (headSpec ws rm).appliesLoose y e.platform (U.calling g mk a) = true :=
    Spec.appliesLoose_calling (g := g) h hdg hn hkY hinitY
      (X.room_calling (g := g) (R' := (headSpec ws rm).room) hsize hmY hcY hframes (by rw [hlY]; omega) h4 h5) h1
  obtain ⟨mid, hmid⟩ := h.above
  have hfr : (U.setTop g).frames = (.java g :: mid) ++ below := by rw [State.frames_setTop' g h.top, hmid]; rfl
  obtain ⟨o, s₂, hsteps, -, hend, hq⟩ := Steps.callFree hM p X.admits X.cas X.clock (acts := []) hfr happ hPc trivial
  have hq' : vx_Q Qc XC mc ms free a (U.calling g mk a) o s₂ := hq
  rw [State.frames_setTop' g h.top] at hend
  obtain ⟨g₀, hg0⟩ := Option.isSome_iff_exists.mp h.top
  obtain ⟨r, hr⟩ := State.topJava?_eq_some.mp hg0
  have hr' : (({ U with heap := s₂.heap, slotsUsed := s₂.slotsUsed } : State).setVm s₂.vm).frames = .java g₀ :: r := hr
  rcases hq' with ⟨hqc, L, hfe, hL⟩ | ⟨q, rfl, E, ce, L, hx, hce, hcv, hcl, hW₂, hsm, hL⟩
  · obtain ⟨⟨v, rfl⟩, hW₂, e2, q2, q3, q4, q5, q6⟩ := id hfe
    have e3 : s₂ = ({ (U.calling g mk a).setFrames s₂.frames with heap := s₂.heap, slotsUsed := s₂.slotsUsed } : State).setVm s₂.vm := by
      have : s₂ = ({ s₂ with vm := (U.calling g mk a).vm } : State).setVm s₂.vm := rfl
      rw [e2] at this
      exact this
    obtain ⟨c₂, i₂, len₂, hc₂, hd₂, hf₂⟩ := hend
    have hW' : U.WarmedH s₂.vm := hW₂
    have hcc : c₂ = c := by
      have h1 : s₂.code? g.method = U.code? g.method := by
        rw [State.code?_eq, State.code?_eq, hW'.alike.method?]
      exact Option.some.inj (hc₂.symm.trans (h1.trans h.code))
    subst hcc
    have hlen : len₂ = len := by rw [hdg] at hd₂; cases hd₂; rfl
    subst hlen
    have hs₂ : s₂ = (({ U with heap := s₂.heap, slotsUsed := s₂.slotsUsed } : State).setVm s₂.vm).setTop { g with pc := g.pc + len₂, stack := v.toList ++ g.stack } := by
      refine e3.trans ?_
      rw [hf₂, State.calling_eq h.top, State.setFrames_setFrames, State.setTop_of_frames _ hr', hr]
      rfl
    have hsame : U.sameButNew ({ U with heap := s₂.heap, slotsUsed := s₂.slotsUsed } : State) L mc ms := by
      refine ⟨?_, q2, q3, q4, q5, q6⟩
      obtain ⟨t, ht, -⟩ := State.frames_cons hr
      show ({ U with heap := s₂.heap, slotsUsed := s₂.slotsUsed } : State) = { U.setFrames U.frames with heap := s₂.heap, slotsUsed := s₂.slotsUsed }
      rw [State.setFrames_self ht]
    subst hg
    refine Or.inl ⟨v, ⟨(({ U with heap := s₂.heap, slotsUsed := s₂.slotsUsed } : State).setVm s₂.vm), Ls ++ L, c0 + mc, s0 + ms⟩,
      ⟨X.admits, X.cas, X.clock, X.frames, X.room, X.hears, X.method, X.code, (X.here.setHeapUsed s₂.heap s₂.slotsUsed).setVm hW'.alike, X.tail, State.WarmedH.trans X.warmed hW', X.limits, X.bytes, X.same.trans (hsame.setVm s.vm)⟩,
      ⟨g, mk, s₂, L, rfl, rfl, hqc, rfl, hL, rfl, rfl⟩, ?_⟩
    show Steps p.tables e below _ ((({ U with heap := s₂.heap, slotsUsed := s₂.slotsUsed } : State).setVm s₂.vm).setTop { g with pc := g.pc + len₂, stack := v.toList ++ g.stack })
    rw [← hs₂]
    exact hsteps
  · obtain ⟨e2, q2, q3, q4, q5, q6⟩ := id hsm
    have e3 : s₂ = ({ (U.calling g mk a).setFrames s₂.frames with heap := s₂.heap, slotsUsed := s₂.slotsUsed } : State).setVm s₂.vm := by
      have : s₂ = ({ s₂ with vm := (U.calling g mk a).vm } : State).setVm s₂.vm := rfl
      rw [e2] at this
      exact this
    have hf₂ : s₂.frames = .throwing q :: .java g :: U.frames.tail := hend
    have hW' : U.WarmedH s₂.vm := hW₂
    have hs₂ : s₂ = ((({ U with heap := s₂.heap, slotsUsed := s₂.slotsUsed } : State).setVm s₂.vm).setTop g).pushFrame (.throwing q) := by
      refine e3.trans ?_
      rw [hf₂, State.calling_eq h.top, State.setFrames_setFrames, State.pushFrame, State.frames_setTop _ hr', State.setTop_of_frames _ hr', State.setFrames_setFrames, hr]
      rfl
    have hsame : U.sameButNew ({ U with heap := s₂.heap, slotsUsed := s₂.slotsUsed } : State) L mc ms := by
      refine ⟨?_, q2, q3, q4, q5, q6⟩
      obtain ⟨t, ht, -⟩ := State.frames_cons hr
      show ({ U with heap := s₂.heap, slotsUsed := s₂.slotsUsed } : State) = { U.setFrames U.frames with heap := s₂.heap, slotsUsed := s₂.slotsUsed }
      rw [State.setFrames_self ht]
    subst hg
    refine Or.inr ⟨q, ⟨(({ U with heap := s₂.heap, slotsUsed := s₂.slotsUsed } : State).setVm s₂.vm), Ls ++ L, c0 + mc, s0 + ms⟩,
      ⟨X.admits, X.cas, X.clock, X.frames, X.room, X.hears, X.method, X.code, (X.here.setHeapUsed s₂.heap s₂.slotsUsed).setVm hW'.alike, X.tail, State.WarmedH.trans X.warmed hW', X.limits, X.bytes, X.same.trans (hsame.setVm s.vm)⟩,
      ⟨g, mk, s₂, L, E, ce, rfl, rfl, hx, hce, hcv, hcl, rfl, hL, rfl, rfl⟩, ?_⟩
    show Steps p.tables e below _ (((({ U with heap := s₂.heap, slotsUsed := s₂.slotsUsed } : State).setVm s₂.vm).setTop g).pushFrame (.throwing q))
    rw [← hs₂]
    exact hsteps
end Payer
section Calls
variable {p : Program} {l : Launch} {e : Env} {R : Room} {s : State} {m : MethodId} {args : Array Value} {below : List Frame} {meth : Method} {c : Code} {T : State} {locs : List Loc} {cells slots : Nat}
theorem vx_callV (X : Stand p l e R s m args below meth c T locs cells slots) (hexec : p.tables.exec = Jvm.exec) {own C : String} {index : Nat} {y : MethodName} {bytes : ByteArray} {maxL : Nat} {ret : Option FieldType}
    (hown : s.vm.findClass own = some m.cls) (hlink : (Cond.methodLink own index y).before args s = true) (hinst : (Cond.instanceMethod y).before args s = true) (hsel : (Cond.selects C y y).before args s = true)
    (hcode : (Cond.code y bytes maxL ret).before args s = true) (hy : y.cls ≠ "java/lang/invoke/MethodHandle" ∧ y.cls ≠ "java/lang/invoke/VarHandle")
    {W9 : Nat} {Pre : Pt → Array Value → Prop} {Post : Pt → Array Value → Option Value → Pt → Prop} {PostX : Pt → Array Value → Addr → Pt → Prop} (hK : vx_Back l R p e below s args y 3 W9 Pre Post PostX)
    {b : Addr} {cellB : Cell} (hcell : T.heap[b]? = some cellB) (hobj : cellB.vm.isStatics = false) (hcls : s.vm.findClass C = some cellB.cls)
    {g : JFrame} (hg : g.method = m) (hsize : g.locals.size = c.maxLocals) {argsL rest : List Value} (hlen : ∀ sig, parseMethodDescriptor y.desc = some sig → argsL.length = sig.parameters.length)
    (hstack : g.stack = argsL.reverse ++ .ref b :: rest) (hW : 2 * g.monitorRoom + (rest.map fun v => v.category).sum ≤ W9) (hdg : decode c.code g.pc = .ok (.invokevirtual index, 3))
    (hpre : ∀ vm₁, s.WarmedH vm₁ → Pre ⟨T.setVm vm₁, locs, cells, slots⟩ (Value.ref b :: argsL).toArray) :
    (∃ (v : Option Value) (vm₁ : Vm) (B : Pt), s.WarmedH vm₁ ∧ Stand p l e R s m args below meth c B.U B.locs B.cells B.slots ∧ Post ⟨T.setVm vm₁, locs, cells, slots⟩ (Value.ref b :: argsL).toArray v B ∧
      ∀ target, Steps p.tables e below (B.U.setTop { g with pc := g.pc + 3, stack := v.toList ++ rest }) target → Steps p.tables e below (T.setTop g) target) ∨
    (∃ (q : Addr) (vm₁ : Vm) (B : Pt), s.WarmedH vm₁ ∧ Stand p l e R s m args below meth c B.U B.locs B.cells B.slots ∧ PostX ⟨T.setVm vm₁, locs, cells, slots⟩ (Value.ref b :: argsL).toArray q B ∧
      Steps p.tables e below (T.setTop g) ((B.U.setTop { g with stack := rest }).pushFrame (.throwing q))) := by
  obtain ⟨mk, methM, hnamed, hmethM, hstM, habM⟩ := Cond.instanceMethod_spec hinst
  obtain ⟨methM', cM, hmethM', -, -, -, -, -, -, hsigM⟩ := Cond.code_spec hnamed hcode
  cases hmethM.symm.trans hmethM'
  obtain ⟨c2, r2, m2, q1, q2, q3, q4, kP, hkP, hkPi⟩ := Cond.selects_spec hsel
  cases hcls.symm.trans q1
  cases (State.methodFound?_of_named hnamed hy).symm.trans q2
  cases hnamed.symm.trans q3
  have hselP : selectMethod e.platform s.vm cellB.cls mk = .method mk := by rw [Launch.admits_selectMethod X.admits]; exact q4
  obtain ⟨vm₁, X₁, hstep₁⟩ := X.invokevirtual hexec hown hlink hnamed hmethM hstM hkP hkPi hy (a := b) (cell := cellB) hcell
    (fun z h => by rw [h] at hobj; cases hobj) hselP hmethM habM hkP hkPi (g := g) hg (argsL := argsL) (rest := rest) (hlen _ hsigM) hstack hdg
  rcases hK m meth c ⟨T.setVm vm₁, locs, cells, slots⟩ { g with stack := rest } (.invokevirtual index) mk (Value.ref b :: argsL).toArray X₁ hg hsize hdg hW (X₁.named hnamed) (hpre vm₁ X₁.warmed) with ⟨v, B, X', hpost, hsteps⟩ | ⟨q, B, X', hpost, hsteps⟩
  · exact Or.inl ⟨v, vm₁, B, X₁.warmed, X', hpost, fun target h => hstep₁ _ fun acts => by rw [doInvoke_state]; exact hsteps.trans h⟩
  · exact Or.inr ⟨q, vm₁, B, X₁.warmed, X', hpost, hstep₁ _ fun acts => by rw [doInvoke_state]; exact hsteps⟩
theorem vx_callS (X : Stand p l e R s m args below meth c T locs cells slots) (hexec : p.tables.exec = Jvm.exec) {own : String} {index : Nat} {y : MethodName} {bytes : ByteArray} {maxL : Nat} {ret : Option FieldType}
    (hown : s.vm.findClass own = some m.cls) (hlink : (Cond.methodLink own index y).before args s = true) (hstat : (Cond.static y).before args s = true) (hinit : (Cond.initialized y.cls).before args s = true)
    (hcode : (Cond.code y bytes maxL ret).before args s = true) (hy : y.cls ≠ "java/lang/invoke/MethodHandle" ∧ y.cls ≠ "java/lang/invoke/VarHandle")
    {W9 : Nat} {Pre : Pt → Array Value → Prop} {Post : Pt → Array Value → Option Value → Pt → Prop} {PostX : Pt → Array Value → Addr → Pt → Prop} (hK : vx_Back l R p e below s args y 3 W9 Pre Post PostX)
    {g : JFrame} (hg : g.method = m) (hsize : g.locals.size = c.maxLocals) {argsL rest : List Value} (hlen : ∀ sig, parseMethodDescriptor y.desc = some sig → argsL.length = sig.parameters.length)
    (hstack : g.stack = argsL.reverse ++ rest) (hW : 2 * g.monitorRoom + (rest.map fun v => v.category).sum ≤ W9) (hdg : decode c.code g.pc = .ok (.invokestatic index, 3))
    (hpre : ∀ vm₁, s.WarmedH vm₁ → Pre ⟨T.setVm vm₁, locs, cells, slots⟩ argsL.toArray) :
    (∃ (v : Option Value) (vm₁ : Vm) (B : Pt), s.WarmedH vm₁ ∧ Stand p l e R s m args below meth c B.U B.locs B.cells B.slots ∧ Post ⟨T.setVm vm₁, locs, cells, slots⟩ argsL.toArray v B ∧
      ∀ target, Steps p.tables e below (B.U.setTop { g with pc := g.pc + 3, stack := v.toList ++ rest }) target → Steps p.tables e below (T.setTop g) target) ∨
    (∃ (q : Addr) (vm₁ : Vm) (B : Pt), s.WarmedH vm₁ ∧ Stand p l e R s m args below meth c B.U B.locs B.cells B.slots ∧ PostX ⟨T.setVm vm₁, locs, cells, slots⟩ argsL.toArray q B ∧
      Steps p.tables e below (T.setTop g) ((B.U.setTop { g with stack := rest }).pushFrame (.throwing q))) := by
  obtain ⟨mk, hnamed⟩ := Cond.code_named hcode
  obtain ⟨methM, cM, hmethM, -, -, -, -, -, -, hsigM⟩ := Cond.code_spec hnamed hcode
  have hstatic : methM.isStatic = true := Cond.static_spec hnamed hmethM hstat
  obtain ⟨kP, hkP, -⟩ := className_of_methodNamed hnamed
  have hinitP : kP.init = .initialized := Cond.initialized_spec (findClass_of_methodNamed hnamed) hkP hinit
  obtain ⟨vm₁, X₁, hstep₁⟩ := X.invokestatic hexec hown hlink hnamed hmethM hstatic hkP hinitP hy (g := g) hg (argsL := argsL) (rest := rest) (hlen _ hsigM) hstack hdg
  rcases hK m meth c ⟨T.setVm vm₁, locs, cells, slots⟩ { g with stack := rest } (.invokestatic index) mk argsL.toArray X₁ hg hsize hdg hW (X₁.named hnamed) (hpre vm₁ X₁.warmed) with ⟨v, B, X', hpost, hsteps⟩ | ⟨q, B, X', hpost, hsteps⟩
  · exact Or.inl ⟨v, vm₁, B, X₁.warmed, X', hpost, fun target h => hstep₁ _ fun acts => by rw [doInvoke_state]; exact hsteps.trans h⟩
  · exact Or.inr ⟨q, vm₁, B, X₁.warmed, X', hpost, hstep₁ _ fun acts => by rw [doInvoke_state]; exact hsteps⟩
end Calls
theorem vx_cls {s : State} {T : State} {vm₁ : Vm} {E : String} {k : ClassId} (hW : s.WarmedH vm₁) (h : (T.setVm vm₁).vm.findClass E = some k) : s.vm.findClass E = some k := by
  have h1 : vm₁.findClass E = some k := h
  rw [hW.alike.findClass] at h1
  exact h1
/-- the method's frame g, with q thrown over it -/
def vx_W (p : Program) (l : Launch) (e : Env) (R : Room) (s : State) (m : MethodId) (args : Array Value) (below : List Frame) (meth : Method) (c : Code) (H : Heap) (locs : List Loc) (cells slots : Nat) (Q : State → Prop) (g : JFrame) (q : Addr) : Prop :=
  ∀ T : State, T.heap = H → Stand p l e R s m args below meth c T locs cells slots → ∃ t, Steps p.tables e below ((T.setTop g).pushFrame (.throwing q)) t ∧ Q t
def vx_Run (p : Program) (l : Launch) (e : Env) (R : Room) (s : State) (m : MethodId) (args : Array Value) (below : List Frame) (meth : Method) (c : Code) (H : Heap) (locs : List Loc) (cells slots mc ms : Nat) (g : JFrame) (rest : List Value) (Qa : State → Outcome → State → Prop) (XC : String → State → State → Prop) (free : Addr → Prop) : Prop :=
  ∀ T : State, T.heap = H → Stand p l e R s m args below meth c T locs cells slots →
    (∃ (v : Option Value) (st₀ t T' : State) (L : List Loc), st₀.heap = H ∧ Stand p l e R s m args below meth c T' (locs ++ L) (cells + mc) (slots + ms) ∧ (∀ q ∈ L, free q.base) ∧ T'.heap = t.heap ∧ T'.vm = t.vm ∧ Qa st₀ (.returned v) t ∧
      Goes p e below T g T' { g with pc := g.pc + 3, stack := v.toList ++ rest }) ∨
    (∃ (q : Addr) (st₀ t T' : State) (L : List Loc) (E : String) (ce : Cell), st₀.heap = H ∧ Stand p l e R s m args below meth c T' (locs ++ L) (cells + mc) (slots + ms) ∧ (∀ z ∈ L, free z.base) ∧ T'.heap = t.heap ∧ T'.vm = t.vm ∧ XC E st₀ t ∧ t.heap[q]? = some ce ∧ ce.vm = .none ∧ s.vm.findClass E = some ce.cls ∧
      Steps p.tables e below (T.setTop g) ((T'.setTop { g with stack := rest }).pushFrame (.throwing q)))
def vx_X {S : Type} (px : S → Prop) (B : String → S → State → Prop) (A : Nat → Prop) : String → State → State → Prop := fun E st t => ∃ u : S, px u ∧ B E u t ∧ va_F A st t
section Runs
variable {p : Program} {l : Launch} {e : Env} {R : Room} {s : State} {m : MethodId} {args : Array Value} {below : List Frame} {meth : Method} {c : Code} {H : Heap} {locs : List Loc} {cells slots : Nat}
variable {y : MethodName} {bytes cc : ByteArray} {maxL nL mc ms n index : Nat} {ret : Option FieldType} {ws : List Cond} {rm : Room} {Pc : Array Value → State → Prop} {Qc : Array Value → State → Outcome → State → Prop} {XC : String → State → State → Prop} {free : Addr → Prop} {Ts : List Cond} {own C : String} {b : Addr} {As rest : List Value} {g : JFrame}
theorem vx_callBack (cb : CallB R s args own index y bytes maxL ret ws rm mc ms n) (hM : vx_Met l y ws rm Pc Qc XC mc ms free) (hbl : FrameBlind Pc) : vx_Back l R p e below s args y 3 8 (PreOf R mc ms Pc) (PostOf Qc mc ms free) (vx_Post XC mc ms free) := by
  obtain ⟨hrc, hrs, hfr, hlo, hws, hcw, -, hini, -⟩ := cb
  exact vx_back (bytes := bytes) (maxL := maxL) (ret := ret) hM hbl hrc hrs hfr hlo hws hcw (fun a' U hW => word_at hW (Or.inl (by first | rfl | simp [Cond.onTables, Cond.keeps, Cond.steady])) hini)
theorem vx_runV (S : CallFix p m c cc nL s args Ts own) (hM : vx_Met l y ws rm Pc Qc XC mc ms free) (cw : CallW R s args own C index y bytes maxL ret ws rm mc ms n) (hp : PreV s H C b Pc As)
    (hg : g.method = m) (hn : As.length = n) (hsize : g.locals.size = nL) (hstack : g.stack = As.reverse ++ .ref b :: rest) (hW : 2 * g.monitorRoom + (rest.map fun v => v.category).sum ≤ 8) (hdg : decode cc g.pc = .ok (.invokevirtual index, 3)) (hf : cells + mc ≤ R.cells ∧ slots + ms ≤ R.slots) :
    vx_Run p l e R s m args below meth c H locs cells slots mc ms g rest (Qc (Value.ref b :: As).toArray) XC free := by
  have hK : vx_Back l R p e below s args y 3 8 (PreOf R mc ms Pc) (PostOf Qc mc ms free) (vx_Post XC mc ms free) := vx_callBack cw.1 hM hp.1
  obtain ⟨⟨-, -, -, -, -, -, hcode, -, hy, hlen, hl⟩, hin, hse⟩ := cw
  obtain ⟨hx, hb, hml, ho, -⟩ := S
  obtain ⟨-, ⟨cellB, hcB, hoB, hclB⟩, hPc⟩ := hp
  intro T hT X
  rcases vx_callV X hx (C := C) (bytes := bytes) (maxL := maxL) (ret := ret) ho hl hin hse hcode hy hK (by rw [hT]; exact hcB) hoB hclB hg (hsize.trans hml.symm) (argsL := As) (rest := rest) (fun sig h => hn.trans (hlen sig h)) hstack hW (by rw [hb]; exact hdg)
    (fun vm₁ hW₁ => ⟨hf.1, hf.2, hPc (T.setVm vm₁) hT hW₁⟩) with ⟨v, vm₁, ⟨U', l2, c2, s2⟩, hW₁, X', ⟨g', mk, t, L, e1, e2, hq, h1, hL, h2, h3⟩, st⟩ | ⟨q, vm₁, ⟨U', l2, c2, s2⟩, hW₁, X', ⟨g', mk, t, L, E, ce, e1, e2, hq, hce, hcv, hcl, h1, hL, h2, h3⟩, st⟩
  · dsimp only [Pt.U, Pt.locs, Pt.cells, Pt.slots] at X' e1 e2 h1 h2 h3 st
    subst h1; subst h2; subst h3
    exact Or.inl ⟨v, (T.setVm vm₁).calling g' mk (Value.ref b :: As).toArray, t, U', L, hT, X', hL, e1, e2, hq, st⟩
  · dsimp only [Pt.U, Pt.locs, Pt.cells, Pt.slots] at X' e1 e2 h1 h2 h3 st hcl
    subst h1; subst h2; subst h3
    exact Or.inr ⟨q, (T.setVm vm₁).calling g' mk (Value.ref b :: As).toArray, t, U', L, E, ce, hT, X', hL, e1, e2, hq, hce, hcv, vx_cls hW₁ hcl, st⟩
theorem vx_runS (S : CallFix p m c cc nL s args Ts own) (hM : vx_Met l y ws rm Pc Qc XC mc ms free) (cw : CallB R s args own index y bytes maxL ret ws rm mc ms n ∧ (Cond.static y).before args s = true) (hp : PreS s H Pc As)
    (hg : g.method = m) (hn : As.length = n) (hsize : g.locals.size = nL) (hstack : g.stack = As.reverse ++ rest) (hW : 2 * g.monitorRoom + (rest.map fun v => v.category).sum ≤ 8) (hdg : decode cc g.pc = .ok (.invokestatic index, 3)) (hf : cells + mc ≤ R.cells ∧ slots + ms ≤ R.slots) :
    vx_Run p l e R s m args below meth c H locs cells slots mc ms g rest (Qc As.toArray) XC free := by
  have hK : vx_Back l R p e below s args y 3 8 (PreOf R mc ms Pc) (PostOf Qc mc ms free) (vx_Post XC mc ms free) := vx_callBack cw.1 hM hp.1
  obtain ⟨⟨-, -, -, -, -, -, hcode, hini, hy, hlen, hl⟩, hstt⟩ := cw
  obtain ⟨hx, hb, hml, ho, -⟩ := S
  intro T hT X
  rcases vx_callS X hx (bytes := bytes) (maxL := maxL) (ret := ret) ho hl hstt hini hcode hy hK hg (hsize.trans hml.symm) (argsL := As) (rest := rest) (fun sig h => hn.trans (hlen sig h)) hstack hW (by rw [hb]; exact hdg)
    (fun vm₁ hW₁ => ⟨hf.1, hf.2, hp.2 (T.setVm vm₁) hT hW₁⟩) with ⟨v, vm₁, ⟨U', l2, c2, s2⟩, hW₁, X', ⟨g', mk, t, L, e1, e2, hq, h1, hL, h2, h3⟩, st⟩ | ⟨q, vm₁, ⟨U', l2, c2, s2⟩, hW₁, X', ⟨g', mk, t, L, E, ce, e1, e2, hq, hce, hcv, hcl, h1, hL, h2, h3⟩, st⟩
  · dsimp only [Pt.U, Pt.locs, Pt.cells, Pt.slots] at X' e1 e2 h1 h2 h3 st
    subst h1; subst h2; subst h3
    exact Or.inl ⟨v, (T.setVm vm₁).calling g' mk As.toArray, t, U', L, hT, X', hL, e1, e2, hq, st⟩
  · dsimp only [Pt.U, Pt.locs, Pt.cells, Pt.slots] at X' e1 e2 h1 h2 h3 st hcl
    subst h1; subst h2; subst h3
    exact Or.inr ⟨q, (T.setVm vm₁).calling g' mk As.toArray, t, U', L, E, ce, hT, X', hL, e1, e2, hq, hce, hcv, vx_cls hW₁ hcl, st⟩
end Runs
section Rows
variable {p : Program} {l : Launch} {e : Env} {R : Room} {s : State} {m : MethodId} {args : Array Value} {below : List Frame} {meth : Method} {c : Code} {H : Heap} {locs : List Loc} {cells slots : Nat} {Q : State → Prop}
variable {mc ms : Nat} {free : Addr → Prop} {A0 A1 : Nat → Prop} {H0 : Heap} {a : Array Value} {pc : Nat} {ls : Array Slot} {st0 rest : List Value}
theorem vx_keep {st₀ t T' : State} {L : List Loc} (h0 : st₀.heap = H) (e1 : T'.heap = t.heap) (hS : va_S A0 H0 H locs) (hA : ∀ q, q < H.size → A1 q → A0 q) (hf : ∀ q, free q → A0 q) (hL : ∀ q ∈ L, free q.base) (hF : va_F A1 st₀ t) :
    H.size ≤ T'.heap.size ∧ (∀ q : Nat, q < H.size → ¬ A1 q → T'.heap[q]? = H[q]?) ∧ va_S A0 H0 T'.heap (locs ++ L) := by
  obtain ⟨hz, hk⟩ := hF
  rw [h0] at hz hk
  exact ⟨by rw [e1]; exact hz, fun q h1 h2 => by rw [e1]; exact hk q h1 h2,
    ⟨Nat.le_trans hS.1 (by rw [e1]; exact hz), fun q h1 h2 => by rw [e1, hk q (Nat.lt_of_lt_of_le h1 hS.1) (fun z => h2 (hA q (Nat.lt_of_lt_of_le h1 hS.1) z))]; exact hS.2.1 q h1 h2, fun q hq => by
      rcases List.mem_append.mp hq with h | h
      · exact hS.2.2 q h
      · exact hf _ (hL q h)⟩⟩
theorem vx_calli {S SX : Type} {post : Int32 → S → Prop} {px : SX → Prop} {B : S → State → Prop} {BX : String → SX → State → Prop} {AX : Nat → Prop} (hr : vx_Run p l e R s m args below meth c H locs cells slots mc ms (F0 m pc ls st0) rest (va_Qi post B A1 a) (vx_X px BX AX) free) (hS : va_S A0 H0 H locs) (hA : ∀ q, q < H.size → A1 q → A0 q) (hf : ∀ q, free q → A0 q) (hAX : ∀ q, q < H.size → AX q → A0 q)
    (kx : ∀ (E : String) (ce : Cell) (q9 : Addr) (u : SX) (t : State) (H1 : Heap) (locs1 : List Loc), t.heap = H1 → s.vm.Alike t.vm → px u → BX E u t → H.size ≤ H1.size → (∀ q : Nat, q < H.size → ¬ AX q → H1[q]? = H[q]?) → va_S A0 H0 H1 locs1 → H1[q9]? = some ce → ce.vm = .none → s.vm.findClass E = some ce.cls → vx_W p l e R s m args below meth c H1 locs1 (cells + mc) (slots + ms) Q (F0 m pc ls rest) q9)
    (kk : ∀ (r : Int32) (u : S) (t : State) (H1 : Heap) (locs1 : List Loc), t.heap = H1 → s.vm.Alike t.vm → post r u → B u t → H.size ≤ H1.size → (∀ q : Nat, q < H.size → ¬ A1 q → H1[q]? = H[q]?) → va_S A0 H0 H1 locs1 → W p l e R s m args below meth c H1 locs1 (cells + mc) (slots + ms) Q (F0 m (pc + 3) ls (.int r :: rest))) : W p l e R s m args below meth c H locs cells slots Q (F0 m pc ls st0) := by
  intro T hT X
  rcases hr T hT X with ⟨v, st₀, t, T', L, h0, X', hL, e1, e2, ⟨⟨r, u, hv, hp, hb⟩, hF⟩, st⟩ | ⟨q, st₀, t, T', L, E, ce, h0, X', hL, e1, e2, ⟨u, hp, hb, hF⟩, hce, hcv, hcl, st⟩
  · cases hv
    obtain ⟨k1, k2, k3⟩ := vx_keep h0 e1 hS hA hf hL hF
    obtain ⟨t2, a1, b1⟩ := kk r u t T'.heap (locs ++ L) e1.symm (by rw [← e2]; exact X'.warmed.alike) hp hb k1 k2 k3 T' rfl X'
    exact ⟨t2, st t2 a1, b1⟩
  · obtain ⟨k1, k2, k3⟩ := vx_keep h0 e1 hS hAX hf hL hF
    obtain ⟨t2, a1, b1⟩ := kx E ce q u t T'.heap (locs ++ L) e1.symm (by rw [← e2]; exact X'.warmed.alike) hp hb k1 k2 k3 (by rw [e1]; exact hce) hcv hcl T' rfl X'
    exact ⟨t2, st.trans a1, b1⟩
theorem vx_calll {S SX : Type} {post : Int64 → S → Prop} {px : SX → Prop} {B : S → State → Prop} {BX : String → SX → State → Prop} {AX : Nat → Prop} (hr : vx_Run p l e R s m args below meth c H locs cells slots mc ms (F0 m pc ls st0) rest (va_Ql post B A1 a) (vx_X px BX AX) free) (hS : va_S A0 H0 H locs) (hA : ∀ q, q < H.size → A1 q → A0 q) (hf : ∀ q, free q → A0 q) (hAX : ∀ q, q < H.size → AX q → A0 q)
    (kx : ∀ (E : String) (ce : Cell) (q9 : Addr) (u : SX) (t : State) (H1 : Heap) (locs1 : List Loc), t.heap = H1 → s.vm.Alike t.vm → px u → BX E u t → H.size ≤ H1.size → (∀ q : Nat, q < H.size → ¬ AX q → H1[q]? = H[q]?) → va_S A0 H0 H1 locs1 → H1[q9]? = some ce → ce.vm = .none → s.vm.findClass E = some ce.cls → vx_W p l e R s m args below meth c H1 locs1 (cells + mc) (slots + ms) Q (F0 m pc ls rest) q9)
    (kk : ∀ (r : Int64) (u : S) (t : State) (H1 : Heap) (locs1 : List Loc), t.heap = H1 → s.vm.Alike t.vm → post r u → B u t → H.size ≤ H1.size → (∀ q : Nat, q < H.size → ¬ A1 q → H1[q]? = H[q]?) → va_S A0 H0 H1 locs1 → W p l e R s m args below meth c H1 locs1 (cells + mc) (slots + ms) Q (F0 m (pc + 3) ls (.long r :: rest))) : W p l e R s m args below meth c H locs cells slots Q (F0 m pc ls st0) := by
  intro T hT X
  rcases hr T hT X with ⟨v, st₀, t, T', L, h0, X', hL, e1, e2, ⟨⟨r, u, hv, hp, hb⟩, hF⟩, st⟩ | ⟨q, st₀, t, T', L, E, ce, h0, X', hL, e1, e2, ⟨u, hp, hb, hF⟩, hce, hcv, hcl, st⟩
  · cases hv
    obtain ⟨k1, k2, k3⟩ := vx_keep h0 e1 hS hA hf hL hF
    obtain ⟨t2, a1, b1⟩ := kk r u t T'.heap (locs ++ L) e1.symm (by rw [← e2]; exact X'.warmed.alike) hp hb k1 k2 k3 T' rfl X'
    exact ⟨t2, st t2 a1, b1⟩
  · obtain ⟨k1, k2, k3⟩ := vx_keep h0 e1 hS hAX hf hL hF
    obtain ⟨t2, a1, b1⟩ := kx E ce q u t T'.heap (locs ++ L) e1.symm (by rw [← e2]; exact X'.warmed.alike) hp hb k1 k2 k3 (by rw [e1]; exact hce) hcv hcl T' rfl X'
    exact ⟨t2, st.trans a1, b1⟩
theorem vx_callf {S SX : Type} {post : UInt32 → S → Prop} {px : SX → Prop} {B : S → State → Prop} {BX : String → SX → State → Prop} {AX : Nat → Prop} (hr : vx_Run p l e R s m args below meth c H locs cells slots mc ms (F0 m pc ls st0) rest (va_Qf post B A1 a) (vx_X px BX AX) free) (hS : va_S A0 H0 H locs) (hA : ∀ q, q < H.size → A1 q → A0 q) (hf : ∀ q, free q → A0 q) (hAX : ∀ q, q < H.size → AX q → A0 q)
    (kx : ∀ (E : String) (ce : Cell) (q9 : Addr) (u : SX) (t : State) (H1 : Heap) (locs1 : List Loc), t.heap = H1 → s.vm.Alike t.vm → px u → BX E u t → H.size ≤ H1.size → (∀ q : Nat, q < H.size → ¬ AX q → H1[q]? = H[q]?) → va_S A0 H0 H1 locs1 → H1[q9]? = some ce → ce.vm = .none → s.vm.findClass E = some ce.cls → vx_W p l e R s m args below meth c H1 locs1 (cells + mc) (slots + ms) Q (F0 m pc ls rest) q9)
    (kk : ∀ (r : UInt32) (u : S) (t : State) (H1 : Heap) (locs1 : List Loc), t.heap = H1 → s.vm.Alike t.vm → post r u → B u t → H.size ≤ H1.size → (∀ q : Nat, q < H.size → ¬ A1 q → H1[q]? = H[q]?) → va_S A0 H0 H1 locs1 → W p l e R s m args below meth c H1 locs1 (cells + mc) (slots + ms) Q (F0 m (pc + 3) ls (.float r :: rest))) : W p l e R s m args below meth c H locs cells slots Q (F0 m pc ls st0) := by
  intro T hT X
  rcases hr T hT X with ⟨v, st₀, t, T', L, h0, X', hL, e1, e2, ⟨⟨r, u, hv, hp, hb⟩, hF⟩, st⟩ | ⟨q, st₀, t, T', L, E, ce, h0, X', hL, e1, e2, ⟨u, hp, hb, hF⟩, hce, hcv, hcl, st⟩
  · cases hv
    obtain ⟨k1, k2, k3⟩ := vx_keep h0 e1 hS hA hf hL hF
    obtain ⟨t2, a1, b1⟩ := kk r u t T'.heap (locs ++ L) e1.symm (by rw [← e2]; exact X'.warmed.alike) hp hb k1 k2 k3 T' rfl X'
    exact ⟨t2, st t2 a1, b1⟩
  · obtain ⟨k1, k2, k3⟩ := vx_keep h0 e1 hS hAX hf hL hF
    obtain ⟨t2, a1, b1⟩ := kx E ce q u t T'.heap (locs ++ L) e1.symm (by rw [← e2]; exact X'.warmed.alike) hp hb k1 k2 k3 (by rw [e1]; exact hce) hcv hcl T' rfl X'
    exact ⟨t2, st.trans a1, b1⟩
theorem vx_calld {S SX : Type} {post : UInt64 → S → Prop} {px : SX → Prop} {B : S → State → Prop} {BX : String → SX → State → Prop} {AX : Nat → Prop} (hr : vx_Run p l e R s m args below meth c H locs cells slots mc ms (F0 m pc ls st0) rest (va_Qd post B A1 a) (vx_X px BX AX) free) (hS : va_S A0 H0 H locs) (hA : ∀ q, q < H.size → A1 q → A0 q) (hf : ∀ q, free q → A0 q) (hAX : ∀ q, q < H.size → AX q → A0 q)
    (kx : ∀ (E : String) (ce : Cell) (q9 : Addr) (u : SX) (t : State) (H1 : Heap) (locs1 : List Loc), t.heap = H1 → s.vm.Alike t.vm → px u → BX E u t → H.size ≤ H1.size → (∀ q : Nat, q < H.size → ¬ AX q → H1[q]? = H[q]?) → va_S A0 H0 H1 locs1 → H1[q9]? = some ce → ce.vm = .none → s.vm.findClass E = some ce.cls → vx_W p l e R s m args below meth c H1 locs1 (cells + mc) (slots + ms) Q (F0 m pc ls rest) q9)
    (kk : ∀ (r : UInt64) (u : S) (t : State) (H1 : Heap) (locs1 : List Loc), t.heap = H1 → s.vm.Alike t.vm → post r u → B u t → H.size ≤ H1.size → (∀ q : Nat, q < H.size → ¬ A1 q → H1[q]? = H[q]?) → va_S A0 H0 H1 locs1 → W p l e R s m args below meth c H1 locs1 (cells + mc) (slots + ms) Q (F0 m (pc + 3) ls (.double r :: rest))) : W p l e R s m args below meth c H locs cells slots Q (F0 m pc ls st0) := by
  intro T hT X
  rcases hr T hT X with ⟨v, st₀, t, T', L, h0, X', hL, e1, e2, ⟨⟨r, u, hv, hp, hb⟩, hF⟩, st⟩ | ⟨q, st₀, t, T', L, E, ce, h0, X', hL, e1, e2, ⟨u, hp, hb, hF⟩, hce, hcv, hcl, st⟩
  · cases hv
    obtain ⟨k1, k2, k3⟩ := vx_keep h0 e1 hS hA hf hL hF
    obtain ⟨t2, a1, b1⟩ := kk r u t T'.heap (locs ++ L) e1.symm (by rw [← e2]; exact X'.warmed.alike) hp hb k1 k2 k3 T' rfl X'
    exact ⟨t2, st t2 a1, b1⟩
  · obtain ⟨k1, k2, k3⟩ := vx_keep h0 e1 hS hAX hf hL hF
    obtain ⟨t2, a1, b1⟩ := kx E ce q u t T'.heap (locs ++ L) e1.symm (by rw [← e2]; exact X'.warmed.alike) hp hb k1 k2 k3 (by rw [e1]; exact hce) hcv hcl T' rfl X'
    exact ⟨t2, st.trans a1, b1⟩
theorem vx_callv {S SX : Type} {post : S → Prop} {px : SX → Prop} {B : S → State → Prop} {BX : String → SX → State → Prop} {AX : Nat → Prop} (hr : vx_Run p l e R s m args below meth c H locs cells slots mc ms (F0 m pc ls st0) rest (va_Qv post B A1 a) (vx_X px BX AX) free) (hS : va_S A0 H0 H locs) (hA : ∀ q, q < H.size → A1 q → A0 q) (hf : ∀ q, free q → A0 q) (hAX : ∀ q, q < H.size → AX q → A0 q)
    (kx : ∀ (E : String) (ce : Cell) (q9 : Addr) (u : SX) (t : State) (H1 : Heap) (locs1 : List Loc), t.heap = H1 → s.vm.Alike t.vm → px u → BX E u t → H.size ≤ H1.size → (∀ q : Nat, q < H.size → ¬ AX q → H1[q]? = H[q]?) → va_S A0 H0 H1 locs1 → H1[q9]? = some ce → ce.vm = .none → s.vm.findClass E = some ce.cls → vx_W p l e R s m args below meth c H1 locs1 (cells + mc) (slots + ms) Q (F0 m pc ls rest) q9)
    (kk : ∀ (u : S) (t : State) (H1 : Heap) (locs1 : List Loc), t.heap = H1 → s.vm.Alike t.vm → post u → B u t → H.size ≤ H1.size → (∀ q : Nat, q < H.size → ¬ A1 q → H1[q]? = H[q]?) → va_S A0 H0 H1 locs1 → W p l e R s m args below meth c H1 locs1 (cells + mc) (slots + ms) Q (F0 m (pc + 3) ls (rest))) : W p l e R s m args below meth c H locs cells slots Q (F0 m pc ls st0) := by
  intro T hT X
  rcases hr T hT X with ⟨v, st₀, t, T', L, h0, X', hL, e1, e2, ⟨⟨u, hv, hp, hb⟩, hF⟩, st⟩ | ⟨q, st₀, t, T', L, E, ce, h0, X', hL, e1, e2, ⟨u, hp, hb, hF⟩, hce, hcv, hcl, st⟩
  · cases hv
    obtain ⟨k1, k2, k3⟩ := vx_keep h0 e1 hS hA hf hL hF
    obtain ⟨t2, a1, b1⟩ := kk u t T'.heap (locs ++ L) e1.symm (by rw [← e2]; exact X'.warmed.alike) hp hb k1 k2 k3 T' rfl X'
    exact ⟨t2, st t2 a1, b1⟩
  · obtain ⟨k1, k2, k3⟩ := vx_keep h0 e1 hS hAX hf hL hF
    obtain ⟨t2, a1, b1⟩ := kx E ce q u t T'.heap (locs ++ L) e1.symm (by rw [← e2]; exact X'.warmed.alike) hp hb k1 k2 k3 (by rw [e1]; exact hce) hcv hcl T' rfl X'
    exact ⟨t2, st.trans a1, b1⟩
/-- caught by the row x of this method's table; the rows ahead don't take it -/
theorem vx_catch {own name : String} {E : String} {ce : Cell} {q : Addr} (hown : s.vm.findClass own = some m.cls) (pre : List ExceptionTableEntry) (x : ExceptionTableEntry) (suf : List ExceptionTableEntry) (hsplit : c.exceptionTable.toList = pre ++ x :: suf)
    (hpass : ∀ z ∈ pre, covers z pc = false ∨ (z.catchType ≠ 0 ∧ ∃ nm : String, (Cond.classLink own z.catchType nm).before args s = true ∧ va_Nc E nm s)) (hx : covers x pc = true) (h0 : x.catchType ≠ 0)
    (hlink : (Cond.classLink own x.catchType name).before args s = true) (hcast : (Cond.castable E name).before args s = true) (hcell : H[q]? = some ce) (hv : ce.vm = .none) (hcl : s.vm.findClass E = some ce.cls)
    (kk : W p l e R s m args below meth c H locs cells slots Q (F0 m x.handlerPc ls [.ref q])) : vx_W p l e R s m args below meth c H locs cells slots Q (F0 m pc ls rest) q := by
  intro T hT X
  have hpl : e.platform.magicAccessors = ({} : Platform).magicAccessors := by rw [X.admits.platform]
  obtain ⟨c3, c4, hc3, hc4, hasg⟩ := Cond.castable_spec hcast
  cases Option.some.inj (hc3.symm.trans hcl)
  obtain ⟨c5, hc5, hcl5⟩ := Cond.classLink_spec hown hlink e.platform hpl
  cases Option.some.inj (hc4.symm.trans hc5)
  obtain ⟨vm', X', st⟩ := X.thenCaughtThrough q (g := F0 m pc ls rest) rfl (Steps.refl _) (by rw [hT]; exact hcell) (by rw [hv]; rfl) (by obtain ⟨k9, h9, -⟩ := Vm.findClass_spec hcl; exact ⟨k9, h9⟩) pre x suf hsplit
    (fun z hz => by
      rcases hpass z hz with h | ⟨hz0, nm, hl1, hn1⟩
      · exact Or.inl h
      · obtain ⟨c6, hc6, hcl6⟩ := Cond.classLink_spec hown hl1 e.platform hpl
        obtain ⟨a8, b8, h1, h2, h3⟩ := hn1
        cases Option.some.inj (h1.symm.trans hcl)
        cases Option.some.inj (h2.symm.trans hc6)
        exact Or.inr ⟨hz0, _, hcl6, h3⟩) hx (Or.inr ⟨h0, c4, hcl5, hasg⟩)
  obtain ⟨t, a1, b1⟩ := kk (T.setVm vm') hT X'
  exact ⟨t, st.trans a1, b1⟩
end Rows
section Ends
variable {p : Program} {l : Launch} {e : Env} {R : Room} {s : State} {m : MethodId} {args : Array Value} {below : List Frame} {meth : Method} {c : Code} {H : Heap} {locs : List Loc} {cells slots : Nat} {Q : State → Prop}
variable {mc ms : Nat} {free : Addr → Prop} {A0 A1 : Nat → Prop} {H0 : Heap} {a : Array Value} {ls : Array Slot} {st0 rest : List Value}
variable {Qc : Array Value → State → Outcome → State → Prop} {XC : String → State → State → Prop}
/-- what a body that may throw owes at its end -/
def vx_MQ (below : List Frame) (Qc : Array Value → State → Outcome → State → Prop) (XC : String → State → State → Prop) (a : Array Value) (s : State) (mc ms : Nat) (free : Addr → Prop) : State → Prop := fun t =>
  ∃ o, t.status = .running ∧ Ended t below o ∧ vx_Q Qc XC mc ms free a s o t
theorem vx_ret {g : JFrame} {mc ms : Nat} (k : W p l e R s m args below meth c H locs cells slots (MQ below Qc args s mc ms free) g) : W p l e R s m args below meth c H locs cells slots (vx_MQ below Qc XC args s mc ms free) g := by
  intro T hT X
  obtain ⟨t, a1, o, b1, b2, b3, b4⟩ := k T hT X
  exact ⟨t, a1, o, b1, b2, Or.inl ⟨b3, b4⟩⟩
/-- not caught here: it goes on to the caller -/
theorem vx_widen {g : JFrame} {q : Addr} {k n : Nat} (h1 : cells ≤ k) (h2 : slots ≤ n) (kk : vx_W p l e R s m args below meth c H locs k n Q g q) : vx_W p l e R s m args below meth c H locs cells slots Q g q := fun T hT X => kk T hT (stand_widen X h1 h2)
theorem vx_out {pc : Nat} {E : String} {ce : Cell} {q : Addr} {mc ms : Nat} (hout : ∀ x ∈ c.exceptionTable.toList, covers x pc = false) (hlocks : meth.locks = false) (hcell : H[q]? = some ce) (hv : ce.vm = .none) (hcl : s.vm.findClass E = some ce.cls)
    (hx : ∀ t : State, t.heap = H → s.vm.Alike t.vm → XC E s t) (hf : ∀ z ∈ locs, free z.base) (hc : cells ≤ mc) (hs : slots ≤ ms) :
    vx_W p l e R s m args below meth c H locs cells slots (vx_MQ below Qc XC args s mc ms free) (F0 m pc ls rest) q := by
  intro T hT X
  obtain ⟨st1, hrun, hend, hW, hsm⟩ := X.leaveThrown q (g := F0 m pc ls rest) rfl rfl rfl hout hlocks
  have hcell9 : (T.setFrames (.throwing q :: below)).heap[q]? = some ce := by
    show T.heap[q]? = some ce
    rw [hT]; exact hcell
  exact ⟨_, st1, .threw q, hrun, hend, Or.inr ⟨q, rfl, E, ce, locs, hx _ hT hW.alike, hcell9, hv, hcl, hW, hsm.mono hc hs, hf⟩⟩
theorem vx_frame {U : State} {k n : Nat} (h : s.sameButNew ({ U with vm := s.vm } : State) locs k n) : s.heap.size ≤ U.heap.size ∧ ∀ q : Nat, q < s.heap.size → (∀ z ∈ locs, z.base ≠ q) → U.heap[q]? = s.heap[q]? := by
  obtain ⟨-, h2, -, -, -, h6⟩ := h
  refine ⟨h2, fun q hq hz => ?_⟩
  obtain ⟨c9, e1, e2, e3, e4⟩ := h6 q _ (Array.getElem?_eq_getElem hq)
  have hs : c9.slots = (s.heap[q]).slots := Array.ext_getElem? fun i => e4 i fun hm => hz _ hm rfl
  have h9 : c9 = s.heap[q] := by
    rw [hs] at e2
    exact e2
  have e5 : U.heap[q]? = some c9 := e1
  rw [e5, h9, Array.getElem?_eq_getElem hq]
/-- the words of a throw but the four that speak of the heap -/
def vx_no (w : Cond) : Bool := decide (w ≠ .isRef (.static Bundle.tN "UNASSIGNED_STACK" Bundle.steD)) && decide (w ≠ .isRef (.static Bundle.tN "SUPPRESSED_SENTINEL" Bundle.listD)) && decide (w ≠ .laysStatic Bundle.tN "UNASSIGNED_STACK" Bundle.steD) && decide (w ≠ .laysStatic Bundle.tN "SUPPRESSED_SENTINEL" Bundle.listD)
def vx_at0 (own : String) (ic : Nat) (X : String) (names : List String) : List Cond := (Bundle.ownAtoms0 own ic X names).filter vx_no
def vx_atS (own : String) (ic : Nat) (X : String) (names : List String) : List Cond := (Bundle.ownAtoms own ic X names).filter vx_no
/-- a word that the tables alone decide, or a good one -/
def vx_ot (w : Cond) : Bool := w.onTables || goodWord w
theorem vx_ot_at {args a' : Array Value} {s U : State} {w : Cond} (hW : s.WarmedH U.vm) (hvm : s.vm = U.vm) (hg : vx_ot w = true) (h : w.before args s = true) : w.before a' U = true := by
  simp only [vx_ot, Bool.or_eq_true] at hg
  rcases hg with hg | hg
  · exact va_tabs hg hvm h
  · exact word_at hW (good_of_word hg) h
/-- a list's words: the good ones out of the method's own list, the others by premises of their own -/
theorem vx_hat {args : Array Value} {s : State} {L B : List Cond} (h1 : ∀ w ∈ L.filter goodWord, w.before args s = true) (h2 : ∀ w ∈ L.filter (fun w => !goodWord w), w ∈ B) (h3 : ∀ w ∈ B, w.before args s = true) : ∀ w ∈ L, w.before args s = true := by
  intro w hw
  by_cases g : goodWord w = true
  · exact h1 w (List.mem_filter.mpr ⟨hw, g⟩)
  · refine h3 w (h2 w (List.mem_filter.mpr ⟨hw, ?_⟩))
    show (!goodWord w) = true
    cases hgw : goodWord w
    · rfl
    · exact absurd hgw g
theorem vx_c {args : Array Value} {s : State} {w : Cond} {B : List Cond} (h : w.before args s = true) (t : ∀ w ∈ B, w.before args s = true) : ∀ w' ∈ w :: B, w'.before args s = true := fun w' h' => (List.mem_cons.mp h').elim (fun e => by rw [e]; exact h) (t w')
theorem vx_n {args : Array Value} {s : State} : ∀ w ∈ ([] : List Cond), w.before args s = true := fun _ h => nomatch h
theorem vx_own {args : Array Value} {s : State} {L : List Cond} (h1 : ∀ w ∈ L.filter vx_no, w.before args s = true)
    (hU : (Cond.isRef (.static Bundle.tN "UNASSIGNED_STACK" Bundle.steD)).before args s = true) (hN : (Cond.isRef (.static Bundle.tN "SUPPRESSED_SENTINEL" Bundle.listD)).before args s = true)
    (lU : (Cond.laysStatic Bundle.tN "UNASSIGNED_STACK" Bundle.steD).before args s = true) (lN : (Cond.laysStatic Bundle.tN "SUPPRESSED_SENTINEL" Bundle.listD).before args s = true) : ∀ w ∈ L, w.before args s = true := by
  intro w hw
  by_cases e1 : w = .isRef (.static Bundle.tN "UNASSIGNED_STACK" Bundle.steD)
  · rw [e1]; exact hU
  · by_cases e2 : w = .isRef (.static Bundle.tN "SUPPRESSED_SENTINEL" Bundle.listD)
    · rw [e2]; exact hN
    · by_cases e3 : w = .laysStatic Bundle.tN "UNASSIGNED_STACK" Bundle.steD
      · rw [e3]; exact lU
      · by_cases e4 : w = .laysStatic Bundle.tN "SUPPRESSED_SENTINEL" Bundle.listD
        · rw [e4]; exact lN
        · exact h1 w (List.mem_filter.mpr ⟨hw, by unfold vx_no; rw [decide_eq_true e1, decide_eq_true e2, decide_eq_true e3, decide_eq_true e4]; rfl⟩)
/-- where a static field lies, its class's statics cell in H -/
def vx_L (C n d : String) (A : Nat → Prop) (U : State) (H : Heap) : Prop := ∃ (c : ClassId) (k : Class) (i : Nat) (f : Field) (a : Nat) (cell : Cell), U.vm.findClass C = some c ∧ U.fieldFound? C n d = some (c, k, i, f) ∧ f.isStatic = true ∧ k.statics = some a ∧ H[a]? = some cell ∧ cell.vm.isStatics = true ∧ cell.cls = c ∧ f.slot < cell.slots.size ∧ k.staticTypes[f.slot]? = some f.type ∧ ¬ A a
theorem vx_L.moved {C n d : String} {A : Nat → Prop} {u U : State} {H : Heap} (hvm : u.vm.Alike U.vm) (h : vx_L C n d A u H) : vx_L C n d A U H := by
  obtain ⟨c, k, i, f, a, cell, h1, h2, h3, h4, h5, h6, h7, h8, h9, h10⟩ := h
  obtain ⟨k', hi', he⟩ := State.fieldFound?_setVm hvm h2
  exact ⟨c, k', i, f, a, cell, by rw [hvm.findClass]; exact h1, hi', h3, by rw [he]; exact h4, h5, h6, h7, h8, by rw [he]; exact h9, h10⟩
theorem vx_L.kept {C n d : String} {A : Nat → Prop} {U : State} {H H1 : Heap} (h : vx_L C n d A U H) (hq : ∀ a : Nat, a < H.size → ¬ A a → H1[a]? = H[a]?) : vx_L C n d A U H1 := by
  obtain ⟨c, k, i, f, a, cell, h1, h2, h3, h4, h5, h6, h7, h8, h9, h10⟩ := h
  exact ⟨c, k, i, f, a, cell, h1, h2, h3, h4, by rw [hq a (Array.getElem?_eq_some_iff.mp h5).1 h10]; exact h5, h6, h7, h8, h9, h10⟩
theorem vx_L.narrow {C n d : String} {A B : Nat → Prop} {U : State} {H : Heap} (h : vx_L C n d A U H) (hAB : ∀ q, B q → A q) : vx_L C n d B U H := by
  obtain ⟨c, k, i, f, a, cell, h1, h2, h3, h4, h5, h6, h7, h8, h9, h10⟩ := h
  exact ⟨c, k, i, f, a, cell, h1, h2, h3, h4, h5, h6, h7, h8, h9, fun z => h10 (hAB _ z)⟩
theorem vx_L.word {C n d : String} {A : Nat → Prop} {s : State} {args : Array Value} (h : vx_L C n d A s s.heap) : (Cond.laysStatic C n d).before args s = true := by
  obtain ⟨c, k, i, f, a, cell, h1, h2, h3, h4, h5, h6, h7, h8, h9, -⟩ := h
  show (Cond.laysStatic C n d).holds args s none s [] = true
  exact Cond.laysStatic_of h1 h2 h3 h4 h5 h6 h7 h8 h9
/-- .. and what it holds: null or some reference -/
def vx_Zq (C n d : String) (A : Nat → Prop) (U : State) (H : Heap) : Prop := va_Zq C n d A U H ∧ vx_L C n d A U H
theorem vx_Zq.moved {C n d : String} {A : Nat → Prop} {u U : State} {H : Heap} (hvm : u.vm.Alike U.vm) (h : vx_Zq C n d A u H) : vx_Zq C n d A U H := ⟨va_Zq.moved hvm h.1, vx_L.moved hvm h.2⟩
theorem vx_Zq.kept {C n d : String} {A : Nat → Prop} {U : State} {H H1 : Heap} (h : vx_Zq C n d A U H) (hq : ∀ a : Nat, a < H.size → ¬ A a → H1[a]? = H[a]?) : vx_Zq C n d A U H1 := ⟨va_Zq.kept h.1 hq, vx_L.kept h.2 hq⟩
theorem vx_Zq.narrow {C n d : String} {A B : Nat → Prop} {U : State} {H : Heap} (h : vx_Zq C n d A U H) (hAB : ∀ q, B q → A q) : vx_Zq C n d B U H := ⟨va_Zq.narrow h.1 hAB, vx_L.narrow h.2 hAB⟩
theorem vx_Zqof {args : Array Value} {s : State} {C n d : String} {A : Nat → Prop} (hl : (Cond.laysStatic C n d).before args s = true) (hini : (Cond.initialized C).before args s = true) (h : (Cond.isRef (.static C n d)).before args s = true) (hA : ∀ a : Nat, a < s.heap.size → ¬ A a) : vx_Zq C n d A s s.heap := by
  refine ⟨va_Zqof hl hini h hA, ?_⟩
  obtain ⟨c, k, i, f, a, cell, h1, h2, h3, h4, h5, h6, h7, h8, h9⟩ := Cond.laysStatic_spec hl
  exact ⟨c, k, i, f, a, cell, h1, h2, h3, h4, h5, h6, h7, h8, h9, hA a (Array.getElem?_eq_some_iff.mp h5).1⟩
theorem vx_isRef {C n d : String} {v : Value} {A : Nat → Prop} {s : State} {args : Array Value} (h : va_Z C n d v A s s.heap) (hv : v.isRef = true) : (Cond.isRef (.static C n d)).before args s = true := by
  obtain ⟨cf, kf, fi, f, a, cell, h1, h2, h3, h4, h5, h6, h7, -⟩ := h
  have he : (Term.static C n d).eval args s none [] s = some v := by
    simp [Term.eval, State.fieldNamed?, h1, h2, h4, h5, h6, h7]
  simp only [Cond.before, Cond.holds, Cond.value, he]
  cases v <;> simp_all [Value.isRef]
theorem vx_isRefq {C n d : String} {A : Nat → Prop} {s : State} {args : Array Value} (h : va_Zq C n d A s s.heap) : (Cond.isRef (.static C n d)).before args s = true := by
  rcases h with h | ⟨t, h⟩
  · exact vx_isRef h rfl
  · exact vx_isRef h rfl
/-- the same frame, seen from here: as if the method were called anew in this heap -/
theorem vx_rebase {T : State} (X : Stand p l e R s m args below meth c T locs cells slots) {R' : Room} (hf : R'.frames ≤ R.frames) (hl : R'.locals ≤ R.locals) (hc : cells + R'.cells ≤ R.cells) (hs : slots + R'.slots ≤ R.slots) :
    Stand p l e R' ((T.setVm s.vm).setFrames (.invoking m args :: below)) m args below meth c T [] 0 0 := by
  have htop : (T.setVm s.vm).topJava?.isSome := X.here.top
  have hF : ((T.setVm s.vm).setFrames (.invoking m args :: below)).frames = .invoking m args :: below := State.frames_setFrames _ (State.cur_lt_of_top htop)
  obtain ⟨g₀, hg0⟩ := Option.isSome_iff_exists.mp htop
  obtain ⟨r, hr⟩ := State.topJava?_eq_some.mp hg0
  have hl9 : e.platform.stackLimits (T.setVm s.vm).me = e.platform.stackLimits s.me := X.limits
  have hb9 : (T.setVm s.vm).me.stackBytes = s.me.stackBytes := X.bytes
  refine ⟨X.admits, X.cas, X.clock, hF, ?_, X.hears, X.method, X.code, X.here, X.tail, X.warmed, ?_, ?_, ?_⟩
  · have h := X.room
    have hU : ((T.setVm s.vm).setFrames (.invoking m args :: below)).localsInUse = s.localsInUse := by
      rw [State.localsInUse_invoking hF (meth := meth) (c := c) X.method X.code, State.localsInUse_invoking X.frames X.method X.code]
    simp only [State.hasRoom, Bool.and_eq_true, decide_eq_true_eq] at h ⊢
    obtain ⟨⟨⟨⟨h1, h2, h3, h4, h5, h6⟩, h7⟩, h8⟩, h9⟩ := h
    rw [X.frames, List.length_cons] at h2 h3
    have q1 := X.heapSize
    have q2 := X.used
    simp only [hF, hU, List.length_cons, State.stackLimits_setFrames, State.stackBytes_setFrames, hl9, hb9]
    refine ⟨⟨⟨⟨by omega, by omega, by omega, by omega, by omega, h6⟩, ?_⟩, ?_⟩, X.book⟩
    · show T.heap.size + R'.cells ≤ e.platform.maxCells
      omega
    · show T.slotsUsed + R'.slots ≤ e.platform.maxSlots
      omega
  · rw [State.stackLimits_setFrames]; rfl
  · rw [State.stackBytes_setFrames]; rfl
  · refine ⟨?_, Nat.le_refl _, Nat.le_refl _, ?_, ?_, fun a c9 h9 => ⟨c9, h9, rfl, rfl, fun _ _ => rfl⟩⟩
    · obtain ⟨t, ht, -⟩ := State.frames_cons hr
      show T.setVm s.vm = { ((T.setVm s.vm).setFrames (.invoking m args :: below)).setFrames (T.setVm s.vm).frames with heap := T.heap, slotsUsed := T.slotsUsed }
      rw [State.setFrames_setFrames, State.setFrames_self ht]
      rfl
    · show T.slotsUsed = T.slotsUsed + ((T.heap.toList.drop T.heap.size).map (·.slots.size)).sum
      rw [List.drop_eq_nil_of_le (Nat.le_of_eq Array.length_toList)]
      rfl
    · show ((T.heap.toList.drop T.heap.size).map (·.slots.size)).sum ≤ 0
      rw [List.drop_eq_nil_of_le (Nat.le_of_eq Array.length_toList)]
      exact Nat.le_refl _
/-- 'throw new E()': new; dup; invokespecial; athrow -/
theorem vx_throw0 {cc : ByteArray} {pc : Nat} (hexec : p.tables.exec = Jvm.exec) (hb : c.code = cc) (hl : l.stackTraces = false) {own cls : String} {names : List String} {ik ic mc ms : Nat} {A : Nat → Prop}
    (hown : s.vm.findClass own = some m.cls) (hcls : Bundle.fit cls = true) (hnames : ∀ n ∈ names, Bundle.fit n = true)
    (hk : (Cond.classLink own ik cls).before args s = true) (hini : (Cond.initialized cls).before args s = true) (hat : ∀ w ∈ vx_at0 own ic cls names, w.before args s = true)
    (hgood : ∀ w ∈ Cond.classLink own ik cls :: Cond.initialized cls :: vx_at0 own ic cls names, vx_ot w = true)
    (hU : vx_Zq Bundle.tN "UNASSIGNED_STACK" Bundle.steD A s s.heap) (hN : vx_Zq Bundle.tN "SUPPRESSED_SENTINEL" Bundle.listD A s s.heap) (hS : va_S A s.heap H locs) (hsize : ls.size = c.maxLocals)
    (d0 : decode cc pc = .ok (.new ik, 3)) (d3 : decode cc (pc + 3) = .ok (.dup, 1)) (d4 : decode cc (pc + 4) = .ok (.invokespecial ic, 3)) (d7 : decode cc (pc + 7) = .ok (.athrow, 1))
    (hout : ∀ x ∈ c.exceptionTable.toList, covers x (pc + 7) = false)
    (hRframes : names.length + 3 < R.frames) (hRlocals : (rest.map fun v => v.category).sum + (13 * (names.length + 1) + 42) ≤ R.locals) (hRcells : cells + 1 ≤ R.cells) (hRslots : slots + 6 ≤ R.slots) (hlocks : meth.locks = false)
    (hx : ∀ t : State, s.vm.Alike t.vm → H.size ≤ t.heap.size → (∀ q : Nat, q < H.size → t.heap[q]? = H[q]?) → XC cls s t)
    (hf : ∀ z ∈ locs, free z.base) (hc : cells + 1 ≤ mc) (hs : slots + 6 ≤ ms) :
    W p l e R s m args below meth c H locs cells slots (vx_MQ below Qc XC args s mc ms free) (F0 m pc ls rest) := by
  intro T hT X
  have htr : e.platform.stackTraces = false := (show e.platform.stackTraces = l.stackTraces by rw [X.admits.platform]).trans hl
  have Y := vx_rebase X (R' := { frames := R.frames, locals := R.locals, cells := 1, slots := 6 }) (Nat.le_refl _) (Nat.le_refl _) hRcells hRslots
  obtain ⟨s', hA⟩ : ∃ z, z = (T.setVm s.vm).setFrames (.invoking m args :: below) := ⟨_, rfl⟩
  rw [← hA] at Y
  have hvm : s'.vm = s.vm := by rw [hA]; rfl
  have hhp : s'.heap = H := by rw [hA]; exact hT
  have hW0 : s.WarmedH s'.vm := by rw [hvm]; exact State.WarmedH.refl s
  have hat' : ∀ w ∈ vx_at0 own ic cls names, w.before args s' = true := fun w hw => vx_ot_at hW0 hvm.symm (hgood w (List.mem_cons_of_mem _ (List.mem_cons_of_mem _ hw))) (hat w hw)
  have hk' : (Cond.classLink own ik cls).before args s' = true := vx_ot_at hW0 hvm.symm (hgood _ List.mem_cons_self) hk
  have hini' : (Cond.initialized cls).before args s' = true := vx_ot_at hW0 hvm.symm (hgood _ (List.mem_cons_of_mem _ List.mem_cons_self)) hini
  have hU' : vx_Zq Bundle.tN "UNASSIGNED_STACK" Bundle.steD A s' s'.heap := by rw [hhp]; exact vx_Zq.moved hW0.alike (hU.kept hS.2.1)
  have hN' : vx_Zq Bundle.tN "SUPPRESSED_SENTINEL" Bundle.listD A s' s'.heap := by rw [hhp]; exact vx_Zq.moved hW0.alike (hN.kept hS.2.1)
  have h : ∀ w ∈ Bundle.ownAtoms0 own ic cls names, w.before args s' = true := vx_own hat' (vx_isRefq hU'.1) (vx_isRefq hN'.1) hU'.2.word hN'.2.word
  have hown' : s'.vm.findClass own = some m.cls := by rw [hvm]; exact hown
  have hins : (Cond.instantiable cls 6).before args s' = true := h _ (by simp [Bundle.ownAtoms0])
  obtain ⟨vm₁, cX, kX, hfX, hkX, -, -, X₁, st1⟩ := Y.newCold hexec (own := own) (C := cls) (index := ik) (n := 6) hown' hk' hins hini'
    (g := F0 m pc ls rest) rfl (by rw [hb]; exact d0) (Nat.le_refl _) (Nat.le_refl _)
  generalize hT1 : (T.setVm vm₁).pushCell { cls := cX, slots := kX.instanceTypes.map defaultValue, vm := .none } = T1 at X₁ st1
  have hcat : (Value.ref T.heap.size).category = 1 := rfl
  have hcellA : T1.heap[T.heap.size]? = some (freshCell cX kX) := by rw [← hT1]; exact State.heap_pushCell_size _ _
  have d3' : decode c.code (pc + 3) = .ok (.dup, 1) := by rw [hb]; exact d3
  obtain ⟨U, hsteps, hrun, hend, hW, hsame, ce, hce, hO⟩ := X₁.ctorThrow0 hexec htr (own := own) (cls := cls) (names := names) (ic := ic) hown' hcls hnames h (fun x hx => nomatch hx) hfX hkX hcellA (by rw [hhp, hT]; exact Nat.le_refl _)
    (g := { method := m, pc := pc + 4, locals := ls, stack := .ref T.heap.size :: .ref T.heap.size :: rest, locked := none }) rfl hsize rfl rfl (rest := rest) rfl
    (by rw [hb]; exact d4) (by rw [hb]; exact d7) hout hRframes (by simp only [List.map_cons, List.sum_cons, hcat]; omega) hlocks
  obtain ⟨f1, f2⟩ := vx_frame hsame
  rw [hhp] at f1 f2
  have hWs : s.WarmedH U.vm := State.WarmedH.trans hW0 hW
  have hcl : s.vm.findClass cls = some ce.cls := by
    have h9 := hO.cls
    rw [hvm] at h9
    exact h9
  have hall : s.sameButNew ({ U with vm := s.vm } : State) locs mc ms := by
    subst hA
    obtain ⟨e1, e2⟩ := hsame
    rw [State.setFrames_setFrames] at e1
    have h2 : (T.setVm s.vm).sameButNew ({ U with vm := s.vm } : State) [] (0 + 1) (0 + 6) := ⟨e1, e2⟩
    have h3 := X.same.trans h2
    rw [List.append_nil] at h3
    exact h3.mono hc hs
  refine ⟨U, ?_, .threw T.heap.size, hrun, hend, Or.inr ⟨T.heap.size, rfl, cls, ce, locs, hx U hWs.alike f1 (fun q hq => f2 q hq (fun z hz => nomatch hz)), hce, hO.vm, hcl, hWs, hall, hf⟩⟩
  refine st1 _ ?_
  show Steps p.tables e below (T1.setTop { method := m, pc := pc + 3, locals := ls, stack := .ref T.heap.size :: rest, locked := none }) _
  jvm_step X₁.here [X₁.here.top, hexec, d3', Value.category]
  exact hsteps
/-- 'throw new E("text")': new; dup; ldc; invokespecial; athrow -/
theorem vx_throwS {cc : ByteArray} {pc : Nat} (hexec : p.tables.exec = Jvm.exec) (hb : c.code = cc) (hl : l.stackTraces = false) {own cls text : String} {names : List String} {ik is ic mc ms sa : Nat} {A : Nat → Prop}
    (hown : s.vm.findClass own = some m.cls) (hcls : Bundle.fit cls = true) (hnames : ∀ n ∈ names, Bundle.fit n = true)
    (hk : (Cond.classLink own ik cls).before args s = true) (hini : (Cond.initialized cls).before args s = true) (hstr : vk_R own is text sa s) (hat : ∀ w ∈ vx_atS own ic cls names, w.before args s = true)
    (hgood : ∀ w ∈ Cond.classLink own ik cls :: Cond.initialized cls :: vx_atS own ic cls names, vx_ot w = true)
    (hU : vx_Zq Bundle.tN "UNASSIGNED_STACK" Bundle.steD A s s.heap) (hN : vx_Zq Bundle.tN "SUPPRESSED_SENTINEL" Bundle.listD A s s.heap) (hS : va_S A s.heap H locs) (hsize : ls.size = c.maxLocals)
    (d0 : decode cc pc = .ok (.new ik, 3)) (d3 : decode cc (pc + 3) = .ok (.dup, 1)) (d4 : decode cc (pc + 4) = .ok (.ldc is, 2)) (d6 : decode cc (pc + 6) = .ok (.invokespecial ic, 3)) (d9 : decode cc (pc + 9) = .ok (.athrow, 1))
    (hout : ∀ x ∈ c.exceptionTable.toList, covers x (pc + 9) = false)
    (hRframes : names.length + 3 < R.frames) (hRlocals : (rest.map fun v => v.category).sum + (13 * (names.length + 1) + 43) ≤ R.locals) (hRcells : cells + 1 ≤ R.cells) (hRslots : slots + 6 ≤ R.slots) (hlocks : meth.locks = false)
    (hx : ∀ t : State, s.vm.Alike t.vm → H.size ≤ t.heap.size → (∀ q : Nat, q < H.size → t.heap[q]? = H[q]?) → XC cls s t)
    (hf : ∀ z ∈ locs, free z.base) (hc : cells + 1 ≤ mc) (hs : slots + 6 ≤ ms) :
    W p l e R s m args below meth c H locs cells slots (vx_MQ below Qc XC args s mc ms free) (F0 m pc ls rest) := by
  intro T hT X
  have htr : e.platform.stackTraces = false := (show e.platform.stackTraces = l.stackTraces by rw [X.admits.platform]).trans hl
  have Y := vx_rebase X (R' := { frames := R.frames, locals := R.locals, cells := 1, slots := 6 }) (Nat.le_refl _) (Nat.le_refl _) hRcells hRslots
  obtain ⟨s', hA⟩ : ∃ z, z = (T.setVm s.vm).setFrames (.invoking m args :: below) := ⟨_, rfl⟩
  rw [← hA] at Y
  have hvm : s'.vm = s.vm := by rw [hA]; rfl
  have hhp : s'.heap = H := by rw [hA]; exact hT
  have hW0 : s.WarmedH s'.vm := by rw [hvm]; exact State.WarmedH.refl s
  have hat' : ∀ w ∈ vx_atS own ic cls names, w.before args s' = true := fun w hw => vx_ot_at hW0 hvm.symm (hgood w (List.mem_cons_of_mem _ (List.mem_cons_of_mem _ hw))) (hat w hw)
  have hk' : (Cond.classLink own ik cls).before args s' = true := vx_ot_at hW0 hvm.symm (hgood _ List.mem_cons_self) hk
  have hini' : (Cond.initialized cls).before args s' = true := vx_ot_at hW0 hvm.symm (hgood _ (List.mem_cons_of_mem _ List.mem_cons_self)) hini
  have hU' : vx_Zq Bundle.tN "UNASSIGNED_STACK" Bundle.steD A s' s'.heap := by rw [hhp]; exact vx_Zq.moved hW0.alike (hU.kept hS.2.1)
  have hN' : vx_Zq Bundle.tN "SUPPRESSED_SENTINEL" Bundle.listD A s' s'.heap := by rw [hhp]; exact vx_Zq.moved hW0.alike (hN.kept hS.2.1)
  have h : ∀ w ∈ Bundle.ownAtoms own ic cls names, w.before args s' = true := vx_own hat' (vx_isRefq hU'.1) (vx_isRefq hN'.1) hU'.2.word hN'.2.word
  have hown' : s'.vm.findClass own = some m.cls := by rw [hvm]; exact hown
  have hins : (Cond.instantiable cls 6).before args s' = true := h _ (by simp [Bundle.ownAtoms])
  obtain ⟨vm₁, cX, kX, hfX, hkX, -, -, X₁, st1⟩ := Y.newCold hexec (own := own) (C := cls) (index := ik) (n := 6) hown' hk' hins hini'
    (g := F0 m pc ls rest) rfl (by rw [hb]; exact d0) (Nat.le_refl _) (Nat.le_refl _)
  generalize hT1 : (T.setVm vm₁).pushCell { cls := cX, slots := kX.instanceTypes.map defaultValue, vm := .none } = T1 at X₁ st1
  have hcat : (Value.ref T.heap.size).category = 1 := rfl
  have hcellA : T1.heap[T.heap.size]? = some (freshCell cX kX) := by rw [← hT1]; exact State.heap_pushCell_size _ _
  have d3' : decode c.code (pc + 3) = .ok (.dup, 1) := by rw [hb]; exact d3
  have d4' : decode c.code (pc + 4) = .ok (.ldc is, 2) := by rw [hb]; exact d4
  have hstr' : vk_R own is text sa s' := vk_R.warm hW0 hstr
  obtain ⟨U, hsteps, hrun, hend, hW, hsame, ce, hce, hO⟩ := X₁.ctorThrowS hexec htr (own := own) (cls := cls) (names := names) (ic := ic) hown' hcls hnames h (fun x hx => nomatch hx) hfX hkX hcellA (by rw [hhp, hT]; exact Nat.le_refl _) (msg := .ref sa) rfl
    (g := { method := m, pc := pc + 6, locals := ls, stack := .ref sa :: .ref T.heap.size :: .ref T.heap.size :: rest, locked := none }) rfl hsize rfl rfl (rest := rest) rfl
    (by rw [hb]; exact d6) (by rw [hb]; exact d9) hout hRframes (by simp only [List.map_cons, List.sum_cons, hcat]; omega) hlocks
  obtain ⟨f1, f2⟩ := vx_frame hsame
  rw [hhp] at f1 f2
  have hWs : s.WarmedH U.vm := State.WarmedH.trans hW0 hW
  have hcl : s.vm.findClass cls = some ce.cls := by
    have h9 := hO.cls
    rw [hvm] at h9
    exact h9
  have hall : s.sameButNew ({ U with vm := s.vm } : State) locs mc ms := by
    subst hA
    obtain ⟨e1, e2⟩ := hsame
    rw [State.setFrames_setFrames] at e1
    have h2 : (T.setVm s.vm).sameButNew ({ U with vm := s.vm } : State) [] (0 + 1) (0 + 6) := ⟨e1, e2⟩
    have h3 := X.same.trans h2
    rw [List.append_nil] at h3
    exact h3.mono hc hs
  refine ⟨U, ?_, .threw T.heap.size, hrun, hend, Or.inr ⟨T.heap.size, rfl, cls, ce, locs, hx U hWs.alike f1 (fun q hq => f2 q hq (fun z hz => nomatch hz)), hce, hO.vm, hcl, hWs, hall, hf⟩⟩
  refine st1 _ ?_
  show Steps p.tables e below (T1.setTop { method := m, pc := pc + 3, locals := ls, stack := .ref T.heap.size :: rest, locked := none }) _
  jvm_step X₁.here [X₁.here.top, hexec, d3', Value.category]
  exact X₁.ldcString hexec (own := own) (text := text) (index := is) (a := sa) hown' hstr'.1 hstr'.2
    (g := { method := m, pc := pc + 4, locals := ls, stack := .ref T.heap.size :: .ref T.heap.size :: rest, locked := none }) rfl d4' _ hsteps
/-- 'throw new E("text")', the text by a wide index -/
theorem vx_throwSW {cc : ByteArray} {pc : Nat} (hexec : p.tables.exec = Jvm.exec) (hb : c.code = cc) (hl : l.stackTraces = false) {own cls text : String} {names : List String} {ik is ic mc ms sa : Nat} {A : Nat → Prop}
    (hown : s.vm.findClass own = some m.cls) (hcls : Bundle.fit cls = true) (hnames : ∀ n ∈ names, Bundle.fit n = true)
    (hk : (Cond.classLink own ik cls).before args s = true) (hini : (Cond.initialized cls).before args s = true) (hstr : vk_R own is text sa s) (hat : ∀ w ∈ vx_atS own ic cls names, w.before args s = true)
    (hgood : ∀ w ∈ Cond.classLink own ik cls :: Cond.initialized cls :: vx_atS own ic cls names, vx_ot w = true)
    (hU : vx_Zq Bundle.tN "UNASSIGNED_STACK" Bundle.steD A s s.heap) (hN : vx_Zq Bundle.tN "SUPPRESSED_SENTINEL" Bundle.listD A s s.heap) (hS : va_S A s.heap H locs) (hsize : ls.size = c.maxLocals)
    (d0 : decode cc pc = .ok (.new ik, 3)) (d3 : decode cc (pc + 3) = .ok (.dup, 1)) (d4 : decode cc (pc + 4) = .ok (.ldc_w is, 3)) (d7 : decode cc (pc + 7) = .ok (.invokespecial ic, 3)) (d10 : decode cc (pc + 10) = .ok (.athrow, 1))
    (hout : ∀ x ∈ c.exceptionTable.toList, covers x (pc + 10) = false)
    (hRframes : names.length + 3 < R.frames) (hRlocals : (rest.map fun v => v.category).sum + (13 * (names.length + 1) + 43) ≤ R.locals) (hRcells : cells + 1 ≤ R.cells) (hRslots : slots + 6 ≤ R.slots) (hlocks : meth.locks = false)
    (hx : ∀ t : State, s.vm.Alike t.vm → H.size ≤ t.heap.size → (∀ q : Nat, q < H.size → t.heap[q]? = H[q]?) → XC cls s t)
    (hf : ∀ z ∈ locs, free z.base) (hc : cells + 1 ≤ mc) (hs : slots + 6 ≤ ms) :
    W p l e R s m args below meth c H locs cells slots (vx_MQ below Qc XC args s mc ms free) (F0 m pc ls rest) := by
  intro T hT X
  have htr : e.platform.stackTraces = false := (show e.platform.stackTraces = l.stackTraces by rw [X.admits.platform]).trans hl
  have Y := vx_rebase X (R' := { frames := R.frames, locals := R.locals, cells := 1, slots := 6 }) (Nat.le_refl _) (Nat.le_refl _) hRcells hRslots
  obtain ⟨s', hA⟩ : ∃ z, z = (T.setVm s.vm).setFrames (.invoking m args :: below) := ⟨_, rfl⟩
  rw [← hA] at Y
  have hvm : s'.vm = s.vm := by rw [hA]; rfl
  have hhp : s'.heap = H := by rw [hA]; exact hT
  have hW0 : s.WarmedH s'.vm := by rw [hvm]; exact State.WarmedH.refl s
  have hat' : ∀ w ∈ vx_atS own ic cls names, w.before args s' = true := fun w hw => vx_ot_at hW0 hvm.symm (hgood w (List.mem_cons_of_mem _ (List.mem_cons_of_mem _ hw))) (hat w hw)
  have hk' : (Cond.classLink own ik cls).before args s' = true := vx_ot_at hW0 hvm.symm (hgood _ List.mem_cons_self) hk
  have hini' : (Cond.initialized cls).before args s' = true := vx_ot_at hW0 hvm.symm (hgood _ (List.mem_cons_of_mem _ List.mem_cons_self)) hini
  have hU' : vx_Zq Bundle.tN "UNASSIGNED_STACK" Bundle.steD A s' s'.heap := by rw [hhp]; exact vx_Zq.moved hW0.alike (hU.kept hS.2.1)
  have hN' : vx_Zq Bundle.tN "SUPPRESSED_SENTINEL" Bundle.listD A s' s'.heap := by rw [hhp]; exact vx_Zq.moved hW0.alike (hN.kept hS.2.1)
  have h : ∀ w ∈ Bundle.ownAtoms own ic cls names, w.before args s' = true := vx_own hat' (vx_isRefq hU'.1) (vx_isRefq hN'.1) hU'.2.word hN'.2.word
  have hown' : s'.vm.findClass own = some m.cls := by rw [hvm]; exact hown
  have hins : (Cond.instantiable cls 6).before args s' = true := h _ (by simp [Bundle.ownAtoms])
  obtain ⟨vm₁, cX, kX, hfX, hkX, -, -, X₁, st1⟩ := Y.newCold hexec (own := own) (C := cls) (index := ik) (n := 6) hown' hk' hins hini'
    (g := F0 m pc ls rest) rfl (by rw [hb]; exact d0) (Nat.le_refl _) (Nat.le_refl _)
  generalize hT1 : (T.setVm vm₁).pushCell { cls := cX, slots := kX.instanceTypes.map defaultValue, vm := .none } = T1 at X₁ st1
  have hcat : (Value.ref T.heap.size).category = 1 := rfl
  have hcellA : T1.heap[T.heap.size]? = some (freshCell cX kX) := by rw [← hT1]; exact State.heap_pushCell_size _ _
  have d3' : decode c.code (pc + 3) = .ok (.dup, 1) := by rw [hb]; exact d3
  have d4' : decode c.code (pc + 4) = .ok (.ldc_w is, 3) := by rw [hb]; exact d4
  have hstr' : vk_R own is text sa s' := vk_R.warm hW0 hstr
  obtain ⟨U, hsteps, hrun, hend, hW, hsame, ce, hce, hO⟩ := X₁.ctorThrowS hexec htr (own := own) (cls := cls) (names := names) (ic := ic) hown' hcls hnames h (fun x hx => nomatch hx) hfX hkX hcellA (by rw [hhp, hT]; exact Nat.le_refl _) (msg := .ref sa) rfl
    (g := { method := m, pc := pc + 7, locals := ls, stack := .ref sa :: .ref T.heap.size :: .ref T.heap.size :: rest, locked := none }) rfl hsize rfl rfl (rest := rest) rfl
    (by rw [hb]; exact d7) (by rw [hb]; exact d10) hout hRframes (by simp only [List.map_cons, List.sum_cons, hcat]; omega) hlocks
  obtain ⟨f1, f2⟩ := vx_frame hsame
  rw [hhp] at f1 f2
  have hWs : s.WarmedH U.vm := State.WarmedH.trans hW0 hW
  have hcl : s.vm.findClass cls = some ce.cls := by
    have h9 := hO.cls
    rw [hvm] at h9
    exact h9
  have hall : s.sameButNew ({ U with vm := s.vm } : State) locs mc ms := by
    subst hA
    obtain ⟨e1, e2⟩ := hsame
    rw [State.setFrames_setFrames] at e1
    have h2 : (T.setVm s.vm).sameButNew ({ U with vm := s.vm } : State) [] (0 + 1) (0 + 6) := ⟨e1, e2⟩
    have h3 := X.same.trans h2
    rw [List.append_nil] at h3
    exact h3.mono hc hs
  refine ⟨U, ?_, .threw T.heap.size, hrun, hend, Or.inr ⟨T.heap.size, rfl, cls, ce, locs, hx U hWs.alike f1 (fun q hq => f2 q hq (fun z hz => nomatch hz)), hce, hO.vm, hcl, hWs, hall, hf⟩⟩
  refine st1 _ ?_
  show Steps p.tables e below (T1.setTop { method := m, pc := pc + 3, locals := ls, stack := .ref T.heap.size :: rest, locked := none }) _
  jvm_step X₁.here [X₁.here.top, hexec, d3', Value.category]
  exact X₁.ldcStringW hexec (own := own) (text := text) (index := is) (a := sa) hown' hstr'.1 hstr'.2
    (g := { method := m, pc := pc + 4, locals := ls, stack := .ref T.heap.size :: .ref T.heap.size :: rest, locked := none }) rfl d4' _ hsteps
end Ends
section Bodies
variable {l : Launch}
theorem vx_ofW {y : MethodName} {ws ws' : List Cond} {rm : Room} {Pc : Array Value → State → Prop} {Qc : Array Value → State → Outcome → State → Prop} {XC : String → State → State → Prop} {mc ms : Nat} {free : Addr → Prop} {cc : ByteArray} {maxL : Nat} {ret : Option FieldType}
    (hy : plainName y.cls = true) (hw : ws = Cond.code y cc maxL ret :: ws')
    (body : ∀ p e s m args below meth c s₁, BodyLoose p l y (headSpec ws rm) cc maxL ret e s m args below meth c s₁ → c.maxLocals = maxL → (∀ x ∈ c.exceptionTable.toList, False) → Pc args s →
      W p l e (headSpec ws rm).room s m args below meth c s.heap [] 0 0 (vx_MQ below Qc XC args s mc ms free) (entryFrame m args maxL)) : vx_Met l y ws rm Pc Qc XC mc ms free := by
  refine MetFree.of_bodyS (code := cc) (maxLocals := maxL) (ret := ret) hy ?_ ?_
  · intro args s m h hn
    obtain ⟨meth, c, h1, h2, h3, h4, h5, h6, -, -⟩ := Cond.code_spec hn (atoms_spec (ws := ws) h _ (by rw [hw]; exact List.mem_cons_self))
    exact ⟨meth, c, h1, h2, h3, h4, h5, h6⟩
  · intro p e s m args below meth c s₁ B hml hP _
    have hh0 : s₁.heap = s.heap := by rw [B.state]; rfl
    have ht : ∀ x ∈ c.exceptionTable.toList, False := by
      obtain ⟨meth9, c9, h1, h2, -, -, -, -, h7, -⟩ := Cond.code_spec B.named (atoms_spec (ws := ws) B.pre _ (by rw [hw]; exact List.mem_cons_self))
      cases Option.some.inj (h1.symm.trans B.method)
      cases Option.some.inj (h2.symm.trans (Stand.of_body B).code)
      intro x hx
      rw [Array.isEmpty_iff.mp h7] at hx
      cases hx
    obtain ⟨t, a1, o, b1, b2, b3⟩ := body p e s m args below meth c s₁ B hml ht hP s₁ hh0 (Stand.of_body B)
    exact ⟨t, o, a1, b1, b2, b3⟩
/-- the table of a body with handlers -/
theorem vx_table {p : Program} {x y : MethodName} {S : Spec} {cc bytes : ByteArray} {maxL maxL' : Nat} {ret ret' : Option FieldType} {e : Env} {s s₁ : State} {m : MethodId} {args : Array Value} {below : List Frame} {meth : Method} {c : Code} {hh : List (Nat × Nat × Nat × Nat)}
    (B : BodyLoose p l y S cc maxL ret e s m args below meth c s₁) (h : (Cond.codeWith y bytes maxL' ret' hh).before args s = true) : c.exceptionTable.toList = tableOf hh := by
  obtain ⟨m9, meth9, c9, hn9, h1, h2, -, -, h6, -⟩ := Cond.codeWith_spec h
  cases Option.some.inj (hn9.symm.trans B.named)
  cases Option.some.inj (h1.symm.trans B.method)
  cases Option.some.inj (h2.symm.trans (Stand.of_body B).code)
  rw [← h6, table_eq]
end Bodies
end VXA
/-! ===== END ===== -/
/-! ===== BEGIN a static call of a method with an exception table ===== -/
section VXS
variable {p : Program} {l : Launch} {e : Env} {R : Room} {s : State} {m : MethodId} {args : Array Value} {below : List Frame} {meth : Method} {c : Code} {T : State} {H : Heap} {locs : List Loc} {cells slots : Nat}
abbrev vx_CSW (R : Room) (s : State) (args : Array Value) (own : String) (index : Nat) (y : MethodName) (bytes : ByteArray) (maxL : Nat) (ret : Option FieldType) (hh : List (Nat × Nat × Nat × Nat)) (ws : List Cond) (rm : Room) (mc ms n : Nat) : Prop :=
  (rm.cells = mc ∧ rm.slots = ms ∧ rm.frames + 1 ≤ R.frames ∧ 8 + (maxL + 11) + rm.locals ≤ R.locals ∧ (∀ w ∈ ws, ∀ (a' : Array Value) (U : State), s.WarmedH U.vm → w.before a' U = true) ∧ Cond.codeWith y bytes maxL ret hh ∈ ws) ∧
  (Cond.codeWith y bytes maxL ret hh).before args s = true ∧ (Cond.initialized y.cls).before args s = true ∧ (y.cls ≠ "java/lang/invoke/MethodHandle" ∧ y.cls ≠ "java/lang/invoke/VarHandle") ∧
  (∀ sig, parseMethodDescriptor y.desc = some sig → n = sig.parameters.length) ∧ (Cond.methodLink own index y).before args s = true ∧ (Cond.static y).before args s = true
theorem vx_cwSW {own : String} {index maxL mc ms : Nat} {y : MethodName} {bytes : ByteArray} {ret : Option FieldType} {hh : List (Nat × Nat × Nat × Nat)} {Ts ws ws' : List Cond} {rm : Room} (n : Nat) (ht : ∀ w ∈ Ts, w.before args s = true) (hT : GoodIn Ts (va_wsS own index y ws)) (hw : ws = Cond.codeWith y bytes maxL ret hh :: ws') (hrc : rm.cells = mc) (hrs : rm.slots = ms)
    (hd : y.cls ≠ "java/lang/invoke/MethodHandle" ∧ y.cls ≠ "java/lang/invoke/VarHandle" ∧ (parseMethodDescriptor y.desc).map (fun d => d.parameters.length) = some n) (hR : rm.frames + 1 ≤ R.frames ∧ 8 + (maxL + 11) + rm.locals ≤ R.locals) :
    vx_CSW R s args own index y bytes maxL ret hh ws rm mc ms n := by
  have ok : ∀ w ∈ va_wsS own index y ws, w.before args s = true := fun w h => ht w (hT w h).1
  have hG : GoodIn Ts ws := fun w h => hT w (by unfold va_wsS; exact List.mem_append_right _ h)
  have hc : Cond.codeWith y bytes maxL ret hh ∈ ws := by rw [hw]; exact List.mem_cons_self
  refine ⟨⟨hrc, hrs, hR.1, hR.2, pay_in ht hG, hc⟩, ht _ (hG _ hc).1, ok _ (by simp [va_wsS]), ⟨hd.1, hd.2.1⟩, fun sig h => ?_, ok _ (by simp [va_wsS]), ok _ (by simp [va_wsS])⟩
  have h2 := hd.2.2
  rw [h] at h2
  exact (Option.some.inj h2).symm
theorem vx_callSW (X : Stand p l e R s m args below meth c T locs cells slots) (hexec : p.tables.exec = Jvm.exec) {own : String} {index : Nat} {y : MethodName} {bytes : ByteArray} {maxL : Nat} {ret : Option FieldType} {hh : List (Nat × Nat × Nat × Nat)}
    (hown : s.vm.findClass own = some m.cls) (hlink : (Cond.methodLink own index y).before args s = true) (hstat : (Cond.static y).before args s = true) (hinit : (Cond.initialized y.cls).before args s = true)
    (hcode : (Cond.codeWith y bytes maxL ret hh).before args s = true) (hy : y.cls ≠ "java/lang/invoke/MethodHandle" ∧ y.cls ≠ "java/lang/invoke/VarHandle")
    {W9 : Nat} {Pre : Pt → Array Value → Prop} {Post : Pt → Array Value → Option Value → Pt → Prop} (hK : Back l R p e below s args y 3 W9 Pre Post)
    {g : JFrame} (hg : g.method = m) (hsize : g.locals.size = c.maxLocals) {argsL rest : List Value} (hlen : ∀ sig, parseMethodDescriptor y.desc = some sig → argsL.length = sig.parameters.length)
    (hstack : g.stack = argsL.reverse ++ rest) (hW : 2 * g.monitorRoom + (rest.map fun v => v.category).sum ≤ W9) (hdg : decode c.code g.pc = .ok (.invokestatic index, 3))
    (hpre : ∀ vm₁, s.WarmedH vm₁ → Pre ⟨T.setVm vm₁, locs, cells, slots⟩ argsL.toArray) :
    ∃ (v : Option Value) (vm₁ : Vm) (B : Pt), s.WarmedH vm₁ ∧ Stand p l e R s m args below meth c B.U B.locs B.cells B.slots ∧ Post ⟨T.setVm vm₁, locs, cells, slots⟩ argsL.toArray v B ∧
      ∀ target, Steps p.tables e below (B.U.setTop { g with pc := g.pc + 3, stack := v.toList ++ rest }) target → Steps p.tables e below (T.setTop g) target := by
  obtain ⟨mk, methM, cM, hnamed, hmethM, -, -, -, -, -, -, hsigM⟩ := Cond.codeWith_spec hcode
  have hstatic : methM.isStatic = true := Cond.static_spec hnamed hmethM hstat
  obtain ⟨kP, hkP, -⟩ := className_of_methodNamed hnamed
  have hinitP : kP.init = .initialized := Cond.initialized_spec (findClass_of_methodNamed hnamed) hkP hinit
  obtain ⟨vm₁, X₁, hstep₁⟩ := X.invokestatic hexec hown hlink hnamed hmethM hstatic hkP hinitP hy (g := g) hg (argsL := argsL) (rest := rest) (hlen _ hsigM) hstack hdg
  obtain ⟨v, B, X', hpost, hsteps⟩ := hK m meth c ⟨T.setVm vm₁, locs, cells, slots⟩ { g with stack := rest } (.invokestatic index) mk argsL.toArray X₁ hg hsize hdg hW (X₁.named hnamed) (hpre vm₁ X₁.warmed)
  exact ⟨v, vm₁, B, X₁.warmed, X', hpost, fun target h => hstep₁ _ fun acts => by rw [doInvoke_state]; exact hsteps.trans h⟩
theorem vx_runSW {y : MethodName} {bytes cc : ByteArray} {maxL nL mc ms n index : Nat} {ret : Option FieldType} {hh : List (Nat × Nat × Nat × Nat)} {ws : List Cond} {rm : Room} {Pc : Array Value → State → Prop} {Qc : Array Value → State → Outcome → State → Prop} {free : Addr → Prop} {Ts : List Cond} {own : String} {As rest : List Value} {g : JFrame}
    (S : CallFix p m c cc nL s args Ts own) (hM : Met l y ws rm Pc Qc mc ms free) (cw : vx_CSW R s args own index y bytes maxL ret hh ws rm mc ms n) (hp : PreS s H Pc As)
    (hg : g.method = m) (hn : As.length = n) (hsize : g.locals.size = nL) (hstack : g.stack = As.reverse ++ rest) (hW : 2 * g.monitorRoom + (rest.map fun v => v.category).sum ≤ 8) (hdg : decode cc g.pc = .ok (.invokestatic index, 3)) (hf : cells + mc ≤ R.cells ∧ slots + ms ≤ R.slots) :
    va_Run p l e R s m args below meth c H locs cells slots mc ms g rest (Qc As.toArray) (free) := by
  obtain ⟨⟨hrc, hrs, hfr, hlo, hws, hcw⟩, hcode, hini, hy, hlen, hl, hstt⟩ := cw
  have hK : Back l R p e below s args y 3 8 (PreOf R mc ms Pc) (PostOf Qc mc ms free) := va_backW (hh := hh) (bytes := bytes) (maxL := maxL) (ret := ret) hM hp.1 hrc hrs hfr hlo hws hcw (fun a' U hW => word_at hW (Or.inl (by first | rfl | simp [Cond.onTables, Cond.keeps, Cond.steady])) hini)
  obtain ⟨hx, hb, hml, ho, -⟩ := S
  intro T hT X
  obtain ⟨v, vm₁, ⟨U', l2, c2, s2⟩, hW₁, X', ⟨g', mk, t, L, e1, e2, hq, h1, hL, h2, h3⟩, st⟩ := vx_callSW X hx (hh := hh) (bytes := bytes) (maxL := maxL) (ret := ret) ho hl hstt hini hcode hy hK hg (hsize.trans hml.symm) (argsL := As) (rest := rest) (fun sig h => hn.trans (hlen sig h)) hstack hW (by rw [hb]; exact hdg)
    (fun vm₁ hW₁ => ⟨hf.1, hf.2, hp.2 (T.setVm vm₁) hT hW₁⟩)
  dsimp only [Pt.U, Pt.locs, Pt.cells, Pt.slots] at X' e1 e2 h1 h2 h3 st
  subst h1; subst h2; subst h3
  exact ⟨v, (T.setVm vm₁).calling g' mk As.toArray, t, U', L, hT, X', hL, e1, e2, hq, st⟩
/-- not caught here, past rows that name other classes: it goes on to the caller -/
theorem vx_outP {p : Program} {l : Launch} {e : Env} {R : Room} {s : State} {m : MethodId} {args : Array Value} {below : List Frame} {meth : Method} {c : Code} {H : Heap} {locs : List Loc} {cells slots : Nat} {free : Addr → Prop} {ls : Array Slot} {rest : List Value} {Qc : Array Value → State → Outcome → State → Prop} {XC : String → State → State → Prop}
    {pc : Nat} {own E : String} {ce : Cell} {q : Addr} {mc ms : Nat} (hown : s.vm.findClass own = some m.cls) (hlocks : meth.locks = false)
    (hpass : ∀ z ∈ c.exceptionTable.toList, covers z pc = false ∨ (z.catchType ≠ 0 ∧ ∃ nm : String, (Cond.classLink own z.catchType nm).before args s = true ∧ va_Nc E nm s)) (hcell : H[q]? = some ce) (hv : ce.vm = .none) (hcl : s.vm.findClass E = some ce.cls)
    (hx : ∀ t : State, t.heap = H → s.vm.Alike t.vm → XC E s t) (hf : ∀ z ∈ locs, free z.base) (hc : cells ≤ mc) (hs : slots ≤ ms) :
    vx_W p l e R s m args below meth c H locs cells slots (vx_MQ below Qc XC args s mc ms free) (F0 m pc ls rest) q := by
  intro T hT X
  have hpl : e.platform.magicAccessors = ({} : Platform).magicAccessors := by rw [X.admits.platform]
  obtain ⟨vm', hW', X', st⟩ := X.outThrough hlocks q (g := F0 m pc ls rest) rfl rfl rfl (cell := ce) (by rw [hT]; exact hcell) (by rw [hv]; rfl)
    (by obtain ⟨k9, h9, -⟩ := Vm.findClass_spec hcl; exact ⟨k9, h9⟩) (fun z hz => by
      rcases hpass z hz with h | ⟨hz0, nm, hl1, hn1⟩
      · exact Or.inl h
      · obtain ⟨c6, hc6, hcl6⟩ := Cond.classLink_spec hown hl1 e.platform hpl
        obtain ⟨a8, b8, h1, h2, h3⟩ := hn1
        cases Option.some.inj (h1.symm.trans hcl)
        cases Option.some.inj (h2.symm.trans hc6)
        exact Or.inr ⟨hz0, _, hcl6, h3⟩)
  obtain ⟨g₀, hfr⟩ := X'.frames_eq
  have hcell9 : ((T.setVm vm').setFrames (.throwing q :: below)).heap[q]? = some ce := by
    show T.heap[q]? = some ce
    rw [hT]; exact hcell
  have hend : Ended ((T.setVm vm').setFrames (.throwing q :: below)) below (.threw q) := State.frames_setFrames _ (State.cur_lt_of_frames hfr)
  refine ⟨(T.setVm vm').setFrames (.throwing q :: below), ?_, .threw q, X'.here.running, hend, Or.inr ⟨q, rfl, E, ce, locs, hx _ hT (X'.ends _).1.alike, hcell9, hv, hcl, (X'.ends _).1, (X'.ends _).2.mono hc hs, hf⟩⟩
  rw [X.pushThrowing_eq]
  exact st
/-- a thing of a world lies in the heap -/
theorem vx_lt {D : va_G} {cl : List vw_C} {ws : va_W} {H1 : Heap} (h : va_P D cl ws H1) {k : Nat} {q : Nat × va_E} (hk : ws[k]? = some q) : q.1 < H1.size := (h k q hk).lt
end VXS
/-! ===== END ===== -/
/-! ===== BEGIN methods with a table of their own: called by a name, returning or throwing ===== -/
section VXH
/-! vx_backW, vx_callVX, vx_callSX, vx_callVW, vx_runVW, vx_runVX, vx_runSX, vx_ofWH follow the same proofs as their sisters above (Free/Laws.lean, Shelf42/LK1.lean); vx_outP calls Shelf42/NT130.lean (outThrough). -/
section
variable {l : Launch} {R : Room} {p : Program} {e : Env} {below : List Frame} {s : State} {sargs : Array Value} {y : MethodName} {len W9 : Nat}
theorem vx_backW {ws : List Cond} {rm : Room} {Pc : Array Value → State → Prop} {Qc : Array Value → State → Outcome → State → Prop} {XC : String → State → State → Prop} {mc ms : Nat} {free : Addr → Prop} {bytes : ByteArray} {maxL : Nat} {ret : Option FieldType} {hh : List (Nat × Nat × Nat × Nat)}
    (hM : vx_Met l y ws rm Pc Qc XC mc ms free) (hblind : FrameBlind Pc) (hrc : rm.cells = mc) (hrs : rm.slots = ms)
    (hframes : rm.frames + 1 ≤ R.frames) (hlocals : W9 + (maxL + 11) + rm.locals ≤ R.locals)
    (hws : ∀ w ∈ ws, ∀ a' U, s.WarmedH U.vm → w.before a' U = true) (hcode : Cond.codeWith y bytes maxL ret hh ∈ ws) (hinit : ∀ a' U, s.WarmedH U.vm → (Cond.initialized y.cls).before a' U = true) :
    vx_Back l R p e below s sargs y len W9 (PreOf R mc ms Pc) (PostOf Qc mc ms free) (vx_Post XC mc ms free) := by
  intro m meth c A g ig mk a X hg hsize hdg hW hn hp
  have h1 : (headSpec ws rm).pre.before a A.U = true := atoms_intro fun w hw => hws w hw _ _ X.warmed
  have h2 : (Cond.codeWith y bytes maxL ret hh).before a A.U = true := hws _ hcode _ _ X.warmed
  have h3 : (Cond.initialized y.cls).before a A.U = true := hinit _ _ X.warmed
  have h4 : A.cells + (headSpec ws rm).room.cells ≤ R.cells := by rw [show (headSpec ws rm).room.cells = mc from hrc]; exact hp.1
  have h5 : A.slots + (headSpec ws rm).room.slots ≤ R.slots := by rw [show (headSpec ws rm).room.slots = ms from hrs]; exact hp.2.1
  have hPc : Pc a (A.U.calling g mk a) := hblind _ _ _ _ hp.2.2
  obtain ⟨U, Ls, c0, s0⟩ := A
  dsimp only [Pt.U, Pt.locs, Pt.cells, Pt.slots] at h1 h2 h3 h4 h5 X hn hPc ⊢
  obtain ⟨m9, methY, cY, hn9, hmY, hcY, -, hlY, -⟩ := Cond.codeWith_spec h2
  cases Option.some.inj (hn9.symm.trans hn)
  obtain ⟨kY, hkY, -⟩ := className_of_methodNamed hn
  have hinitY : kY.init = .initialized := Cond.initialized_spec (findClass_of_methodNamed hn) hkY h3
  have h : At U g.method c below := by rw [hg]; exact X.here
  have hlocals9 : W9 + (maxL + 11) + (headSpec ws rm).room.locals ≤ R.locals := hlocals
  have happ : (headSpec ws rm).appliesLoose y e.platform (U.calling g mk a) = true :=
    Spec.appliesLoose_calling (g := g) h hdg hn hkY hinitY
      (X.room_calling (g := g) (R' := (headSpec ws rm).room) hsize hmY hcY hframes (by rw [hlY]; omega) h4 h5) h1
  obtain ⟨mid, hmid⟩ := h.above
  have hfr : (U.setTop g).frames = (.java g :: mid) ++ below := by rw [State.frames_setTop' g h.top, hmid]; rfl
  obtain ⟨o, s₂, hsteps, -, hend, hq⟩ := Steps.callFree hM p X.admits X.cas X.clock (acts := []) hfr happ hPc trivial
  have hq' : vx_Q Qc XC mc ms free a (U.calling g mk a) o s₂ := hq
  rw [State.frames_setTop' g h.top] at hend
  obtain ⟨g₀, hg0⟩ := Option.isSome_iff_exists.mp h.top
  obtain ⟨r, hr⟩ := State.topJava?_eq_some.mp hg0
  have hr' : (({ U with heap := s₂.heap, slotsUsed := s₂.slotsUsed } : State).setVm s₂.vm).frames = .java g₀ :: r := hr
  rcases hq' with ⟨hqc, L, hfe, hL⟩ | ⟨q, rfl, E, ce, L, hx, hce, hcv, hcl, hW₂, hsm, hL⟩
  · obtain ⟨⟨v, rfl⟩, hW₂, e2, q2, q3, q4, q5, q6⟩ := id hfe
    have e3 : s₂ = ({ (U.calling g mk a).setFrames s₂.frames with heap := s₂.heap, slotsUsed := s₂.slotsUsed } : State).setVm s₂.vm := by
      have : s₂ = ({ s₂ with vm := (U.calling g mk a).vm } : State).setVm s₂.vm := rfl
      rw [e2] at this
      exact this
    obtain ⟨c₂, i₂, len₂, hc₂, hd₂, hf₂⟩ := hend
    have hW' : U.WarmedH s₂.vm := hW₂
    have hcc : c₂ = c := by
      have h1 : s₂.code? g.method = U.code? g.method := by
        rw [State.code?_eq, State.code?_eq, hW'.alike.method?]
      exact Option.some.inj (hc₂.symm.trans (h1.trans h.code))
    subst hcc
    have hlen : len₂ = len := by rw [hdg] at hd₂; cases hd₂; rfl
    subst hlen
    have hs₂ : s₂ = (({ U with heap := s₂.heap, slotsUsed := s₂.slotsUsed } : State).setVm s₂.vm).setTop { g with pc := g.pc + len₂, stack := v.toList ++ g.stack } := by
      refine e3.trans ?_
      rw [hf₂, State.calling_eq h.top, State.setFrames_setFrames, State.setTop_of_frames _ hr', hr]
      rfl
    have hsame : U.sameButNew ({ U with heap := s₂.heap, slotsUsed := s₂.slotsUsed } : State) L mc ms := by
      refine ⟨?_, q2, q3, q4, q5, q6⟩
      obtain ⟨t, ht, -⟩ := State.frames_cons hr
      show ({ U with heap := s₂.heap, slotsUsed := s₂.slotsUsed } : State) = { U.setFrames U.frames with heap := s₂.heap, slotsUsed := s₂.slotsUsed }
      rw [State.setFrames_self ht]
    subst hg
    refine Or.inl ⟨v, ⟨(({ U with heap := s₂.heap, slotsUsed := s₂.slotsUsed } : State).setVm s₂.vm), Ls ++ L, c0 + mc, s0 + ms⟩,
      ⟨X.admits, X.cas, X.clock, X.frames, X.room, X.hears, X.method, X.code, (X.here.setHeapUsed s₂.heap s₂.slotsUsed).setVm hW'.alike, X.tail, State.WarmedH.trans X.warmed hW', X.limits, X.bytes, X.same.trans (hsame.setVm s.vm)⟩,
      ⟨g, mk, s₂, L, rfl, rfl, hqc, rfl, hL, rfl, rfl⟩, ?_⟩
    show Steps p.tables e below _ ((({ U with heap := s₂.heap, slotsUsed := s₂.slotsUsed } : State).setVm s₂.vm).setTop { g with pc := g.pc + len₂, stack := v.toList ++ g.stack })
    rw [← hs₂]
    exact hsteps
  · obtain ⟨e2, q2, q3, q4, q5, q6⟩ := id hsm
    have e3 : s₂ = ({ (U.calling g mk a).setFrames s₂.frames with heap := s₂.heap, slotsUsed := s₂.slotsUsed } : State).setVm s₂.vm := by
      have : s₂ = ({ s₂ with vm := (U.calling g mk a).vm } : State).setVm s₂.vm := rfl
      rw [e2] at this
      exact this
    have hf₂ : s₂.frames = .throwing q :: .java g :: U.frames.tail := hend
    have hW' : U.WarmedH s₂.vm := hW₂
    have hs₂ : s₂ = ((({ U with heap := s₂.heap, slotsUsed := s₂.slotsUsed } : State).setVm s₂.vm).setTop g).pushFrame (.throwing q) := by
      refine e3.trans ?_
      rw [hf₂, State.calling_eq h.top, State.setFrames_setFrames, State.pushFrame, State.frames_setTop _ hr', State.setTop_of_frames _ hr', State.setFrames_setFrames, hr]
      rfl
    have hsame : U.sameButNew ({ U with heap := s₂.heap, slotsUsed := s₂.slotsUsed } : State) L mc ms := by
      refine ⟨?_, q2, q3, q4, q5, q6⟩
      obtain ⟨t, ht, -⟩ := State.frames_cons hr
      show ({ U with heap := s₂.heap, slotsUsed := s₂.slotsUsed } : State) = { U.setFrames U.frames with heap := s₂.heap, slotsUsed := s₂.slotsUsed }
      rw [State.setFrames_self ht]
    subst hg
    refine Or.inr ⟨q, ⟨(({ U with heap := s₂.heap, slotsUsed := s₂.slotsUsed } : State).setVm s₂.vm), Ls ++ L, c0 + mc, s0 + ms⟩,
      ⟨X.admits, X.cas, X.clock, X.frames, X.room, X.hears, X.method, X.code, (X.here.setHeapUsed s₂.heap s₂.slotsUsed).setVm hW'.alike, X.tail, State.WarmedH.trans X.warmed hW', X.limits, X.bytes, X.same.trans (hsame.setVm s.vm)⟩,
      ⟨g, mk, s₂, L, E, ce, rfl, rfl, hx, hce, hcv, hcl, rfl, hL, rfl, rfl⟩, ?_⟩
    show Steps p.tables e below _ (((({ U with heap := s₂.heap, slotsUsed := s₂.slotsUsed } : State).setVm s₂.vm).setTop g).pushFrame (.throwing q))
    rw [← hs₂]
    exact hsteps
end
variable {p : Program} {l : Launch} {e : Env} {R : Room} {s : State} {m : MethodId} {args : Array Value} {below : List Frame} {meth : Method} {c : Code} {T : State} {H : Heap} {locs : List Loc} {cells slots : Nat}
theorem vx_callVX (X : Stand p l e R s m args below meth c T locs cells slots) (hexec : p.tables.exec = Jvm.exec) {own C : String} {index : Nat} {y : MethodName} {bytes : ByteArray} {maxL : Nat} {ret : Option FieldType} {hh : List (Nat × Nat × Nat × Nat)}
    (hown : s.vm.findClass own = some m.cls) (hlink : (Cond.methodLink own index y).before args s = true) (hinst : (Cond.instanceMethod y).before args s = true) (hsel : (Cond.selects C y y).before args s = true)
    (hcode : (Cond.codeWith y bytes maxL ret hh).before args s = true) (hy : y.cls ≠ "java/lang/invoke/MethodHandle" ∧ y.cls ≠ "java/lang/invoke/VarHandle")
    {W9 : Nat} {Pre : Pt → Array Value → Prop} {Post : Pt → Array Value → Option Value → Pt → Prop} {PostX : Pt → Array Value → Addr → Pt → Prop} (hK : vx_Back l R p e below s args y 3 W9 Pre Post PostX)
    {b : Addr} {cellB : Cell} (hcell : T.heap[b]? = some cellB) (hobj : cellB.vm.isStatics = false) (hcls : s.vm.findClass C = some cellB.cls)
    {g : JFrame} (hg : g.method = m) (hsize : g.locals.size = c.maxLocals) {argsL rest : List Value} (hlen : ∀ sig, parseMethodDescriptor y.desc = some sig → argsL.length = sig.parameters.length)
    (hstack : g.stack = argsL.reverse ++ .ref b :: rest) (hW : 2 * g.monitorRoom + (rest.map fun v => v.category).sum ≤ W9) (hdg : decode c.code g.pc = .ok (.invokevirtual index, 3))
    (hpre : ∀ vm₁, s.WarmedH vm₁ → Pre ⟨T.setVm vm₁, locs, cells, slots⟩ (Value.ref b :: argsL).toArray) :
    (∃ (v : Option Value) (vm₁ : Vm) (B : Pt), s.WarmedH vm₁ ∧ Stand p l e R s m args below meth c B.U B.locs B.cells B.slots ∧ Post ⟨T.setVm vm₁, locs, cells, slots⟩ (Value.ref b :: argsL).toArray v B ∧
      ∀ target, Steps p.tables e below (B.U.setTop { g with pc := g.pc + 3, stack := v.toList ++ rest }) target → Steps p.tables e below (T.setTop g) target) ∨
    (∃ (q : Addr) (vm₁ : Vm) (B : Pt), s.WarmedH vm₁ ∧ Stand p l e R s m args below meth c B.U B.locs B.cells B.slots ∧ PostX ⟨T.setVm vm₁, locs, cells, slots⟩ (Value.ref b :: argsL).toArray q B ∧
      Steps p.tables e below (T.setTop g) ((B.U.setTop { g with stack := rest }).pushFrame (.throwing q))) := by
  obtain ⟨mk, methM, hnamed, hmethM, hstM, habM⟩ := Cond.instanceMethod_spec hinst
  obtain ⟨m8, methM', cM, hn8, hmethM', -, -, -, -, -, -, hsigM⟩ := Cond.codeWith_spec hcode
  cases Option.some.inj (hn8.symm.trans hnamed)
  cases hmethM.symm.trans hmethM'
  obtain ⟨c2, r2, m2, q1, q2, q3, q4, kP, hkP, hkPi⟩ := Cond.selects_spec hsel
  cases hcls.symm.trans q1
  cases (State.methodFound?_of_named hnamed hy).symm.trans q2
  cases hnamed.symm.trans q3
  have hselP : selectMethod e.platform s.vm cellB.cls mk = .method mk := by rw [Launch.admits_selectMethod X.admits]; exact q4
  obtain ⟨vm₁, X₁, hstep₁⟩ := X.invokevirtual hexec hown hlink hnamed hmethM hstM hkP hkPi hy (a := b) (cell := cellB) hcell
    (fun z h => by rw [h] at hobj; cases hobj) hselP hmethM habM hkP hkPi (g := g) hg (argsL := argsL) (rest := rest) (hlen _ hsigM) hstack hdg
  rcases hK m meth c ⟨T.setVm vm₁, locs, cells, slots⟩ { g with stack := rest } (.invokevirtual index) mk (Value.ref b :: argsL).toArray X₁ hg hsize hdg hW (X₁.named hnamed) (hpre vm₁ X₁.warmed) with ⟨v, B, X', hpost, hsteps⟩ | ⟨q, B, X', hpost, hsteps⟩
  · exact Or.inl ⟨v, vm₁, B, X₁.warmed, X', hpost, fun target h => hstep₁ _ fun acts => by rw [doInvoke_state]; exact hsteps.trans h⟩
  · exact Or.inr ⟨q, vm₁, B, X₁.warmed, X', hpost, hstep₁ _ fun acts => by rw [doInvoke_state]; exact hsteps⟩
theorem vx_callSX (X : Stand p l e R s m args below meth c T locs cells slots) (hexec : p.tables.exec = Jvm.exec) {own : String} {index : Nat} {y : MethodName} {bytes : ByteArray} {maxL : Nat} {ret : Option FieldType} {hh : List (Nat × Nat × Nat × Nat)}
    (hown : s.vm.findClass own = some m.cls) (hlink : (Cond.methodLink own index y).before args s = true) (hstat : (Cond.static y).before args s = true) (hinit : (Cond.initialized y.cls).before args s = true)
    (hcode : (Cond.codeWith y bytes maxL ret hh).before args s = true) (hy : y.cls ≠ "java/lang/invoke/MethodHandle" ∧ y.cls ≠ "java/lang/invoke/VarHandle")
    {W9 : Nat} {Pre : Pt → Array Value → Prop} {Post : Pt → Array Value → Option Value → Pt → Prop} {PostX : Pt → Array Value → Addr → Pt → Prop} (hK : vx_Back l R p e below s args y 3 W9 Pre Post PostX)
    {g : JFrame} (hg : g.method = m) (hsize : g.locals.size = c.maxLocals) {argsL rest : List Value} (hlen : ∀ sig, parseMethodDescriptor y.desc = some sig → argsL.length = sig.parameters.length)
    (hstack : g.stack = argsL.reverse ++ rest) (hW : 2 * g.monitorRoom + (rest.map fun v => v.category).sum ≤ W9) (hdg : decode c.code g.pc = .ok (.invokestatic index, 3))
    (hpre : ∀ vm₁, s.WarmedH vm₁ → Pre ⟨T.setVm vm₁, locs, cells, slots⟩ argsL.toArray) :
    (∃ (v : Option Value) (vm₁ : Vm) (B : Pt), s.WarmedH vm₁ ∧ Stand p l e R s m args below meth c B.U B.locs B.cells B.slots ∧ Post ⟨T.setVm vm₁, locs, cells, slots⟩ argsL.toArray v B ∧
      ∀ target, Steps p.tables e below (B.U.setTop { g with pc := g.pc + 3, stack := v.toList ++ rest }) target → Steps p.tables e below (T.setTop g) target) ∨
    (∃ (q : Addr) (vm₁ : Vm) (B : Pt), s.WarmedH vm₁ ∧ Stand p l e R s m args below meth c B.U B.locs B.cells B.slots ∧ PostX ⟨T.setVm vm₁, locs, cells, slots⟩ argsL.toArray q B ∧
      Steps p.tables e below (T.setTop g) ((B.U.setTop { g with stack := rest }).pushFrame (.throwing q))) := by
  obtain ⟨mk, methM, cM, hnamed, hmethM, -, -, -, -, -, -, hsigM⟩ := Cond.codeWith_spec hcode
  have hstatic : methM.isStatic = true := Cond.static_spec hnamed hmethM hstat
  obtain ⟨kP, hkP, -⟩ := className_of_methodNamed hnamed
  have hinitP : kP.init = .initialized := Cond.initialized_spec (findClass_of_methodNamed hnamed) hkP hinit
  obtain ⟨vm₁, X₁, hstep₁⟩ := X.invokestatic hexec hown hlink hnamed hmethM hstatic hkP hinitP hy (g := g) hg (argsL := argsL) (rest := rest) (hlen _ hsigM) hstack hdg
  rcases hK m meth c ⟨T.setVm vm₁, locs, cells, slots⟩ { g with stack := rest } (.invokestatic index) mk argsL.toArray X₁ hg hsize hdg hW (X₁.named hnamed) (hpre vm₁ X₁.warmed) with ⟨v, B, X', hpost, hsteps⟩ | ⟨q, B, X', hpost, hsteps⟩
  · exact Or.inl ⟨v, vm₁, B, X₁.warmed, X', hpost, fun target h => hstep₁ _ fun acts => by rw [doInvoke_state]; exact hsteps.trans h⟩
  · exact Or.inr ⟨q, vm₁, B, X₁.warmed, X', hpost, hstep₁ _ fun acts => by rw [doInvoke_state]; exact hsteps⟩
theorem vx_callVW (X : Stand p l e R s m args below meth c T locs cells slots) (hexec : p.tables.exec = Jvm.exec) {own C : String} {index : Nat} {y : MethodName} {bytes : ByteArray} {maxL : Nat} {ret : Option FieldType} {hh : List (Nat × Nat × Nat × Nat)}
    (hown : s.vm.findClass own = some m.cls) (hlink : (Cond.methodLink own index y).before args s = true) (hinst : (Cond.instanceMethod y).before args s = true) (hsel : (Cond.selects C y y).before args s = true)
    (hcode : (Cond.codeWith y bytes maxL ret hh).before args s = true) (hy : y.cls ≠ "java/lang/invoke/MethodHandle" ∧ y.cls ≠ "java/lang/invoke/VarHandle")
    {W9 : Nat} {Pre : Pt → Array Value → Prop} {Post : Pt → Array Value → Option Value → Pt → Prop} (hK : Back l R p e below s args y 3 W9 Pre Post)
    {b : Addr} {cellB : Cell} (hcell : T.heap[b]? = some cellB) (hobj : cellB.vm.isStatics = false) (hcls : s.vm.findClass C = some cellB.cls)
    {g : JFrame} (hg : g.method = m) (hsize : g.locals.size = c.maxLocals) {argsL rest : List Value} (hlen : ∀ sig, parseMethodDescriptor y.desc = some sig → argsL.length = sig.parameters.length)
    (hstack : g.stack = argsL.reverse ++ .ref b :: rest) (hW : 2 * g.monitorRoom + (rest.map fun v => v.category).sum ≤ W9) (hdg : decode c.code g.pc = .ok (.invokevirtual index, 3))
    (hpre : ∀ vm₁, s.WarmedH vm₁ → Pre ⟨T.setVm vm₁, locs, cells, slots⟩ (Value.ref b :: argsL).toArray) :
    ∃ (v : Option Value) (vm₁ : Vm) (B : Pt), s.WarmedH vm₁ ∧ Stand p l e R s m args below meth c B.U B.locs B.cells B.slots ∧ Post ⟨T.setVm vm₁, locs, cells, slots⟩ (Value.ref b :: argsL).toArray v B ∧
      ∀ target, Steps p.tables e below (B.U.setTop { g with pc := g.pc + 3, stack := v.toList ++ rest }) target → Steps p.tables e below (T.setTop g) target := by
  obtain ⟨mk, methM, hnamed, hmethM, hstM, habM⟩ := Cond.instanceMethod_spec hinst
  obtain ⟨m8, methM', cM, hn8, hmethM', -, -, -, -, -, -, hsigM⟩ := Cond.codeWith_spec hcode
  cases Option.some.inj (hn8.symm.trans hnamed)
  cases hmethM.symm.trans hmethM'
  obtain ⟨c2, r2, m2, q1, q2, q3, q4, kP, hkP, hkPi⟩ := Cond.selects_spec hsel
  cases hcls.symm.trans q1
  cases (State.methodFound?_of_named hnamed hy).symm.trans q2
  cases hnamed.symm.trans q3
  have hselP : selectMethod e.platform s.vm cellB.cls mk = .method mk := by rw [Launch.admits_selectMethod X.admits]; exact q4
  obtain ⟨vm₁, X₁, hstep₁⟩ := X.invokevirtual hexec hown hlink hnamed hmethM hstM hkP hkPi hy (a := b) (cell := cellB) hcell
    (fun z h => by rw [h] at hobj; cases hobj) hselP hmethM habM hkP hkPi (g := g) hg (argsL := argsL) (rest := rest) (hlen _ hsigM) hstack hdg
  obtain ⟨v, B, X', hpost, hsteps⟩ := hK m meth c ⟨T.setVm vm₁, locs, cells, slots⟩ { g with stack := rest } (.invokevirtual index) mk (Value.ref b :: argsL).toArray X₁ hg hsize hdg hW (X₁.named hnamed) (hpre vm₁ X₁.warmed)
  exact ⟨v, vm₁, B, X₁.warmed, X', hpost, fun target h => hstep₁ _ fun acts => by rw [doInvoke_state]; exact hsteps.trans h⟩
abbrev vx_CVW (R : Room) (s : State) (args : Array Value) (own C : String) (index : Nat) (y : MethodName) (bytes : ByteArray) (maxL : Nat) (ret : Option FieldType) (hh : List (Nat × Nat × Nat × Nat)) (ws : List Cond) (rm : Room) (mc ms n : Nat) : Prop :=
  (rm.cells = mc ∧ rm.slots = ms ∧ rm.frames + 1 ≤ R.frames ∧ 8 + (maxL + 11) + rm.locals ≤ R.locals ∧ (∀ w ∈ ws, ∀ (a' : Array Value) (U : State), s.WarmedH U.vm → w.before a' U = true) ∧ Cond.codeWith y bytes maxL ret hh ∈ ws) ∧
  (Cond.codeWith y bytes maxL ret hh).before args s = true ∧ (Cond.initialized y.cls).before args s = true ∧ (y.cls ≠ "java/lang/invoke/MethodHandle" ∧ y.cls ≠ "java/lang/invoke/VarHandle") ∧
  (∀ sig, parseMethodDescriptor y.desc = some sig → n = sig.parameters.length) ∧ (Cond.methodLink own index y).before args s = true ∧ (Cond.instanceMethod y).before args s = true ∧ (Cond.selects C y y).before args s = true
theorem vx_cwVW {own C : String} {index maxL mc ms : Nat} {y : MethodName} {bytes : ByteArray} {ret : Option FieldType} {hh : List (Nat × Nat × Nat × Nat)} {Ts ws ws' : List Cond} {rm : Room} (n : Nat) (ht : ∀ w ∈ Ts, w.before args s = true) (hT : GoodIn Ts (wsV own index C y ws)) (hw : ws = Cond.codeWith y bytes maxL ret hh :: ws') (hrc : rm.cells = mc) (hrs : rm.slots = ms)
    (hd : y.cls = C ∧ y.cls ≠ "java/lang/invoke/MethodHandle" ∧ y.cls ≠ "java/lang/invoke/VarHandle" ∧ (parseMethodDescriptor y.desc).map (fun d => d.parameters.length) = some n) (hR : rm.frames + 1 ≤ R.frames ∧ 8 + (maxL + 11) + rm.locals ≤ R.locals) :
    vx_CVW R s args own C index y bytes maxL ret hh ws rm mc ms n := by
  obtain ⟨hC, hd⟩ := hd
  subst hC
  have ok : ∀ w ∈ wsV own index y.cls y ws, w.before args s = true := fun w h => ht w (hT w h).1
  have hG : GoodIn Ts ws := fun w h => hT w (by unfold wsV; exact List.mem_append_right _ h)
  have hc : Cond.codeWith y bytes maxL ret hh ∈ ws := by rw [hw]; exact List.mem_cons_self
  refine ⟨⟨hrc, hrs, hR.1, hR.2, pay_in ht hG, hc⟩, ht _ (hG _ hc).1, ok _ (by simp [wsV]), ⟨hd.1, hd.2.1⟩, fun sig h => ?_, ok _ (by simp [wsV]), ok _ (by simp [wsV]), ok _ (by simp [wsV])⟩
  have h2 := hd.2.2
  rw [h] at h2
  exact (Option.some.inj h2).symm
theorem vx_runVW {y : MethodName} {bytes cc : ByteArray} {maxL nL mc ms n index : Nat} {ret : Option FieldType} {hh : List (Nat × Nat × Nat × Nat)} {ws : List Cond} {rm : Room} {Pc : Array Value → State → Prop} {Qc : Array Value → State → Outcome → State → Prop} {free : Addr → Prop} {Ts : List Cond} {own C : String} {b : Addr} {As rest : List Value} {g : JFrame}
    (S : CallFix p m c cc nL s args Ts own) (hM : Met l y ws rm Pc Qc mc ms free) (cw : vx_CVW R s args own C index y bytes maxL ret hh ws rm mc ms n) (hp : PreV s H C b Pc As)
    (hg : g.method = m) (hn : As.length = n) (hsize : g.locals.size = nL) (hstack : g.stack = As.reverse ++ .ref b :: rest) (hW : 2 * g.monitorRoom + (rest.map fun v => v.category).sum ≤ 8) (hdg : decode cc g.pc = .ok (.invokevirtual index, 3)) (hf : cells + mc ≤ R.cells ∧ slots + ms ≤ R.slots) :
    va_Run p l e R s m args below meth c H locs cells slots mc ms g rest (Qc (Value.ref b :: As).toArray) free := by
  obtain ⟨⟨hrc, hrs, hfr, hlo, hws, hcw⟩, hcode, hini, hy, hlen, hl, hin, hse⟩ := cw
  have hK : Back l R p e below s args y 3 8 (PreOf R mc ms Pc) (PostOf Qc mc ms free) := va_backW (hh := hh) (bytes := bytes) (maxL := maxL) (ret := ret) hM hp.1 hrc hrs hfr hlo hws hcw (fun a' U hW => word_at hW (Or.inl (by first | rfl | simp [Cond.onTables, Cond.keeps, Cond.steady])) hini)
  obtain ⟨hx, hb, hml, ho, -⟩ := S
  obtain ⟨-, ⟨cellB, hcB, hoB, hclB⟩, hPc⟩ := hp
  intro T hT X
  obtain ⟨v, vm₁, ⟨U', l2, c2, s2⟩, hW₁, X', ⟨g', mk, t, L, e1, e2, hq, h1, hL, h2, h3⟩, st⟩ := vx_callVW X hx (C := C) (hh := hh) (bytes := bytes) (maxL := maxL) (ret := ret) ho hl hin hse hcode hy hK (by rw [hT]; exact hcB) hoB hclB hg (hsize.trans hml.symm) (argsL := As) (rest := rest) (fun sig h => hn.trans (hlen sig h)) hstack hW (by rw [hb]; exact hdg)
    (fun vm₁ hW₁ => ⟨hf.1, hf.2, hPc (T.setVm vm₁) hT hW₁⟩)
  dsimp only [Pt.U, Pt.locs, Pt.cells, Pt.slots] at X' e1 e2 h1 h2 h3 st
  subst h1; subst h2; subst h3
  exact ⟨v, (T.setVm vm₁).calling g' mk (Value.ref b :: As).toArray, t, U', L, hT, X', hL, e1, e2, hq, st⟩
section
variable {y : MethodName} {bytes cc : ByteArray} {maxL nL mc ms n index : Nat} {ret : Option FieldType} {ws : List Cond} {rm : Room} {Pc : Array Value → State → Prop} {Qc : Array Value → State → Outcome → State → Prop} {XC : String → State → State → Prop} {free : Addr → Prop} {Ts : List Cond} {own C : String} {b : Addr} {As rest : List Value} {g : JFrame}
theorem vx_runVX {hh : List (Nat × Nat × Nat × Nat)} (S : CallFix p m c cc nL s args Ts own) (hM : vx_Met l y ws rm Pc Qc XC mc ms free) (cw : vx_CVW R s args own C index y bytes maxL ret hh ws rm mc ms n) (hp : PreV s H C b Pc As)
    (hg : g.method = m) (hn : As.length = n) (hsize : g.locals.size = nL) (hstack : g.stack = As.reverse ++ .ref b :: rest) (hW : 2 * g.monitorRoom + (rest.map fun v => v.category).sum ≤ 8) (hdg : decode cc g.pc = .ok (.invokevirtual index, 3)) (hf : cells + mc ≤ R.cells ∧ slots + ms ≤ R.slots) :
    vx_Run p l e R s m args below meth c H locs cells slots mc ms g rest (Qc (Value.ref b :: As).toArray) XC free := by
  obtain ⟨⟨hrc, hrs, hfr, hlo, hws, hcw⟩, hcode, hini, hy, hlen, hl, hin, hse⟩ := cw
  have hK : vx_Back l R p e below s args y 3 8 (PreOf R mc ms Pc) (PostOf Qc mc ms free) (vx_Post XC mc ms free) := vx_backW (hh := hh) (bytes := bytes) (maxL := maxL) (ret := ret) hM hp.1 hrc hrs hfr hlo hws hcw (fun a' U hW => word_at hW (Or.inl (by first | rfl | simp [Cond.onTables, Cond.keeps, Cond.steady])) hini)
  obtain ⟨hx, hb, hml, ho, -⟩ := S
  obtain ⟨-, ⟨cellB, hcB, hoB, hclB⟩, hPc⟩ := hp
  intro T hT X
  rcases vx_callVX X hx (C := C) (hh := hh) (bytes := bytes) (maxL := maxL) (ret := ret) ho hl hin hse hcode hy hK (by rw [hT]; exact hcB) hoB hclB hg (hsize.trans hml.symm) (argsL := As) (rest := rest) (fun sig h => hn.trans (hlen sig h)) hstack hW (by rw [hb]; exact hdg)
    (fun vm₁ hW₁ => ⟨hf.1, hf.2, hPc (T.setVm vm₁) hT hW₁⟩) with ⟨v, vm₁, ⟨U', l2, c2, s2⟩, hW₁, X', ⟨g', mk, t, L, e1, e2, hq, h1, hL, h2, h3⟩, st⟩ | ⟨q, vm₁, ⟨U', l2, c2, s2⟩, hW₁, X', ⟨g', mk, t, L, E, ce, e1, e2, hq, hce, hcv, hcl, h1, hL, h2, h3⟩, st⟩
  · dsimp only [Pt.U, Pt.locs, Pt.cells, Pt.slots] at X' e1 e2 h1 h2 h3 st
    subst h1; subst h2; subst h3
    exact Or.inl ⟨v, (T.setVm vm₁).calling g' mk (Value.ref b :: As).toArray, t, U', L, hT, X', hL, e1, e2, hq, st⟩
  · dsimp only [Pt.U, Pt.locs, Pt.cells, Pt.slots] at X' e1 e2 h1 h2 h3 st hcl
    subst h1; subst h2; subst h3
    exact Or.inr ⟨q, (T.setVm vm₁).calling g' mk (Value.ref b :: As).toArray, t, U', L, E, ce, hT, X', hL, e1, e2, hq, hce, hcv, vx_cls hW₁ hcl, st⟩
theorem vx_runSX {hh : List (Nat × Nat × Nat × Nat)} (S : CallFix p m c cc nL s args Ts own) (hM : vx_Met l y ws rm Pc Qc XC mc ms free) (cw : vx_CSW R s args own index y bytes maxL ret hh ws rm mc ms n) (hp : PreS s H Pc As)
    (hg : g.method = m) (hn : As.length = n) (hsize : g.locals.size = nL) (hstack : g.stack = As.reverse ++ rest) (hW : 2 * g.monitorRoom + (rest.map fun v => v.category).sum ≤ 8) (hdg : decode cc g.pc = .ok (.invokestatic index, 3)) (hf : cells + mc ≤ R.cells ∧ slots + ms ≤ R.slots) :
    vx_Run p l e R s m args below meth c H locs cells slots mc ms g rest (Qc As.toArray) XC free := by
  obtain ⟨⟨hrc, hrs, hfr, hlo, hws, hcw⟩, hcode, hini, hy, hlen, hl, hstt⟩ := cw
  have hK : vx_Back l R p e below s args y 3 8 (PreOf R mc ms Pc) (PostOf Qc mc ms free) (vx_Post XC mc ms free) := vx_backW (hh := hh) (bytes := bytes) (maxL := maxL) (ret := ret) hM hp.1 hrc hrs hfr hlo hws hcw (fun a' U hW => word_at hW (Or.inl (by first | rfl | simp [Cond.onTables, Cond.keeps, Cond.steady])) hini)
  obtain ⟨hx, hb, hml, ho, -⟩ := S
  intro T hT X
  rcases vx_callSX X hx (hh := hh) (bytes := bytes) (maxL := maxL) (ret := ret) ho hl hstt hini hcode hy hK hg (hsize.trans hml.symm) (argsL := As) (rest := rest) (fun sig h => hn.trans (hlen sig h)) hstack hW (by rw [hb]; exact hdg)
    (fun vm₁ hW₁ => ⟨hf.1, hf.2, hp.2 (T.setVm vm₁) hT hW₁⟩) with ⟨v, vm₁, ⟨U', l2, c2, s2⟩, hW₁, X', ⟨g', mk, t, L, e1, e2, hq, h1, hL, h2, h3⟩, st⟩ | ⟨q, vm₁, ⟨U', l2, c2, s2⟩, hW₁, X', ⟨g', mk, t, L, E, ce, e1, e2, hq, hce, hcv, hcl, h1, hL, h2, h3⟩, st⟩
  · dsimp only [Pt.U, Pt.locs, Pt.cells, Pt.slots] at X' e1 e2 h1 h2 h3 st
    subst h1; subst h2; subst h3
    exact Or.inl ⟨v, (T.setVm vm₁).calling g' mk As.toArray, t, U', L, hT, X', hL, e1, e2, hq, st⟩
  · dsimp only [Pt.U, Pt.locs, Pt.cells, Pt.slots] at X' e1 e2 h1 h2 h3 st hcl
    subst h1; subst h2; subst h3
    exact Or.inr ⟨q, (T.setVm vm₁).calling g' mk As.toArray, t, U', L, E, ce, hT, X', hL, e1, e2, hq, hce, hcv, vx_cls hW₁ hcl, st⟩
end
end VXH
theorem vx_ofWH {l : Launch} {y : MethodName} {ws ws' : List Cond} {rm : Room} {Pc : Array Value → State → Prop} {Qc : Array Value → State → Outcome → State → Prop} {XC : String → State → State → Prop} {mc ms : Nat} {free : Addr → Prop} {cc : ByteArray} {maxL : Nat} {ret : Option FieldType} {hh : List (Nat × Nat × Nat × Nat)}
    (hy : plainName y.cls = true) (hw : ws = Cond.codeWith y cc maxL ret hh :: ws')
    (body : ∀ p e s m args below meth c s₁, BodyLoose p l y (headSpec ws rm) cc maxL ret e s m args below meth c s₁ → c.maxLocals = maxL → Pc args s →
      W p l e (headSpec ws rm).room s m args below meth c s.heap [] 0 0 (vx_MQ below Qc XC args s mc ms free) (entryFrame m args maxL)) : vx_Met l y ws rm Pc Qc XC mc ms free := by
  refine MetFree.of_bodyS (code := cc) (maxLocals := maxL) (ret := ret) hy ?_ ?_
  · intro args s m h hn
    obtain ⟨m9, meth, c, hn9, h1, h2, h3, h4, -, h5, h6, -⟩ := Cond.codeWith_spec (atoms_spec (ws := ws) h _ (by rw [hw]; exact List.mem_cons_self))
    cases hn.symm.trans hn9
    exact ⟨meth, c, h1, h2, h3, h4, h5, h6⟩
  · intro p e s m args below meth c s₁ B hml hP _
    have hh0 : s₁.heap = s.heap := by rw [B.state]; rfl
    obtain ⟨t, a1, o, b1, b2, b3⟩ := body p e s m args below meth c s₁ B hml hP s₁ hh0 (Stand.of_body B)
    exact ⟨t, o, a1, b1, b2, b3⟩
/-! ===== END ===== -/

def vx_atN (n : Nat) : List Cond := (Bundle.npeArmAtoms n).filter vx_no
def vx_atM (X : String) (names : List String) : List Cond := (Bundle.messageArmAtoms X names).filter vx_no
end
section
def RX0 : String := "DigestTrees$Bytes"
def TX0 : u_T := fun k => match k with
  | 0 => ("DigestTrees$Bytes", "room", "[B", true)
  | _ => ("DigestTrees$Bytes", "size", "I", false)
def tyX0 : Nat → FieldType := fun k => match k with
  | 0 => .array .byte
  | _ => .int
abbrev wsX00 : List Cond := u_ws RX0 TX0 2
theorem nmX0 : ∀ a, a < 2 → ∀ b, b < 2 → a ≠ b → (TX0 a).2.1 ≠ (TX0 b).2.1 := by decide +kernel
theorem tyX0_ok : ∀ k, k < 2 → parseFieldDescriptor (TX0 k).2.2.1 = some (tyX0 k) := by decide +kernel
abbrev cX0_init : ByteArray := prog_2_method_1_code
def yX0_init : MethodName := ⟨RX0, "<init>", "()V"⟩
def RX1 : String := "DigestTrees$Message"
def TX1 : u_T := fun k => match k with
  | 0 => ("DigestTrees$Message", "mill", "LDigestTrees$Mill;", true)
  | 1 => ("DigestTrees$Message", "lock", "[B", true)
  | 2 => ("DigestTrees$Message", "inner", "[B", true)
  | 3 => ("DigestTrees$Message", "isOpen", "Z", false)
  | 4 => ("DigestTrees$Message", "sort", "I", false)
  | 5 => ("DigestTrees$Message", "came", "I", false)
  | _ => ("DigestTrees$Message", "blocks", "I", false)
def tyX1 : Nat → FieldType := fun k => match k with
  | 0 => .object "DigestTrees$Mill"
  | 1 => .array .byte
  | 2 => .array .byte
  | 3 => .boolean
  | 4 => .int
  | 5 => .int
  | _ => .int
abbrev wsX10 : List Cond := u_ws RX1 TX1 7
theorem nmX1 : ∀ a, a < 7 → ∀ b, b < 7 → a ≠ b → (TX1 a).2.1 ≠ (TX1 b).2.1 := by decide +kernel
theorem tyX1_ok : ∀ k, k < 7 → parseFieldDescriptor (TX1 k).2.2.1 = some (tyX1 k) := by decide +kernel
abbrev cX1_init : ByteArray := prog_3_method_1_code
def yX1_init : MethodName := ⟨RX1, "<init>", "(LDigestTrees$Mill;)V"⟩
abbrev cX1_begin : ByteArray := prog_3_method_2_code
def yX1_begin : MethodName := ⟨RX1, "begin", "(ILDigestTrees$Bytes;)V"⟩
abbrev cX1_take : ByteArray := prog_3_method_3_code
def yX1_take : MethodName := ⟨RX1, "take", "(LDigestTrees$Bytes;)V"⟩
abbrev cX1_finish : ByteArray := prog_3_method_4_code
def yX1_finish : MethodName := ⟨RX1, "finish", "(LDigestTrees$Shelf;)I"⟩
abbrev cX1_makeLock : ByteArray := prog_3_method_5_code
def yX1_makeLock : MethodName := ⟨RX1, "makeLock", "(LDigestTrees$Bytes;)V"⟩
abbrev cX1_beginLocked : ByteArray := prog_3_method_6_code
def yX1_beginLocked : MethodName := ⟨RX1, "beginLocked", "(I)V"⟩
def RX2 : String := "DigestTrees$Mill"
def TX2 : u_T := fun k => match k with
  | 0 => ("DigestTrees$Mill", "h", "[I", true)
  | 1 => ("DigestTrees$Mill", "w", "[I", true)
  | 2 => ("DigestTrees$Mill", "filled", "I", false)
  | 3 => ("DigestTrees$Mill", "came", "I", false)
  | _ => ("DigestTrees$Mill", "blocks", "I", false)
def tyX2 : Nat → FieldType := fun k => match k with
  | 0 => .array .int
  | 1 => .array .int
  | 2 => .int
  | 3 => .int
  | _ => .int
abbrev wsX20 : List Cond := u_ws RX2 TX2 5
theorem nmX2 : ∀ a, a < 5 → ∀ b, b < 5 → a ≠ b → (TX2 a).2.1 ≠ (TX2 b).2.1 := by decide +kernel
theorem tyX2_ok : ∀ k, k < 5 → parseFieldDescriptor (TX2 k).2.2.1 = some (tyX2 k) := by decide +kernel
abbrev cX2_init : ByteArray := prog_4_method_1_code
def yX2_init : MethodName := ⟨RX2, "<init>", "()V"⟩
abbrev cX2_begin : ByteArray := prog_4_method_2_code
def yX2_begin : MethodName := ⟨RX2, "begin", "([I)V"⟩
abbrev cX2_take : ByteArray := prog_4_method_3_code
def yX2_take : MethodName := ⟨RX2, "take", "([BI)V"⟩
abbrev cX2_takeByte : ByteArray := prog_4_method_4_code
def yX2_takeByte : MethodName := ⟨RX2, "takeByte", "(I)V"⟩
abbrev cX2_finish : ByteArray := prog_4_method_5_code
def yX2_finish : MethodName := ⟨RX2, "finish", "()V"⟩
abbrev cX2_write : ByteArray := prog_4_method_6_code
def yX2_write : MethodName := ⟨RX2, "write", "([BI)V"⟩
abbrev cX2_put : ByteArray := prog_4_method_7_code
def yX2_put : MethodName := ⟨RX2, "put", "(I)V"⟩
abbrev cX2_work : ByteArray := prog_4_method_8_code
def yX2_work : MethodName := ⟨RX2, "work", "()V"⟩
def RX3 : String := "DigestTrees$Proof"
def TX3 : u_T := fun k => match k with
  | 0 => ("DigestTrees$Proof", "beside", "[[B", true)
  | _ => ("DigestTrees$Proof", "count", "I", false)
def tyX3 : Nat → FieldType := fun k => match k with
  | 0 => .array (.array .byte)
  | _ => .int
abbrev wsX30 : List Cond := u_ws RX3 TX3 2
theorem nmX3 : ∀ a, a < 2 → ∀ b, b < 2 → a ≠ b → (TX3 a).2.1 ≠ (TX3 b).2.1 := by decide +kernel
theorem tyX3_ok : ∀ k, k < 2 → parseFieldDescriptor (TX3 k).2.2.1 = some (tyX3 k) := by decide +kernel
abbrev cX3_init : ByteArray := prog_5_method_1_code
def yX3_init : MethodName := ⟨RX3, "<init>", "()V"⟩
abbrev cX3_due : ByteArray := prog_5_method_2_code
def yX3_due : MethodName := ⟨RX3, "due", "(II)I"⟩
abbrev cX3_gather : ByteArray := prog_5_method_3_code
def yX3_gather : MethodName := ⟨RX3, "gather", "(LDigestTrees$Tree;I)V"⟩
abbrev cX3_follow : ByteArray := prog_5_method_4_code
def yX3_follow : MethodName := ⟨RX3, "follow", "(LDigestTrees$Mill;II[B)V"⟩
def RX4 : String := "DigestTrees$Shelf"
def TX4 : u_T := fun k => match k with
  | 0 => ("DigestTrees$Shelf", "bytes", "[[B", true)
  | 1 => ("DigestTrees$Shelf", "lasts", "[[I", true)
  | 2 => ("DigestTrees$Shelf", "sorts", "[I", true)
  | 3 => ("DigestTrees$Shelf", "blocks", "[I", true)
  | 4 => ("DigestTrees$Shelf", "words", "[I", true)
  | _ => ("DigestTrees$Shelf", "count", "I", false)
def tyX4 : Nat → FieldType := fun k => match k with
  | 0 => .array (.array .byte)
  | 1 => .array (.array .int)
  | 2 => .array .int
  | 3 => .array .int
  | 4 => .array .int
  | _ => .int
abbrev wsX40 : List Cond := u_ws RX4 TX4 6
theorem nmX4 : ∀ a, a < 6 → ∀ b, b < 6 → a ≠ b → (TX4 a).2.1 ≠ (TX4 b).2.1 := by decide +kernel
theorem tyX4_ok : ∀ k, k < 6 → parseFieldDescriptor (TX4 k).2.2.1 = some (tyX4 k) := by decide +kernel
abbrev cX4_init : ByteArray := prog_6_method_1_code
def yX4_init : MethodName := ⟨RX4, "<init>", "()V"⟩
abbrev cX4_has : ByteArray := prog_6_method_2_code
def yX4_has : MethodName := ⟨RX4, "has", "(I)Z"⟩
abbrev cX4_isFull : ByteArray := prog_6_method_3_code
def yX4_isFull : MethodName := ⟨RX4, "isFull", "()Z"⟩
abbrev cX4_add : ByteArray := prog_6_method_4_code
def yX4_add : MethodName := ⟨RX4, "add", "(IILDigestTrees$Mill;)I"⟩
abbrev cX4_wordOfLast : ByteArray := prog_6_method_5_code
def yX4_wordOfLast : MethodName := ⟨RX4, "wordOfLast", "(II)I"⟩
def RX5 : String := "DigestTrees$Store"
def TX5 : u_T := fun k => match k with
  | 0 => ("DigestTrees$Store", "rows", "[[B", true)
  | 1 => ("DigestTrees$Store", "sizes", "[I", true)
  | 2 => ("DigestTrees$Store", "spots", "[I", true)
  | 3 => ("DigestTrees$Store", "count", "I", false)
  | 4 => ("DigestTrees$Store", "compared", "I", false)
  | _ => ("DigestTrees$Store", "looked", "I", false)
def tyX5 : Nat → FieldType := fun k => match k with
  | 0 => .array (.array .byte)
  | 1 => .array .int
  | 2 => .array .int
  | 3 => .int
  | 4 => .int
  | _ => .int
abbrev wsX50 : List Cond := u_ws RX5 TX5 6
theorem nmX5 : ∀ a, a < 6 → ∀ b, b < 6 → a ≠ b → (TX5 a).2.1 ≠ (TX5 b).2.1 := by decide +kernel
theorem tyX5_ok : ∀ k, k < 6 → parseFieldDescriptor (TX5 k).2.2.1 = some (tyX5 k) := by decide +kernel
abbrev cX5_init : ByteArray := prog_7_method_1_code
def yX5_init : MethodName := ⟨RX5, "<init>", "()V"⟩
abbrev cX5_seek : ByteArray := prog_7_method_2_code
def yX5_seek : MethodName := ⟨RX5, "seek", "(LDigestTrees$Bytes;I)I"⟩
abbrev cX5_add : ByteArray := prog_7_method_3_code
def yX5_add : MethodName := ⟨RX5, "add", "(LDigestTrees$Bytes;I)I"⟩
abbrev cX5_pairsThatMeet : ByteArray := prog_7_method_4_code
def yX5_pairsThatMeet : MethodName := ⟨RX5, "pairsThatMeet", "()I"⟩
def RX6 : String := "DigestTrees$Tree"
def TX6 : u_T := fun k => match k with
  | 0 => ("DigestTrees$Tree", "kinds", "[I", true)
  | 1 => ("DigestTrees$Tree", "nodes", "[[B", true)
  | _ => ("DigestTrees$Tree", "count", "I", false)
def tyX6 : Nat → FieldType := fun k => match k with
  | 0 => .array .int
  | 1 => .array (.array .byte)
  | _ => .int
abbrev wsX60 : List Cond := u_ws RX6 TX6 3
theorem nmX6 : ∀ a, a < 3 → ∀ b, b < 3 → a ≠ b → (TX6 a).2.1 ≠ (TX6 b).2.1 := by decide +kernel
theorem tyX6_ok : ∀ k, k < 3 → parseFieldDescriptor (TX6 k).2.2.1 = some (tyX6 k) := by decide +kernel
abbrev cX6_init : ByteArray := prog_8_method_1_code
def yX6_init : MethodName := ⟨RX6, "<init>", "()V"⟩
abbrev cX6_has : ByteArray := prog_8_method_2_code
def yX6_has : MethodName := ⟨RX6, "has", "(I)Z"⟩
abbrev cX6_climb : ByteArray := prog_8_method_3_code
def yX6_climb : MethodName := ⟨RX6, "climb", "(LDigestTrees$Mill;)[B"⟩
def RX7 : String := "DigestTrees"
def TX7 : u_T := fun k => match k with
  | 0 => ("DigestTrees", "tape", "LDigestTrees$Bytes;", true)
  | 1 => ("DigestTrees", "secret", "LDigestTrees$Bytes;", true)
  | 2 => ("DigestTrees", "mill", "LDigestTrees$Mill;", true)
  | 3 => ("DigestTrees", "whole", "LDigestTrees$Message;", true)
  | 4 => ("DigestTrees", "streams", "[LDigestTrees$Message;", true)
  | 5 => ("DigestTrees", "shelf", "LDigestTrees$Shelf;", true)
  | 6 => ("DigestTrees", "trees", "[LDigestTrees$Tree;", true)
  | 7 => ("DigestTrees", "proof", "LDigestTrees$Proof;", true)
  | 8 => ("DigestTrees", "store", "LDigestTrees$Store;", true)
  | _ => ("DigestTrees", "node", "[B", true)
def tyX7 : Nat → FieldType := fun k => match k with
  | 0 => .object "DigestTrees$Bytes"
  | 1 => .object "DigestTrees$Bytes"
  | 2 => .object "DigestTrees$Mill"
  | 3 => .object "DigestTrees$Message"
  | 4 => .array (.object "DigestTrees$Message")
  | 5 => .object "DigestTrees$Shelf"
  | 6 => .array (.object "DigestTrees$Tree")
  | 7 => .object "DigestTrees$Proof"
  | 8 => .object "DigestTrees$Store"
  | _ => .array .byte
abbrev wsX70 : List Cond := u_ws RX7 TX7 10
theorem nmX7 : ∀ a, a < 10 → ∀ b, b < 10 → a ≠ b → (TX7 a).2.1 ≠ (TX7 b).2.1 := by decide +kernel
theorem tyX7_ok : ∀ k, k < 10 → parseFieldDescriptor (TX7 k).2.2.1 = some (tyX7 k) := by decide +kernel
abbrev cX7_init : ByteArray := prog_1_method_1_code
def yX7_init : MethodName := ⟨RX7, "<init>", "()V"⟩
abbrev cX7_feed : ByteArray := prog_1_method_2_code
def yX7_feed : MethodName := ⟨RX7, "feed", "(IJ)I"⟩
abbrev cX7_key : ByteArray := prog_1_method_3_code
def yX7_key : MethodName := ⟨RX7, "key", "()I"⟩
abbrev cX7_digest : ByteArray := prog_1_method_4_code
def yX7_digest : MethodName := ⟨RX7, "digest", "(I)I"⟩
abbrev cX7_open : ByteArray := prog_1_method_5_code
def yX7_open : MethodName := ⟨RX7, "open", "(II)I"⟩
abbrev cX7_more : ByteArray := prog_1_method_6_code
def yX7_more : MethodName := ⟨RX7, "more", "(I)I"⟩
abbrev cX7_end : ByteArray := prog_1_method_7_code
def yX7_end : MethodName := ⟨RX7, "end", "(I)I"⟩
abbrev cX7_told : ByteArray := prog_1_method_8_code
def yX7_told : MethodName := ⟨RX7, "told", "(II)I"⟩
abbrev cX7_read : ByteArray := prog_1_method_9_code
def yX7_read : MethodName := ⟨RX7, "read", "(III)J"⟩
abbrev cX7_plan : ByteArray := prog_1_method_10_code
def yX7_plan : MethodName := ⟨RX7, "plan", "(II)J"⟩
abbrev cX7_same : ByteArray := prog_1_method_11_code
def yX7_same : MethodName := ⟨RX7, "same", "(II)I"⟩
abbrev cX7_table : ByteArray := prog_1_method_12_code
def yX7_table : MethodName := ⟨RX7, "table", "(I)I"⟩
abbrev cX7_leaf : ByteArray := prog_1_method_13_code
def yX7_leaf : MethodName := ⟨RX7, "leaf", "(II)I"⟩
abbrev cX7_change : ByteArray := prog_1_method_14_code
def yX7_change : MethodName := ⟨RX7, "change", "(III)I"⟩
abbrev cX7_root : ByteArray := prog_1_method_15_code
def yX7_root : MethodName := ⟨RX7, "root", "(I)I"⟩
abbrev cX7_drop : ByteArray := prog_1_method_16_code
def yX7_drop : MethodName := ⟨RX7, "drop", "(I)I"⟩
abbrev cX7_prove : ByteArray := prog_1_method_17_code
def yX7_prove : MethodName := ⟨RX7, "prove", "(II)I"⟩
abbrev cX7_alter : ByteArray := prog_1_method_18_code
def yX7_alter : MethodName := ⟨RX7, "alter", "(III)I"⟩
abbrev cX7_check : ByteArray := prog_1_method_19_code
def yX7_check : MethodName := ⟨RX7, "check", "(IIII)I"⟩
abbrev cX7_keep : ByteArray := prog_1_method_20_code
def yX7_keep : MethodName := ⟨RX7, "keep", "()I"⟩
abbrev cX7_find : ByteArray := prog_1_method_21_code
def yX7_find : MethodName := ⟨RX7, "find", "()I"⟩
abbrev cX7_row : ByteArray := prog_1_method_22_code
def yX7_row : MethodName := ⟨RX7, "row", "(II)B"⟩
abbrev cX7_about : ByteArray := prog_1_method_23_code
def yX7_about : MethodName := ⟨RX7, "about", "(I)I"⟩
abbrev cX7_clear : ByteArray := prog_1_method_24_code
def yX7_clear : MethodName := ⟨RX7, "clear", "()I"⟩
abbrev cX7_isSort : ByteArray := prog_1_method_25_code
def yX7_isSort : MethodName := ⟨RX7, "isSort", "(I)Z"⟩
abbrev cX7_isStream : ByteArray := prog_1_method_26_code
def yX7_isStream : MethodName := ⟨RX7, "isStream", "(I)Z"⟩
abbrev cX7_isTree : ByteArray := prog_1_method_27_code
def yX7_isTree : MethodName := ⟨RX7, "isTree", "(I)Z"⟩
abbrev cX7_isLeaf : ByteArray := prog_1_method_28_code
def yX7_isLeaf : MethodName := ⟨RX7, "isLeaf", "(I)Z"⟩
abbrev cX7_bytesOf : ByteArray := prog_1_method_29_code
def yX7_bytesOf : MethodName := ⟨RX7, "bytesOf", "(I)I"⟩
abbrev cX7_ofWidth : ByteArray := prog_1_method_30_code
def yX7_ofWidth : MethodName := ⟨RX7, "ofWidth", "(IJ)J"⟩
abbrev cX7_alike : ByteArray := prog_1_method_31_code
def yX7_alike : MethodName := ⟨RX7, "alike", "([B[BI)Z"⟩
abbrev cX7_setLeaf : ByteArray := prog_1_method_32_code
def yX7_setLeaf : MethodName := ⟨RX7, "setLeaf", "(LDigestTrees$Tree;II)V"⟩
abbrev cX7_spotOf : ByteArray := prog_1_method_33_code
def yX7_spotOf : MethodName := ⟨RX7, "spotOf", "(LDigestTrees$Bytes;)I"⟩
abbrev cX7_digestLeaf : ByteArray := prog_1_method_34_code
def yX7_digestLeaf : MethodName := ⟨RX7, "digestLeaf", "(LDigestTrees$Mill;ILDigestTrees$Bytes;[B)V"⟩
abbrev cX7_digestPair : ByteArray := prog_1_method_35_code
def yX7_digestPair : MethodName := ⟨RX7, "digestPair", "(LDigestTrees$Mill;[B[B[B)V"⟩
abbrev cX7_digestRoot : ByteArray := prog_1_method_36_code
def yX7_digestRoot : MethodName := ⟨RX7, "digestRoot", "(LDigestTrees$Mill;I[B)V"⟩
abbrev cX7_spread : ByteArray := prog_1_method_37_code
def yX7_spread : MethodName := ⟨RX7, "spread", "([I)V"⟩
def RX8 : String := "DigestTreesModel"
def TX8 : u_T := fun k => match k with
  | 0 => ("DigestTreesModel", "thrown", "I", false)
  | 1 => ("DigestTreesModel", "table", "[I", true)
  | 2 => ("DigestTreesModel", "wideBegin", "[I", true)
  | 3 => ("DigestTreesModel", "narrowBegin", "[I", true)
  | 4 => ("DigestTreesModel", "places", "[J", true)
  | 5 => ("DigestTreesModel", "product", "[J", true)
  | 6 => ("DigestTreesModel", "square", "[J", true)
  | 7 => ("DigestTreesModel", "message", "[I", true)
  | 8 => ("DigestTreesModel", "size", "I", false)
  | 9 => ("DigestTreesModel", "h", "[I", true)
  | 10 => ("DigestTreesModel", "w", "[I", true)
  | 11 => ("DigestTreesModel", "gone", "I", false)
  | 12 => ("DigestTreesModel", "taped", "I", false)
  | 13 => ("DigestTreesModel", "tape", "[I", true)
  | 14 => ("DigestTreesModel", "keySize", "I", false)
  | 15 => ("DigestTreesModel", "key", "[I", true)
  | 16 => ("DigestTreesModel", "digests", "I", false)
  | 17 => ("DigestTreesModel", "sortOf", "[I", true)
  | 18 => ("DigestTreesModel", "blocksOf", "[I", true)
  | 19 => ("DigestTreesModel", "bytesOf", "[I", true)
  | 20 => ("DigestTreesModel", "plans", "[I", true)
  | 21 => ("DigestTreesModel", "padded", "[I", true)
  | 22 => ("DigestTreesModel", "keyBlocks", "[I", true)
  | 23 => ("DigestTreesModel", "streamBytes", "[I", true)
  | 24 => ("DigestTreesModel", "streamMany", "[I", true)
  | 25 => ("DigestTreesModel", "streamSort", "[I", true)
  | 26 => ("DigestTreesModel", "inner", "[I", true)
  | 27 => ("DigestTreesModel", "leaves", "[I", true)
  | 28 => ("DigestTreesModel", "leafKind", "[I", true)
  | 29 => ("DigestTreesModel", "leafSize", "[I", true)
  | 30 => ("DigestTreesModel", "leafBytes", "[I", true)
  | 31 => ("DigestTreesModel", "level", "[I", true)
  | 32 => ("DigestTreesModel", "proved", "I", false)
  | 33 => ("DigestTreesModel", "proof", "[I", true)
  | 34 => ("DigestTreesModel", "rows", "I", false)
  | 35 => ("DigestTreesModel", "rowSize", "[I", true)
  | 36 => ("DigestTreesModel", "rowBytes", "[I", true)
  | 37 => ("DigestTreesModel", "spots", "[I", true)
  | 38 => ("DigestTreesModel", "compared", "I", false)
  | _ => ("DigestTreesModel", "looked", "I", false)
def tyX8 : Nat → FieldType := fun k => match k with
  | 0 => .int
  | 1 => .array .int
  | 2 => .array .int
  | 3 => .array .int
  | 4 => .array .long
  | 5 => .array .long
  | 6 => .array .long
  | 7 => .array .int
  | 8 => .int
  | 9 => .array .int
  | 10 => .array .int
  | 11 => .int
  | 12 => .int
  | 13 => .array .int
  | 14 => .int
  | 15 => .array .int
  | 16 => .int
  | 17 => .array .int
  | 18 => .array .int
  | 19 => .array .int
  | 20 => .array .int
  | 21 => .array .int
  | 22 => .array .int
  | 23 => .array .int
  | 24 => .array .int
  | 25 => .array .int
  | 26 => .array .int
  | 27 => .array .int
  | 28 => .array .int
  | 29 => .array .int
  | 30 => .array .int
  | 31 => .array .int
  | 32 => .int
  | 33 => .array .int
  | 34 => .int
  | 35 => .array .int
  | 36 => .array .int
  | 37 => .array .int
  | 38 => .int
  | _ => .int
abbrev wsX80 : List Cond := u_ws RX8 TX8 40
theorem nmX8 : ∀ a, a < 40 → ∀ b, b < 40 → a ≠ b → (TX8 a).2.1 ≠ (TX8 b).2.1 := by decide +kernel
theorem tyX8_ok : ∀ k, k < 40 → parseFieldDescriptor (TX8 k).2.2.1 = some (tyX8 k) := by decide +kernel
abbrev cX8_init : ByteArray := prog_10_method_1_code
def yX8_init : MethodName := ⟨RX8, "<init>", "()V"⟩
abbrev cX8_multiply : ByteArray := prog_10_method_2_code
def yX8_multiply : MethodName := ⟨RX8, "multiply", "([J[JII)V"⟩
abbrev cX8_squareBits : ByteArray := prog_10_method_3_code
def yX8_squareBits : MethodName := ⟨RX8, "squareBits", "(II)I"⟩
abbrev cX8_cubeBits : ByteArray := prog_10_method_4_code
def yX8_cubeBits : MethodName := ⟨RX8, "cubeBits", "(I)I"⟩
abbrev cX8_isUpTo : ByteArray := prog_10_method_5_code
def yX8_isUpTo : MethodName := ⟨RX8, "isUpTo", "([JII)Z"⟩
abbrev cX8_right : ByteArray := prog_10_method_6_code
def yX8_right : MethodName := ⟨RX8, "right", "(II)I"⟩
abbrev cX8_put : ByteArray := prog_10_method_7_code
def yX8_put : MethodName := ⟨RX8, "put", "(I)V"⟩
abbrev cX8_work : ByteArray := prog_10_method_8_code
def yX8_work : MethodName := ⟨RX8, "work", "(Z)V"⟩
abbrev cX8_block : ByteArray := prog_10_method_9_code
def yX8_block : MethodName := ⟨RX8, "block", "(I)V"⟩
abbrev cX8_byteOfH : ByteArray := prog_10_method_10_code
def yX8_byteOfH : MethodName := ⟨RX8, "byteOfH", "(I)I"⟩
abbrev cX8_thrown : ByteArray := prog_10_method_11_code
def yX8_thrown : MethodName := ⟨RX8, "thrown", "()I"⟩
abbrev cX8_in : ByteArray := prog_10_method_12_code
def yX8_in : MethodName := ⟨RX8, "in", "(III)Z"⟩
abbrev cX8_feed : ByteArray := prog_10_method_13_code
def yX8_feed : MethodName := ⟨RX8, "feed", "(IJ)I"⟩
abbrev cX8_key : ByteArray := prog_10_method_14_code
def yX8_key : MethodName := ⟨RX8, "key", "()I"⟩
abbrev cX8_long32 : ByteArray := prog_10_method_15_code
def yX8_long32 : MethodName := ⟨RX8, "long32", "(I)I"⟩
abbrev cX8_keepDigest : ByteArray := prog_10_method_16_code
def yX8_keepDigest : MethodName := ⟨RX8, "keepDigest", "(I)I"⟩
abbrev cX8_padKey : ByteArray := prog_10_method_17_code
def yX8_padKey : MethodName := ⟨RX8, "padKey", "(I)V"⟩
abbrev cX8_made : ByteArray := prog_10_method_18_code
def yX8_made : MethodName := ⟨RX8, "made", "(II)I"⟩
abbrev cX8_digest : ByteArray := prog_10_method_19_code
def yX8_digest : MethodName := ⟨RX8, "digest", "(I)I"⟩
abbrev cX8_open : ByteArray := prog_10_method_20_code
def yX8_open : MethodName := ⟨RX8, "open", "(II)I"⟩
abbrev cX8_more : ByteArray := prog_10_method_21_code
def yX8_more : MethodName := ⟨RX8, "more", "(I)I"⟩
abbrev cX8_end : ByteArray := prog_10_method_22_code
def yX8_end : MethodName := ⟨RX8, "end", "(I)I"⟩
abbrev cX8_isDigest : ByteArray := prog_10_method_23_code
def yX8_isDigest : MethodName := ⟨RX8, "isDigest", "(I)Z"⟩
abbrev cX8_told : ByteArray := prog_10_method_24_code
def yX8_told : MethodName := ⟨RX8, "told", "(II)I"⟩
abbrev cX8_read : ByteArray := prog_10_method_25_code
def yX8_read : MethodName := ⟨RX8, "read", "(III)J"⟩
abbrev cX8_plan : ByteArray := prog_10_method_26_code
def yX8_plan : MethodName := ⟨RX8, "plan", "(II)J"⟩
abbrev cX8_same : ByteArray := prog_10_method_27_code
def yX8_same : MethodName := ⟨RX8, "same", "(II)I"⟩
abbrev cX8_table : ByteArray := prog_10_method_28_code
def yX8_table : MethodName := ⟨RX8, "table", "(I)I"⟩
abbrev cX8_isTree : ByteArray := prog_10_method_29_code
def yX8_isTree : MethodName := ⟨RX8, "isTree", "(I)Z"⟩
abbrev cX8_layLeaf : ByteArray := prog_10_method_30_code
def yX8_layLeaf : MethodName := ⟨RX8, "layLeaf", "(III)V"⟩
abbrev cX8_leaf : ByteArray := prog_10_method_31_code
def yX8_leaf : MethodName := ⟨RX8, "leaf", "(II)I"⟩
abbrev cX8_change : ByteArray := prog_10_method_32_code
def yX8_change : MethodName := ⟨RX8, "change", "(III)I"⟩
abbrev cX8_putWord : ByteArray := prog_10_method_33_code
def yX8_putWord : MethodName := ⟨RX8, "putWord", "(I)V"⟩
abbrev cX8_toLevel : ByteArray := prog_10_method_34_code
def yX8_toLevel : MethodName := ⟨RX8, "toLevel", "(I)V"⟩
abbrev cX8_layLevel : ByteArray := prog_10_method_35_code
def yX8_layLevel : MethodName := ⟨RX8, "layLevel", "(I)V"⟩
abbrev cX8_rise : ByteArray := prog_10_method_36_code
def yX8_rise : MethodName := ⟨RX8, "rise", "(I)I"⟩
abbrev cX8_workRoot : ByteArray := prog_10_method_37_code
def yX8_workRoot : MethodName := ⟨RX8, "workRoot", "(I)V"⟩
abbrev cX8_root : ByteArray := prog_10_method_38_code
def yX8_root : MethodName := ⟨RX8, "root", "(I)I"⟩
abbrev cX8_drop : ByteArray := prog_10_method_39_code
def yX8_drop : MethodName := ⟨RX8, "drop", "(I)I"⟩
abbrev cX8_prove : ByteArray := prog_10_method_40_code
def yX8_prove : MethodName := ⟨RX8, "prove", "(II)I"⟩
abbrev cX8_alter : ByteArray := prog_10_method_41_code
def yX8_alter : MethodName := ⟨RX8, "alter", "(III)I"⟩
abbrev cX8_check : ByteArray := prog_10_method_42_code
def yX8_check : MethodName := ⟨RX8, "check", "(IIII)I"⟩
abbrev cX8_join : ByteArray := prog_10_method_43_code
def yX8_join : MethodName := ⟨RX8, "join", "(IZ)V"⟩
abbrev cX8_rowsBegin : ByteArray := prog_10_method_44_code
def yX8_rowsBegin : MethodName := ⟨RX8, "rowsBegin", "()V"⟩
abbrev cX8_isRow : ByteArray := prog_10_method_45_code
def yX8_isRow : MethodName := ⟨RX8, "isRow", "(I)Z"⟩
abbrev cX8_spotOfTape : ByteArray := prog_10_method_46_code
def yX8_spotOfTape : MethodName := ⟨RX8, "spotOfTape", "()I"⟩
abbrev cX8_look : ByteArray := prog_10_method_47_code
def yX8_look : MethodName := ⟨RX8, "look", "(I)I"⟩
abbrev cX8_keep : ByteArray := prog_10_method_48_code
def yX8_keep : MethodName := ⟨RX8, "keep", "()I"⟩
abbrev cX8_find : ByteArray := prog_10_method_49_code
def yX8_find : MethodName := ⟨RX8, "find", "()I"⟩
abbrev cX8_row : ByteArray := prog_10_method_50_code
def yX8_row : MethodName := ⟨RX8, "row", "(II)B"⟩
abbrev cX8_about : ByteArray := prog_10_method_51_code
def yX8_about : MethodName := ⟨RX8, "about", "(I)I"⟩
abbrev cX8_pairs : ByteArray := prog_10_method_52_code
def yX8_pairs : MethodName := ⟨RX8, "pairs", "()I"⟩
abbrev cX8_clear : ByteArray := prog_10_method_53_code
def yX8_clear : MethodName := ⟨RX8, "clear", "()I"⟩
def RJx00060 : String := "java/lang/ArrayIndexOutOfBoundsException"
def TJx00060 : u_T := fun k => match k with
  | 0 => ("java/lang/Throwable", "backtrace", "Ljava/lang/Object;", false)
  | 1 => ("java/lang/Throwable", "detailMessage", "Ljava/lang/String;", false)
  | 2 => ("java/lang/Throwable", "cause", "Ljava/lang/Throwable;", false)
  | 3 => ("java/lang/Throwable", "stackTrace", "[Ljava/lang/StackTraceElement;", false)
  | 4 => ("java/lang/Throwable", "depth", "I", false)
  | _ => ("java/lang/Throwable", "suppressedExceptions", "Ljava/util/List;", false)
def tyJx00060 : Nat → FieldType := fun k => match k with
  | 0 => .object "java/lang/Object"
  | 1 => .object "java/lang/String"
  | 2 => .object "java/lang/Throwable"
  | 3 => .array (.object "java/lang/StackTraceElement")
  | 4 => .int
  | _ => .object "java/util/List"
abbrev wsJx000600 : List Cond := u_ws RJx00060 TJx00060 6
theorem nmJx00060 : ∀ a, a < 6 → ∀ b, b < 6 → a ≠ b → (TJx00060 a).2.1 ≠ (TJx00060 b).2.1 := by decide +kernel
theorem tyJx00060_ok : ∀ k, k < 6 → parseFieldDescriptor (TJx00060 k).2.2.1 = some (tyJx00060 k) := by decide +kernel
abbrev cJx00060_init_a7421 : ByteArray := prog_11_method_2_code
def yJx00060_init_a7421 : MethodName := ⟨RJx00060, "<init>", "(Ljava/lang/String;)V"⟩
def RJ6 : String := "java/lang/Integer"
def TJ6 : u_T := fun k => match k with
  | _ => ("", "", "", false)
def tyJ6 : Nat → FieldType := fun k => match k with
  | _ => .int
abbrev wsJ60 : List Cond := u_ws RJ6 TJ6 0
theorem nmJ6 : ∀ a, a < 0 → ∀ b, b < 0 → a ≠ b → (TJ6 a).2.1 ≠ (TJ6 b).2.1 := by decide +kernel
theorem tyJ6_ok : ∀ k, k < 0 → parseFieldDescriptor (TJ6 k).2.2.1 = some (tyJ6 k) := by decide +kernel
abbrev cJ6_rotateRight_7cf53 : ByteArray := prog_14_method_51_code
def yJ6_rotateRight_7cf53 : MethodName := ⟨RJ6, "rotateRight", "(II)I"⟩
def RJx5d777 : String := "java/lang/NullPointerException"
def TJx5d777 : u_T := fun k => match k with
  | 0 => ("java/lang/Throwable", "backtrace", "Ljava/lang/Object;", false)
  | 1 => ("java/lang/Throwable", "detailMessage", "Ljava/lang/String;", false)
  | 2 => ("java/lang/Throwable", "cause", "Ljava/lang/Throwable;", false)
  | 3 => ("java/lang/Throwable", "stackTrace", "[Ljava/lang/StackTraceElement;", false)
  | 4 => ("java/lang/Throwable", "depth", "I", false)
  | 5 => ("java/lang/Throwable", "suppressedExceptions", "Ljava/util/List;", false)
  | 6 => ("java/lang/NullPointerException", "extendedMessageState", "I", false)
  | _ => ("java/lang/NullPointerException", "extendedMessage", "Ljava/lang/String;", false)
def tyJx5d777 : Nat → FieldType := fun k => match k with
  | 0 => .object "java/lang/Object"
  | 1 => .object "java/lang/String"
  | 2 => .object "java/lang/Throwable"
  | 3 => .array (.object "java/lang/StackTraceElement")
  | 4 => .int
  | 5 => .object "java/util/List"
  | 6 => .int
  | _ => .object "java/lang/String"
abbrev wsJx5d7770 : List Cond := u_ws RJx5d777 TJx5d777 8
theorem nmJx5d777 : ∀ a, a < 8 → ∀ b, b < 8 → a ≠ b → (TJx5d777 a).2.1 ≠ (TJx5d777 b).2.1 := by decide +kernel
theorem tyJx5d777_ok : ∀ k, k < 8 → parseFieldDescriptor (TJx5d777 k).2.2.1 = some (tyJx5d777 k) := by decide +kernel
abbrev cJx5d777_init_da8c8 : ByteArray := prog_15_method_1_code
def yJx5d777_init_da8c8 : MethodName := ⟨RJx5d777, "<init>", "()V"⟩
abbrev cJx5d777_init_a7421 : ByteArray := prog_15_method_2_code
def yJx5d777_init_a7421 : MethodName := ⟨RJx5d777, "<init>", "(Ljava/lang/String;)V"⟩
abbrev cJx5d777_fillInStackTrace_cddbd : ByteArray := prog_15_method_3_code
def yJx5d777_fillInStackTrace_cddbd : MethodName := ⟨RJx5d777, "fillInStackTrace", "()Ljava/lang/Throwable;"⟩
def RJ0 : String := "java/lang/String"
def TJ0 : u_T := fun k => match k with
  | 0 => ("java/lang/String", "value", "[B", true)
  | _ => ("java/lang/String", "coder", "B", true)
def tyJ0 : Nat → FieldType := fun k => match k with
  | 0 => .array .byte
  | _ => .byte
abbrev wsJ00 : List Cond := u_ws RJ0 TJ0 2
theorem nmJ0 : ∀ a, a < 2 → ∀ b, b < 2 → a ≠ b → (TJ0 a).2.1 ≠ (TJ0 b).2.1 := by decide +kernel
theorem tyJ0_ok : ∀ k, k < 2 → parseFieldDescriptor (TJ0 k).2.2.1 = some (tyJ0 k) := by decide +kernel
def RJ10 : String := "java/lang/System"
def TJ10 : u_T := fun k => match k with
  | _ => ("", "", "", false)
def tyJ10 : Nat → FieldType := fun k => match k with
  | _ => .int
abbrev wsJ100 : List Cond := u_ws RJ10 TJ10 0
theorem nmJ10 : ∀ a, a < 0 → ∀ b, b < 0 → a ≠ b → (TJ10 a).2.1 ≠ (TJ10 b).2.1 := by decide +kernel
theorem tyJ10_ok : ∀ k, k < 0 → parseFieldDescriptor (TJ10 k).2.2.1 = some (tyJ10 k) := by decide +kernel
def RJ7 : String := "java/util/Arrays"
def TJ7 : u_T := fun k => match k with
  | _ => ("", "", "", false)
def tyJ7 : Nat → FieldType := fun k => match k with
  | _ => .int
abbrev wsJ70 : List Cond := u_ws RJ7 TJ7 0
theorem nmJ7 : ∀ a, a < 0 → ∀ b, b < 0 → a ≠ b → (TJ7 a).2.1 ≠ (TJ7 b).2.1 := by decide +kernel
theorem tyJ7_ok : ∀ k, k < 0 → parseFieldDescriptor (TJ7 k).2.2.1 = some (tyJ7 k) := by decide +kernel
abbrev cJ7_fill_031fb : ByteArray := prog_20_method_109_code
def yJ7_fill_031fb : MethodName := ⟨RJ7, "fill", "([BB)V"⟩
def RL : String := "DigestTreesLaw"
abbrev cL_read : ByteArray := method_3_code
def yL_read : MethodName := ⟨RL, "read", "(LDigestTrees;III[J)I"⟩
abbrev cL_plan : ByteArray := method_4_code
def yL_plan : MethodName := ⟨RL, "plan", "(LDigestTrees;II[J)I"⟩
abbrev cL_table : ByteArray := method_5_code
def yL_table : MethodName := ⟨RL, "table", "(LDigestTrees;I[J)I"⟩
abbrev cL_row : ByteArray := method_6_code
def yL_row : MethodName := ⟨RL, "row", "(LDigestTrees;II[J)I"⟩
abbrev cL_law : ByteArray := code
def yL_law : MethodName := ⟨RL, "law", "([I)Z"⟩
abbrev vwCl : List vw_C := [(RJ0, TJ0, 2), (RJx00060, TJx00060, 6), (RJx5d777, TJx5d777, 8), (RX0, TX0, 2), (RX1, TX1, 7), (RX2, TX2, 5), (RX3, TX3, 2), (RX4, TX4, 6), (RX5, TX5, 6), (RX6, TX6, 3), (RX7, TX7, 10), (RX8, TX8, 40)]
end
section
theorem dX0_init_0 : decode cX0_init 0 = .ok (.aload_n 0, 1) := by decide +kernel
theorem dX0_init_1 : decode cX0_init 1 = .ok (.invokespecial 3, 3) := by decide +kernel
theorem dX0_init_4 : decode cX0_init 4 = .ok (.aload_n 0, 1) := by decide +kernel
theorem dX0_init_5 : decode cX0_init 5 = .ok (.sipush 200, 3) := by decide +kernel
theorem dX0_init_8 : decode cX0_init 8 = .ok (.newarray .byte, 2) := by decide +kernel
theorem dX0_init_10 : decode cX0_init 10 = .ok (.putfield 9, 3) := by decide +kernel
theorem dX0_init_13 : decode cX0_init 13 = .ok (.return_, 1) := by decide +kernel
theorem dX1_init_0 : decode cX1_init 0 = .ok (.aload_n 0, 1) := by decide +kernel
theorem dX1_init_1 : decode cX1_init 1 = .ok (.invokespecial 3, 3) := by decide +kernel
theorem dX1_init_4 : decode cX1_init 4 = .ok (.aload_n 0, 1) := by decide +kernel
theorem dX1_init_5 : decode cX1_init 5 = .ok (.bipush 64, 2) := by decide +kernel
theorem dX1_init_7 : decode cX1_init 7 = .ok (.newarray .byte, 2) := by decide +kernel
theorem dX1_init_9 : decode cX1_init 9 = .ok (.putfield 9, 3) := by decide +kernel
theorem dX1_init_12 : decode cX1_init 12 = .ok (.aload_n 0, 1) := by decide +kernel
theorem dX1_init_13 : decode cX1_init 13 = .ok (.bipush 32, 2) := by decide +kernel
theorem dX1_init_15 : decode cX1_init 15 = .ok (.newarray .byte, 2) := by decide +kernel
theorem dX1_init_17 : decode cX1_init 17 = .ok (.putfield 15, 3) := by decide +kernel
theorem dX1_init_20 : decode cX1_init 20 = .ok (.aload_n 0, 1) := by decide +kernel
theorem dX1_init_21 : decode cX1_init 21 = .ok (.aload_n 1, 1) := by decide +kernel
theorem dX1_init_22 : decode cX1_init 22 = .ok (.putfield 18, 3) := by decide +kernel
theorem dX1_init_25 : decode cX1_init 25 = .ok (.return_, 1) := by decide +kernel
theorem dX1_begin_0 : decode cX1_begin 0 = .ok (.aload_n 0, 1) := by decide +kernel
theorem dX1_begin_1 : decode cX1_begin 1 = .ok (.iload_n 1, 1) := by decide +kernel
theorem dX1_begin_2 : decode cX1_begin 2 = .ok (.putfield 22, 3) := by decide +kernel
theorem dX1_begin_5 : decode cX1_begin 5 = .ok (.aload_n 0, 1) := by decide +kernel
theorem dX1_begin_6 : decode cX1_begin 6 = .ok (.iconst 0, 1) := by decide +kernel
theorem dX1_begin_7 : decode cX1_begin 7 = .ok (.putfield 26, 3) := by decide +kernel
theorem dX1_begin_10 : decode cX1_begin 10 = .ok (.aload_n 0, 1) := by decide +kernel
theorem dX1_begin_11 : decode cX1_begin 11 = .ok (.iconst 0, 1) := by decide +kernel
theorem dX1_begin_12 : decode cX1_begin 12 = .ok (.putfield 29, 3) := by decide +kernel
theorem dX1_begin_15 : decode cX1_begin 15 = .ok (.aload_n 0, 1) := by decide +kernel
theorem dX1_begin_16 : decode cX1_begin 16 = .ok (.getfield 22, 3) := by decide +kernel
theorem dX1_begin_19 : decode cX1_begin 19 = .ok (.iconst 2, 1) := by decide +kernel
theorem dX1_begin_20 : decode cX1_begin 20 = .ok (.if_icmp .ne 17, 3) := by decide +kernel
theorem dX1_begin_23 : decode cX1_begin 23 = .ok (.aload_n 0, 1) := by decide +kernel
theorem dX1_begin_24 : decode cX1_begin 24 = .ok (.aload_n 2, 1) := by decide +kernel
theorem dX1_begin_25 : decode cX1_begin 25 = .ok (.invokevirtual 32, 3) := by decide +kernel
theorem dX1_begin_28 : decode cX1_begin 28 = .ok (.aload_n 0, 1) := by decide +kernel
theorem dX1_begin_29 : decode cX1_begin 29 = .ok (.bipush 54, 2) := by decide +kernel
theorem dX1_begin_31 : decode cX1_begin 31 = .ok (.invokevirtual 36, 3) := by decide +kernel
theorem dX1_begin_34 : decode cX1_begin 34 = .ok (.goto 27, 3) := by decide +kernel
theorem dX1_begin_37 : decode cX1_begin 37 = .ok (.aload_n 0, 1) := by decide +kernel
theorem dX1_begin_38 : decode cX1_begin 38 = .ok (.getfield 18, 3) := by decide +kernel
theorem dX1_begin_41 : decode cX1_begin 41 = .ok (.aload_n 0, 1) := by decide +kernel
theorem dX1_begin_42 : decode cX1_begin 42 = .ok (.getfield 22, 3) := by decide +kernel
theorem dX1_begin_45 : decode cX1_begin 45 = .ok (.iconst 1, 1) := by decide +kernel
theorem dX1_begin_46 : decode cX1_begin 46 = .ok (.if_icmp .ne 9, 3) := by decide +kernel
theorem dX1_begin_49 : decode cX1_begin 49 = .ok (.getstatic 40, 3) := by decide +kernel
theorem dX1_begin_52 : decode cX1_begin 52 = .ok (.goto 6, 3) := by decide +kernel
theorem dX1_begin_55 : decode cX1_begin 55 = .ok (.getstatic 44, 3) := by decide +kernel
theorem dX1_begin_58 : decode cX1_begin 58 = .ok (.invokevirtual 47, 3) := by decide +kernel
theorem dX1_begin_61 : decode cX1_begin 61 = .ok (.return_, 1) := by decide +kernel
theorem dX1_take_0 : decode cX1_take 0 = .ok (.aload_n 0, 1) := by decide +kernel
theorem dX1_take_1 : decode cX1_take 1 = .ok (.getfield 18, 3) := by decide +kernel
theorem dX1_take_4 : decode cX1_take 4 = .ok (.aload_n 1, 1) := by decide +kernel
theorem dX1_take_5 : decode cX1_take 5 = .ok (.getfield 53, 3) := by decide +kernel
theorem dX1_take_8 : decode cX1_take 8 = .ok (.aload_n 1, 1) := by decide +kernel
theorem dX1_take_9 : decode cX1_take 9 = .ok (.getfield 58, 3) := by decide +kernel
theorem dX1_take_12 : decode cX1_take 12 = .ok (.invokevirtual 61, 3) := by decide +kernel
theorem dX1_take_15 : decode cX1_take 15 = .ok (.aload_n 0, 1) := by decide +kernel
theorem dX1_take_16 : decode cX1_take 16 = .ok (.dup, 1) := by decide +kernel
theorem dX1_take_17 : decode cX1_take 17 = .ok (.getfield 26, 3) := by decide +kernel
theorem dX1_take_20 : decode cX1_take 20 = .ok (.aload_n 1, 1) := by decide +kernel
theorem dX1_take_21 : decode cX1_take 21 = .ok (.getfield 58, 3) := by decide +kernel
theorem dX1_take_24 : decode cX1_take 24 = .ok (.iadd, 1) := by decide +kernel
theorem dX1_take_25 : decode cX1_take 25 = .ok (.putfield 26, 3) := by decide +kernel
theorem dX1_take_28 : decode cX1_take 28 = .ok (.return_, 1) := by decide +kernel
theorem dX1_finish_0 : decode cX1_finish 0 = .ok (.aload_n 0, 1) := by decide +kernel
theorem dX1_finish_1 : decode cX1_finish 1 = .ok (.getfield 18, 3) := by decide +kernel
theorem dX1_finish_4 : decode cX1_finish 4 = .ok (.invokevirtual 65, 3) := by decide +kernel
theorem dX1_finish_7 : decode cX1_finish 7 = .ok (.aload_n 0, 1) := by decide +kernel
theorem dX1_finish_8 : decode cX1_finish 8 = .ok (.dup, 1) := by decide +kernel
theorem dX1_finish_9 : decode cX1_finish 9 = .ok (.getfield 29, 3) := by decide +kernel
theorem dX1_finish_12 : decode cX1_finish 12 = .ok (.aload_n 0, 1) := by decide +kernel
theorem dX1_finish_13 : decode cX1_finish 13 = .ok (.getfield 18, 3) := by decide +kernel
theorem dX1_finish_16 : decode cX1_finish 16 = .ok (.getfield 68, 3) := by decide +kernel
theorem dX1_finish_19 : decode cX1_finish 19 = .ok (.iadd, 1) := by decide +kernel
theorem dX1_finish_20 : decode cX1_finish 20 = .ok (.putfield 29, 3) := by decide +kernel
theorem dX1_finish_23 : decode cX1_finish 23 = .ok (.aload_n 0, 1) := by decide +kernel
theorem dX1_finish_24 : decode cX1_finish 24 = .ok (.getfield 22, 3) := by decide +kernel
theorem dX1_finish_27 : decode cX1_finish 27 = .ok (.iconst 2, 1) := by decide +kernel
theorem dX1_finish_28 : decode cX1_finish 28 = .ok (.if_icmp .ne 58, 3) := by decide +kernel
theorem dX1_finish_31 : decode cX1_finish 31 = .ok (.aload_n 0, 1) := by decide +kernel
theorem dX1_finish_32 : decode cX1_finish 32 = .ok (.getfield 18, 3) := by decide +kernel
theorem dX1_finish_35 : decode cX1_finish 35 = .ok (.aload_n 0, 1) := by decide +kernel
theorem dX1_finish_36 : decode cX1_finish 36 = .ok (.getfield 15, 3) := by decide +kernel
theorem dX1_finish_39 : decode cX1_finish 39 = .ok (.bipush 32, 2) := by decide +kernel
theorem dX1_finish_41 : decode cX1_finish 41 = .ok (.invokevirtual 69, 3) := by decide +kernel
theorem dX1_finish_44 : decode cX1_finish 44 = .ok (.aload_n 0, 1) := by decide +kernel
theorem dX1_finish_45 : decode cX1_finish 45 = .ok (.bipush 92, 2) := by decide +kernel
theorem dX1_finish_47 : decode cX1_finish 47 = .ok (.invokevirtual 36, 3) := by decide +kernel
theorem dX1_finish_50 : decode cX1_finish 50 = .ok (.aload_n 0, 1) := by decide +kernel
theorem dX1_finish_51 : decode cX1_finish 51 = .ok (.getfield 18, 3) := by decide +kernel
theorem dX1_finish_54 : decode cX1_finish 54 = .ok (.aload_n 0, 1) := by decide +kernel
theorem dX1_finish_55 : decode cX1_finish 55 = .ok (.getfield 15, 3) := by decide +kernel
theorem dX1_finish_58 : decode cX1_finish 58 = .ok (.bipush 32, 2) := by decide +kernel
theorem dX1_finish_60 : decode cX1_finish 60 = .ok (.invokevirtual 61, 3) := by decide +kernel
theorem dX1_finish_63 : decode cX1_finish 63 = .ok (.aload_n 0, 1) := by decide +kernel
theorem dX1_finish_64 : decode cX1_finish 64 = .ok (.getfield 18, 3) := by decide +kernel
theorem dX1_finish_67 : decode cX1_finish 67 = .ok (.invokevirtual 65, 3) := by decide +kernel
theorem dX1_finish_70 : decode cX1_finish 70 = .ok (.aload_n 0, 1) := by decide +kernel
theorem dX1_finish_71 : decode cX1_finish 71 = .ok (.dup, 1) := by decide +kernel
theorem dX1_finish_72 : decode cX1_finish 72 = .ok (.getfield 29, 3) := by decide +kernel
theorem dX1_finish_75 : decode cX1_finish 75 = .ok (.aload_n 0, 1) := by decide +kernel
theorem dX1_finish_76 : decode cX1_finish 76 = .ok (.getfield 18, 3) := by decide +kernel
theorem dX1_finish_79 : decode cX1_finish 79 = .ok (.getfield 68, 3) := by decide +kernel
theorem dX1_finish_82 : decode cX1_finish 82 = .ok (.iadd, 1) := by decide +kernel
theorem dX1_finish_83 : decode cX1_finish 83 = .ok (.putfield 29, 3) := by decide +kernel
theorem dX1_finish_86 : decode cX1_finish 86 = .ok (.aload_n 1, 1) := by decide +kernel
theorem dX1_finish_87 : decode cX1_finish 87 = .ok (.aload_n 0, 1) := by decide +kernel
theorem dX1_finish_88 : decode cX1_finish 88 = .ok (.getfield 22, 3) := by decide +kernel
theorem dX1_finish_91 : decode cX1_finish 91 = .ok (.aload_n 0, 1) := by decide +kernel
theorem dX1_finish_92 : decode cX1_finish 92 = .ok (.getfield 29, 3) := by decide +kernel
theorem dX1_finish_95 : decode cX1_finish 95 = .ok (.aload_n 0, 1) := by decide +kernel
theorem dX1_finish_96 : decode cX1_finish 96 = .ok (.getfield 18, 3) := by decide +kernel
theorem dX1_finish_99 : decode cX1_finish 99 = .ok (.invokevirtual 72, 3) := by decide +kernel
theorem dX1_finish_102 : decode cX1_finish 102 = .ok (.ireturn, 1) := by decide +kernel
theorem dX1_makeLock_0 : decode cX1_makeLock 0 = .ok (.aload_n 0, 1) := by decide +kernel
theorem dX1_makeLock_1 : decode cX1_makeLock 1 = .ok (.getfield 9, 3) := by decide +kernel
theorem dX1_makeLock_4 : decode cX1_makeLock 4 = .ok (.iconst 0, 1) := by decide +kernel
theorem dX1_makeLock_5 : decode cX1_makeLock 5 = .ok (.invokestatic 78, 3) := by decide +kernel
theorem dX1_makeLock_8 : decode cX1_makeLock 8 = .ok (.aload_n 1, 1) := by decide +kernel
theorem dX1_makeLock_9 : decode cX1_makeLock 9 = .ok (.getfield 58, 3) := by decide +kernel
theorem dX1_makeLock_12 : decode cX1_makeLock 12 = .ok (.bipush 64, 2) := by decide +kernel
theorem dX1_makeLock_14 : decode cX1_makeLock 14 = .ok (.if_icmp .gt 21, 3) := by decide +kernel
theorem dX1_makeLock_17 : decode cX1_makeLock 17 = .ok (.aload_n 1, 1) := by decide +kernel
theorem dX1_makeLock_18 : decode cX1_makeLock 18 = .ok (.getfield 53, 3) := by decide +kernel
theorem dX1_makeLock_21 : decode cX1_makeLock 21 = .ok (.iconst 0, 1) := by decide +kernel
theorem dX1_makeLock_22 : decode cX1_makeLock 22 = .ok (.aload_n 0, 1) := by decide +kernel
theorem dX1_makeLock_23 : decode cX1_makeLock 23 = .ok (.getfield 9, 3) := by decide +kernel
theorem dX1_makeLock_26 : decode cX1_makeLock 26 = .ok (.iconst 0, 1) := by decide +kernel
theorem dX1_makeLock_27 : decode cX1_makeLock 27 = .ok (.aload_n 1, 1) := by decide +kernel
theorem dX1_makeLock_28 : decode cX1_makeLock 28 = .ok (.getfield 58, 3) := by decide +kernel
theorem dX1_makeLock_31 : decode cX1_makeLock 31 = .ok (.invokestatic 84, 3) := by decide +kernel
theorem dX1_makeLock_34 : decode cX1_makeLock 34 = .ok (.return_, 1) := by decide +kernel
theorem dX1_makeLock_35 : decode cX1_makeLock 35 = .ok (.aload_n 0, 1) := by decide +kernel
theorem dX1_makeLock_36 : decode cX1_makeLock 36 = .ok (.getfield 18, 3) := by decide +kernel
theorem dX1_makeLock_39 : decode cX1_makeLock 39 = .ok (.getstatic 44, 3) := by decide +kernel
theorem dX1_makeLock_42 : decode cX1_makeLock 42 = .ok (.invokevirtual 47, 3) := by decide +kernel
theorem dX1_makeLock_45 : decode cX1_makeLock 45 = .ok (.aload_n 0, 1) := by decide +kernel
theorem dX1_makeLock_46 : decode cX1_makeLock 46 = .ok (.getfield 18, 3) := by decide +kernel
theorem dX1_makeLock_49 : decode cX1_makeLock 49 = .ok (.aload_n 1, 1) := by decide +kernel
theorem dX1_makeLock_50 : decode cX1_makeLock 50 = .ok (.getfield 53, 3) := by decide +kernel
theorem dX1_makeLock_53 : decode cX1_makeLock 53 = .ok (.aload_n 1, 1) := by decide +kernel
theorem dX1_makeLock_54 : decode cX1_makeLock 54 = .ok (.getfield 58, 3) := by decide +kernel
theorem dX1_makeLock_57 : decode cX1_makeLock 57 = .ok (.invokevirtual 61, 3) := by decide +kernel
theorem dX1_makeLock_60 : decode cX1_makeLock 60 = .ok (.aload_n 0, 1) := by decide +kernel
theorem dX1_makeLock_61 : decode cX1_makeLock 61 = .ok (.getfield 18, 3) := by decide +kernel
theorem dX1_makeLock_64 : decode cX1_makeLock 64 = .ok (.invokevirtual 65, 3) := by decide +kernel
theorem dX1_makeLock_67 : decode cX1_makeLock 67 = .ok (.aload_n 0, 1) := by decide +kernel
theorem dX1_makeLock_68 : decode cX1_makeLock 68 = .ok (.getfield 18, 3) := by decide +kernel
theorem dX1_makeLock_71 : decode cX1_makeLock 71 = .ok (.aload_n 0, 1) := by decide +kernel
theorem dX1_makeLock_72 : decode cX1_makeLock 72 = .ok (.getfield 9, 3) := by decide +kernel
theorem dX1_makeLock_75 : decode cX1_makeLock 75 = .ok (.bipush 32, 2) := by decide +kernel
theorem dX1_makeLock_77 : decode cX1_makeLock 77 = .ok (.invokevirtual 69, 3) := by decide +kernel
theorem dX1_makeLock_80 : decode cX1_makeLock 80 = .ok (.aload_n 0, 1) := by decide +kernel
theorem dX1_makeLock_81 : decode cX1_makeLock 81 = .ok (.dup, 1) := by decide +kernel
theorem dX1_makeLock_82 : decode cX1_makeLock 82 = .ok (.getfield 29, 3) := by decide +kernel
theorem dX1_makeLock_85 : decode cX1_makeLock 85 = .ok (.aload_n 0, 1) := by decide +kernel
theorem dX1_makeLock_86 : decode cX1_makeLock 86 = .ok (.getfield 18, 3) := by decide +kernel
theorem dX1_makeLock_89 : decode cX1_makeLock 89 = .ok (.getfield 68, 3) := by decide +kernel
theorem dX1_makeLock_92 : decode cX1_makeLock 92 = .ok (.iadd, 1) := by decide +kernel
theorem dX1_makeLock_93 : decode cX1_makeLock 93 = .ok (.putfield 29, 3) := by decide +kernel
theorem dX1_makeLock_96 : decode cX1_makeLock 96 = .ok (.return_, 1) := by decide +kernel
theorem dX1_beginLocked_0 : decode cX1_beginLocked 0 = .ok (.aload_n 0, 1) := by decide +kernel
theorem dX1_beginLocked_1 : decode cX1_beginLocked 1 = .ok (.getfield 18, 3) := by decide +kernel
theorem dX1_beginLocked_4 : decode cX1_beginLocked 4 = .ok (.getstatic 44, 3) := by decide +kernel
theorem dX1_beginLocked_7 : decode cX1_beginLocked 7 = .ok (.invokevirtual 47, 3) := by decide +kernel
theorem dX1_beginLocked_10 : decode cX1_beginLocked 10 = .ok (.iconst 0, 1) := by decide +kernel
theorem dX1_beginLocked_11 : decode cX1_beginLocked 11 = .ok (.istore_n 2, 1) := by decide +kernel
theorem dX1_beginLocked_12 : decode cX1_beginLocked 12 = .ok (.iload_n 2, 1) := by decide +kernel
theorem dX1_beginLocked_13 : decode cX1_beginLocked 13 = .ok (.bipush 64, 2) := by decide +kernel
theorem dX1_beginLocked_15 : decode cX1_beginLocked 15 = .ok (.if_icmp .ge 24, 3) := by decide +kernel
theorem dX1_beginLocked_18 : decode cX1_beginLocked 18 = .ok (.aload_n 0, 1) := by decide +kernel
theorem dX1_beginLocked_19 : decode cX1_beginLocked 19 = .ok (.getfield 18, 3) := by decide +kernel
theorem dX1_beginLocked_22 : decode cX1_beginLocked 22 = .ok (.aload_n 0, 1) := by decide +kernel
theorem dX1_beginLocked_23 : decode cX1_beginLocked 23 = .ok (.getfield 9, 3) := by decide +kernel
theorem dX1_beginLocked_26 : decode cX1_beginLocked 26 = .ok (.iload_n 2, 1) := by decide +kernel
theorem dX1_beginLocked_27 : decode cX1_beginLocked 27 = .ok (.baload, 1) := by decide +kernel
theorem dX1_beginLocked_28 : decode cX1_beginLocked 28 = .ok (.iload_n 1, 1) := by decide +kernel
theorem dX1_beginLocked_29 : decode cX1_beginLocked 29 = .ok (.ixor, 1) := by decide +kernel
theorem dX1_beginLocked_30 : decode cX1_beginLocked 30 = .ok (.invokevirtual 90, 3) := by decide +kernel
theorem dX1_beginLocked_33 : decode cX1_beginLocked 33 = .ok (.iinc 2 1, 3) := by decide +kernel
theorem dX1_beginLocked_36 : decode cX1_beginLocked 36 = .ok (.goto (-24), 3) := by decide +kernel
theorem dX1_beginLocked_39 : decode cX1_beginLocked 39 = .ok (.return_, 1) := by decide +kernel
theorem dX2_init_0 : decode cX2_init 0 = .ok (.aload_n 0, 1) := by decide +kernel
theorem dX2_init_1 : decode cX2_init 1 = .ok (.invokespecial 3, 3) := by decide +kernel
theorem dX2_init_4 : decode cX2_init 4 = .ok (.aload_n 0, 1) := by decide +kernel
theorem dX2_init_5 : decode cX2_init 5 = .ok (.bipush 8, 2) := by decide +kernel
theorem dX2_init_7 : decode cX2_init 7 = .ok (.newarray .int, 2) := by decide +kernel
theorem dX2_init_9 : decode cX2_init 9 = .ok (.putfield 9, 3) := by decide +kernel
theorem dX2_init_12 : decode cX2_init 12 = .ok (.aload_n 0, 1) := by decide +kernel
theorem dX2_init_13 : decode cX2_init 13 = .ok (.bipush 64, 2) := by decide +kernel
theorem dX2_init_15 : decode cX2_init 15 = .ok (.newarray .int, 2) := by decide +kernel
theorem dX2_init_17 : decode cX2_init 17 = .ok (.putfield 15, 3) := by decide +kernel
theorem dX2_init_20 : decode cX2_init 20 = .ok (.return_, 1) := by decide +kernel
theorem dX2_begin_0 : decode cX2_begin 0 = .ok (.aload_n 1, 1) := by decide +kernel
theorem dX2_begin_1 : decode cX2_begin 1 = .ok (.iconst 0, 1) := by decide +kernel
theorem dX2_begin_2 : decode cX2_begin 2 = .ok (.aload_n 0, 1) := by decide +kernel
theorem dX2_begin_3 : decode cX2_begin 3 = .ok (.getfield 9, 3) := by decide +kernel
theorem dX2_begin_6 : decode cX2_begin 6 = .ok (.iconst 0, 1) := by decide +kernel
theorem dX2_begin_7 : decode cX2_begin 7 = .ok (.aload_n 0, 1) := by decide +kernel
theorem dX2_begin_8 : decode cX2_begin 8 = .ok (.getfield 9, 3) := by decide +kernel
theorem dX2_begin_11 : decode cX2_begin 11 = .ok (.arraylength, 1) := by decide +kernel
theorem dX2_begin_12 : decode cX2_begin 12 = .ok (.invokestatic 18, 3) := by decide +kernel
theorem dX2_begin_15 : decode cX2_begin 15 = .ok (.aload_n 0, 1) := by decide +kernel
theorem dX2_begin_16 : decode cX2_begin 16 = .ok (.iconst 0, 1) := by decide +kernel
theorem dX2_begin_17 : decode cX2_begin 17 = .ok (.putfield 24, 3) := by decide +kernel
theorem dX2_begin_20 : decode cX2_begin 20 = .ok (.aload_n 0, 1) := by decide +kernel
theorem dX2_begin_21 : decode cX2_begin 21 = .ok (.iconst 0, 1) := by decide +kernel
theorem dX2_begin_22 : decode cX2_begin 22 = .ok (.putfield 28, 3) := by decide +kernel
theorem dX2_begin_25 : decode cX2_begin 25 = .ok (.aload_n 0, 1) := by decide +kernel
theorem dX2_begin_26 : decode cX2_begin 26 = .ok (.iconst 0, 1) := by decide +kernel
theorem dX2_begin_27 : decode cX2_begin 27 = .ok (.putfield 31, 3) := by decide +kernel
theorem dX2_begin_30 : decode cX2_begin 30 = .ok (.return_, 1) := by decide +kernel
theorem dX2_take_0 : decode cX2_take 0 = .ok (.iconst 0, 1) := by decide +kernel
theorem dX2_take_1 : decode cX2_take 1 = .ok (.istore_n 3, 1) := by decide +kernel
theorem dX2_take_2 : decode cX2_take 2 = .ok (.iload_n 3, 1) := by decide +kernel
theorem dX2_take_3 : decode cX2_take 3 = .ok (.iload_n 2, 1) := by decide +kernel
theorem dX2_take_4 : decode cX2_take 4 = .ok (.if_icmp .ge 16, 3) := by decide +kernel
theorem dX2_take_7 : decode cX2_take 7 = .ok (.aload_n 0, 1) := by decide +kernel
theorem dX2_take_8 : decode cX2_take 8 = .ok (.aload_n 1, 1) := by decide +kernel
theorem dX2_take_9 : decode cX2_take 9 = .ok (.iload_n 3, 1) := by decide +kernel
theorem dX2_take_10 : decode cX2_take 10 = .ok (.baload, 1) := by decide +kernel
theorem dX2_take_11 : decode cX2_take 11 = .ok (.invokevirtual 34, 3) := by decide +kernel
theorem dX2_take_14 : decode cX2_take 14 = .ok (.iinc 3 1, 3) := by decide +kernel
theorem dX2_take_17 : decode cX2_take 17 = .ok (.goto (-15), 3) := by decide +kernel
theorem dX2_take_20 : decode cX2_take 20 = .ok (.aload_n 0, 1) := by decide +kernel
theorem dX2_take_21 : decode cX2_take 21 = .ok (.dup, 1) := by decide +kernel
theorem dX2_take_22 : decode cX2_take 22 = .ok (.getfield 28, 3) := by decide +kernel
theorem dX2_take_25 : decode cX2_take 25 = .ok (.iload_n 2, 1) := by decide +kernel
theorem dX2_take_26 : decode cX2_take 26 = .ok (.iadd, 1) := by decide +kernel
theorem dX2_take_27 : decode cX2_take 27 = .ok (.putfield 28, 3) := by decide +kernel
theorem dX2_take_30 : decode cX2_take 30 = .ok (.return_, 1) := by decide +kernel
theorem dX2_takeByte_0 : decode cX2_takeByte 0 = .ok (.aload_n 0, 1) := by decide +kernel
theorem dX2_takeByte_1 : decode cX2_takeByte 1 = .ok (.iload_n 1, 1) := by decide +kernel
theorem dX2_takeByte_2 : decode cX2_takeByte 2 = .ok (.invokevirtual 34, 3) := by decide +kernel
theorem dX2_takeByte_5 : decode cX2_takeByte 5 = .ok (.aload_n 0, 1) := by decide +kernel
theorem dX2_takeByte_6 : decode cX2_takeByte 6 = .ok (.dup, 1) := by decide +kernel
theorem dX2_takeByte_7 : decode cX2_takeByte 7 = .ok (.getfield 28, 3) := by decide +kernel
theorem dX2_takeByte_10 : decode cX2_takeByte 10 = .ok (.iconst 1, 1) := by decide +kernel
theorem dX2_takeByte_11 : decode cX2_takeByte 11 = .ok (.iadd, 1) := by decide +kernel
theorem dX2_takeByte_12 : decode cX2_takeByte 12 = .ok (.putfield 28, 3) := by decide +kernel
theorem dX2_takeByte_15 : decode cX2_takeByte 15 = .ok (.return_, 1) := by decide +kernel
theorem dX2_finish_0 : decode cX2_finish 0 = .ok (.ldc2_w 38, 3) := by decide +kernel
theorem dX2_finish_3 : decode cX2_finish 3 = .ok (.aload_n 0, 1) := by decide +kernel
theorem dX2_finish_4 : decode cX2_finish 4 = .ok (.getfield 28, 3) := by decide +kernel
theorem dX2_finish_7 : decode cX2_finish 7 = .ok (.i2l, 1) := by decide +kernel
theorem dX2_finish_8 : decode cX2_finish 8 = .ok (.lmul, 1) := by decide +kernel
theorem dX2_finish_9 : decode cX2_finish 9 = .ok (.lstore_n 1, 1) := by decide +kernel
theorem dX2_finish_10 : decode cX2_finish 10 = .ok (.aload_n 0, 1) := by decide +kernel
theorem dX2_finish_11 : decode cX2_finish 11 = .ok (.sipush 128, 3) := by decide +kernel
theorem dX2_finish_14 : decode cX2_finish 14 = .ok (.invokevirtual 34, 3) := by decide +kernel
theorem dX2_finish_17 : decode cX2_finish 17 = .ok (.bipush 120, 2) := by decide +kernel
theorem dX2_finish_19 : decode cX2_finish 19 = .ok (.aload_n 0, 1) := by decide +kernel
theorem dX2_finish_20 : decode cX2_finish 20 = .ok (.getfield 24, 3) := by decide +kernel
theorem dX2_finish_23 : decode cX2_finish 23 = .ok (.isub, 1) := by decide +kernel
theorem dX2_finish_24 : decode cX2_finish 24 = .ok (.bipush 64, 2) := by decide +kernel
theorem dX2_finish_26 : decode cX2_finish 26 = .ok (.irem, 1) := by decide +kernel
theorem dX2_finish_27 : decode cX2_finish 27 = .ok (.istore_n 3, 1) := by decide +kernel
theorem dX2_finish_28 : decode cX2_finish 28 = .ok (.iconst 0, 1) := by decide +kernel
theorem dX2_finish_29 : decode cX2_finish 29 = .ok (.istore 4, 2) := by decide +kernel
theorem dX2_finish_31 : decode cX2_finish 31 = .ok (.iload 4, 2) := by decide +kernel
theorem dX2_finish_33 : decode cX2_finish 33 = .ok (.iload_n 3, 1) := by decide +kernel
theorem dX2_finish_34 : decode cX2_finish 34 = .ok (.if_icmp .ge 14, 3) := by decide +kernel
theorem dX2_finish_37 : decode cX2_finish 37 = .ok (.aload_n 0, 1) := by decide +kernel
theorem dX2_finish_38 : decode cX2_finish 38 = .ok (.iconst 0, 1) := by decide +kernel
theorem dX2_finish_39 : decode cX2_finish 39 = .ok (.invokevirtual 34, 3) := by decide +kernel
theorem dX2_finish_42 : decode cX2_finish 42 = .ok (.iinc 4 1, 3) := by decide +kernel
theorem dX2_finish_45 : decode cX2_finish 45 = .ok (.goto (-14), 3) := by decide +kernel
theorem dX2_finish_48 : decode cX2_finish 48 = .ok (.bipush 56, 2) := by decide +kernel
theorem dX2_finish_50 : decode cX2_finish 50 = .ok (.istore 4, 2) := by decide +kernel
theorem dX2_finish_52 : decode cX2_finish 52 = .ok (.iload 4, 2) := by decide +kernel
theorem dX2_finish_54 : decode cX2_finish 54 = .ok (.ifCond .lt 18, 3) := by decide +kernel
theorem dX2_finish_57 : decode cX2_finish 57 = .ok (.aload_n 0, 1) := by decide +kernel
theorem dX2_finish_58 : decode cX2_finish 58 = .ok (.lload_n 1, 1) := by decide +kernel
theorem dX2_finish_59 : decode cX2_finish 59 = .ok (.iload 4, 2) := by decide +kernel
theorem dX2_finish_61 : decode cX2_finish 61 = .ok (.lushr, 1) := by decide +kernel
theorem dX2_finish_62 : decode cX2_finish 62 = .ok (.l2i, 1) := by decide +kernel
theorem dX2_finish_63 : decode cX2_finish 63 = .ok (.invokevirtual 34, 3) := by decide +kernel
theorem dX2_finish_66 : decode cX2_finish 66 = .ok (.iinc 4 (-8), 3) := by decide +kernel
theorem dX2_finish_69 : decode cX2_finish 69 = .ok (.goto (-17), 3) := by decide +kernel
theorem dX2_finish_72 : decode cX2_finish 72 = .ok (.return_, 1) := by decide +kernel
theorem dX2_write_0 : decode cX2_write 0 = .ok (.iconst 0, 1) := by decide +kernel
theorem dX2_write_1 : decode cX2_write 1 = .ok (.istore_n 3, 1) := by decide +kernel
theorem dX2_write_2 : decode cX2_write 2 = .ok (.iload_n 3, 1) := by decide +kernel
theorem dX2_write_3 : decode cX2_write 3 = .ok (.iload_n 2, 1) := by decide +kernel
theorem dX2_write_4 : decode cX2_write 4 = .ok (.if_icmp .ge 31, 3) := by decide +kernel
theorem dX2_write_7 : decode cX2_write 7 = .ok (.aload_n 1, 1) := by decide +kernel
theorem dX2_write_8 : decode cX2_write 8 = .ok (.iload_n 3, 1) := by decide +kernel
theorem dX2_write_9 : decode cX2_write 9 = .ok (.aload_n 0, 1) := by decide +kernel
theorem dX2_write_10 : decode cX2_write 10 = .ok (.getfield 9, 3) := by decide +kernel
theorem dX2_write_13 : decode cX2_write 13 = .ok (.iload_n 3, 1) := by decide +kernel
theorem dX2_write_14 : decode cX2_write 14 = .ok (.iconst 4, 1) := by decide +kernel
theorem dX2_write_15 : decode cX2_write 15 = .ok (.idiv, 1) := by decide +kernel
theorem dX2_write_16 : decode cX2_write 16 = .ok (.iaload, 1) := by decide +kernel
theorem dX2_write_17 : decode cX2_write 17 = .ok (.bipush 24, 2) := by decide +kernel
theorem dX2_write_19 : decode cX2_write 19 = .ok (.bipush 8, 2) := by decide +kernel
theorem dX2_write_21 : decode cX2_write 21 = .ok (.iload_n 3, 1) := by decide +kernel
theorem dX2_write_22 : decode cX2_write 22 = .ok (.iconst 4, 1) := by decide +kernel
theorem dX2_write_23 : decode cX2_write 23 = .ok (.irem, 1) := by decide +kernel
theorem dX2_write_24 : decode cX2_write 24 = .ok (.imul, 1) := by decide +kernel
theorem dX2_write_25 : decode cX2_write 25 = .ok (.isub, 1) := by decide +kernel
theorem dX2_write_26 : decode cX2_write 26 = .ok (.iushr, 1) := by decide +kernel
theorem dX2_write_27 : decode cX2_write 27 = .ok (.i2b, 1) := by decide +kernel
theorem dX2_write_28 : decode cX2_write 28 = .ok (.bastore, 1) := by decide +kernel
theorem dX2_write_29 : decode cX2_write 29 = .ok (.iinc 3 1, 3) := by decide +kernel
theorem dX2_write_32 : decode cX2_write 32 = .ok (.goto (-30), 3) := by decide +kernel
theorem dX2_write_35 : decode cX2_write 35 = .ok (.return_, 1) := by decide +kernel
theorem dX2_put_0 : decode cX2_put 0 = .ok (.aload_n 0, 1) := by decide +kernel
theorem dX2_put_1 : decode cX2_put 1 = .ok (.getfield 15, 3) := by decide +kernel
theorem dX2_put_4 : decode cX2_put 4 = .ok (.aload_n 0, 1) := by decide +kernel
theorem dX2_put_5 : decode cX2_put 5 = .ok (.getfield 24, 3) := by decide +kernel
theorem dX2_put_8 : decode cX2_put 8 = .ok (.iconst 4, 1) := by decide +kernel
theorem dX2_put_9 : decode cX2_put 9 = .ok (.idiv, 1) := by decide +kernel
theorem dX2_put_10 : decode cX2_put 10 = .ok (.aload_n 0, 1) := by decide +kernel
theorem dX2_put_11 : decode cX2_put 11 = .ok (.getfield 15, 3) := by decide +kernel
theorem dX2_put_14 : decode cX2_put 14 = .ok (.aload_n 0, 1) := by decide +kernel
theorem dX2_put_15 : decode cX2_put 15 = .ok (.getfield 24, 3) := by decide +kernel
theorem dX2_put_18 : decode cX2_put 18 = .ok (.iconst 4, 1) := by decide +kernel
theorem dX2_put_19 : decode cX2_put 19 = .ok (.idiv, 1) := by decide +kernel
theorem dX2_put_20 : decode cX2_put 20 = .ok (.iaload, 1) := by decide +kernel
theorem dX2_put_21 : decode cX2_put 21 = .ok (.bipush 8, 2) := by decide +kernel
theorem dX2_put_23 : decode cX2_put 23 = .ok (.ishl, 1) := by decide +kernel
theorem dX2_put_24 : decode cX2_put 24 = .ok (.iload_n 1, 1) := by decide +kernel
theorem dX2_put_25 : decode cX2_put 25 = .ok (.sipush 255, 3) := by decide +kernel
theorem dX2_put_28 : decode cX2_put 28 = .ok (.iand, 1) := by decide +kernel
theorem dX2_put_29 : decode cX2_put 29 = .ok (.ior, 1) := by decide +kernel
theorem dX2_put_30 : decode cX2_put 30 = .ok (.iastore, 1) := by decide +kernel
theorem dX2_put_31 : decode cX2_put 31 = .ok (.aload_n 0, 1) := by decide +kernel
theorem dX2_put_32 : decode cX2_put 32 = .ok (.dup, 1) := by decide +kernel
theorem dX2_put_33 : decode cX2_put 33 = .ok (.getfield 24, 3) := by decide +kernel
theorem dX2_put_36 : decode cX2_put 36 = .ok (.iconst 1, 1) := by decide +kernel
theorem dX2_put_37 : decode cX2_put 37 = .ok (.iadd, 1) := by decide +kernel
theorem dX2_put_38 : decode cX2_put 38 = .ok (.putfield 24, 3) := by decide +kernel
theorem dX2_put_41 : decode cX2_put 41 = .ok (.aload_n 0, 1) := by decide +kernel
theorem dX2_put_42 : decode cX2_put 42 = .ok (.getfield 24, 3) := by decide +kernel
theorem dX2_put_45 : decode cX2_put 45 = .ok (.bipush 64, 2) := by decide +kernel
theorem dX2_put_47 : decode cX2_put 47 = .ok (.if_icmp .ne 22, 3) := by decide +kernel
theorem dX2_put_50 : decode cX2_put 50 = .ok (.aload_n 0, 1) := by decide +kernel
theorem dX2_put_51 : decode cX2_put 51 = .ok (.iconst 0, 1) := by decide +kernel
theorem dX2_put_52 : decode cX2_put 52 = .ok (.putfield 24, 3) := by decide +kernel
theorem dX2_put_55 : decode cX2_put 55 = .ok (.aload_n 0, 1) := by decide +kernel
theorem dX2_put_56 : decode cX2_put 56 = .ok (.dup, 1) := by decide +kernel
theorem dX2_put_57 : decode cX2_put 57 = .ok (.getfield 31, 3) := by decide +kernel
theorem dX2_put_60 : decode cX2_put 60 = .ok (.iconst 1, 1) := by decide +kernel
theorem dX2_put_61 : decode cX2_put 61 = .ok (.iadd, 1) := by decide +kernel
theorem dX2_put_62 : decode cX2_put 62 = .ok (.putfield 31, 3) := by decide +kernel
theorem dX2_put_65 : decode cX2_put 65 = .ok (.aload_n 0, 1) := by decide +kernel
theorem dX2_put_66 : decode cX2_put 66 = .ok (.invokevirtual 40, 3) := by decide +kernel
theorem dX2_put_69 : decode cX2_put 69 = .ok (.return_, 1) := by decide +kernel
theorem dX2_work_0 : decode cX2_work 0 = .ok (.aload_n 0, 1) := by decide +kernel
theorem dX2_work_1 : decode cX2_work 1 = .ok (.getfield 15, 3) := by decide +kernel
theorem dX2_work_4 : decode cX2_work 4 = .ok (.invokestatic 43, 3) := by decide +kernel
theorem dX2_work_7 : decode cX2_work 7 = .ok (.aload_n 0, 1) := by decide +kernel
theorem dX2_work_8 : decode cX2_work 8 = .ok (.getfield 9, 3) := by decide +kernel
theorem dX2_work_11 : decode cX2_work 11 = .ok (.iconst 0, 1) := by decide +kernel
theorem dX2_work_12 : decode cX2_work 12 = .ok (.iaload, 1) := by decide +kernel
theorem dX2_work_13 : decode cX2_work 13 = .ok (.istore_n 1, 1) := by decide +kernel
theorem dX2_work_14 : decode cX2_work 14 = .ok (.aload_n 0, 1) := by decide +kernel
theorem dX2_work_15 : decode cX2_work 15 = .ok (.getfield 9, 3) := by decide +kernel
theorem dX2_work_18 : decode cX2_work 18 = .ok (.iconst 1, 1) := by decide +kernel
theorem dX2_work_19 : decode cX2_work 19 = .ok (.iaload, 1) := by decide +kernel
theorem dX2_work_20 : decode cX2_work 20 = .ok (.istore_n 2, 1) := by decide +kernel
theorem dX2_work_21 : decode cX2_work 21 = .ok (.aload_n 0, 1) := by decide +kernel
theorem dX2_work_22 : decode cX2_work 22 = .ok (.getfield 9, 3) := by decide +kernel
theorem dX2_work_25 : decode cX2_work 25 = .ok (.iconst 2, 1) := by decide +kernel
theorem dX2_work_26 : decode cX2_work 26 = .ok (.iaload, 1) := by decide +kernel
theorem dX2_work_27 : decode cX2_work 27 = .ok (.istore_n 3, 1) := by decide +kernel
theorem dX2_work_28 : decode cX2_work 28 = .ok (.aload_n 0, 1) := by decide +kernel
theorem dX2_work_29 : decode cX2_work 29 = .ok (.getfield 9, 3) := by decide +kernel
theorem dX2_work_32 : decode cX2_work 32 = .ok (.iconst 3, 1) := by decide +kernel
theorem dX2_work_33 : decode cX2_work 33 = .ok (.iaload, 1) := by decide +kernel
theorem dX2_work_34 : decode cX2_work 34 = .ok (.istore 4, 2) := by decide +kernel
theorem dX2_work_36 : decode cX2_work 36 = .ok (.aload_n 0, 1) := by decide +kernel
theorem dX2_work_37 : decode cX2_work 37 = .ok (.getfield 9, 3) := by decide +kernel
theorem dX2_work_40 : decode cX2_work 40 = .ok (.iconst 4, 1) := by decide +kernel
theorem dX2_work_41 : decode cX2_work 41 = .ok (.iaload, 1) := by decide +kernel
theorem dX2_work_42 : decode cX2_work 42 = .ok (.istore 5, 2) := by decide +kernel
theorem dX2_work_44 : decode cX2_work 44 = .ok (.aload_n 0, 1) := by decide +kernel
theorem dX2_work_45 : decode cX2_work 45 = .ok (.getfield 9, 3) := by decide +kernel
theorem dX2_work_48 : decode cX2_work 48 = .ok (.iconst 5, 1) := by decide +kernel
theorem dX2_work_49 : decode cX2_work 49 = .ok (.iaload, 1) := by decide +kernel
theorem dX2_work_50 : decode cX2_work 50 = .ok (.istore 6, 2) := by decide +kernel
theorem dX2_work_52 : decode cX2_work 52 = .ok (.aload_n 0, 1) := by decide +kernel
theorem dX2_work_53 : decode cX2_work 53 = .ok (.getfield 9, 3) := by decide +kernel
theorem dX2_work_56 : decode cX2_work 56 = .ok (.bipush 6, 2) := by decide +kernel
theorem dX2_work_58 : decode cX2_work 58 = .ok (.iaload, 1) := by decide +kernel
theorem dX2_work_59 : decode cX2_work 59 = .ok (.istore 7, 2) := by decide +kernel
theorem dX2_work_61 : decode cX2_work 61 = .ok (.aload_n 0, 1) := by decide +kernel
theorem dX2_work_62 : decode cX2_work 62 = .ok (.getfield 9, 3) := by decide +kernel
theorem dX2_work_65 : decode cX2_work 65 = .ok (.bipush 7, 2) := by decide +kernel
theorem dX2_work_67 : decode cX2_work 67 = .ok (.iaload, 1) := by decide +kernel
theorem dX2_work_68 : decode cX2_work 68 = .ok (.istore 8, 2) := by decide +kernel
theorem dX2_work_70 : decode cX2_work 70 = .ok (.iconst 0, 1) := by decide +kernel
theorem dX2_work_71 : decode cX2_work 71 = .ok (.istore 9, 2) := by decide +kernel
theorem dX2_work_73 : decode cX2_work 73 = .ok (.iload 9, 2) := by decide +kernel
theorem dX2_work_75 : decode cX2_work 75 = .ok (.bipush 64, 2) := by decide +kernel
theorem dX2_work_77 : decode cX2_work 77 = .ok (.if_icmp .ge 131, 3) := by decide +kernel
theorem dX2_work_80 : decode cX2_work 80 = .ok (.iload 8, 2) := by decide +kernel
theorem dX2_work_82 : decode cX2_work 82 = .ok (.iload 5, 2) := by decide +kernel
theorem dX2_work_84 : decode cX2_work 84 = .ok (.bipush 6, 2) := by decide +kernel
theorem dX2_work_86 : decode cX2_work 86 = .ok (.invokestatic 47, 3) := by decide +kernel
theorem dX2_work_89 : decode cX2_work 89 = .ok (.iload 5, 2) := by decide +kernel
theorem dX2_work_91 : decode cX2_work 91 = .ok (.bipush 11, 2) := by decide +kernel
theorem dX2_work_93 : decode cX2_work 93 = .ok (.invokestatic 47, 3) := by decide +kernel
theorem dX2_work_96 : decode cX2_work 96 = .ok (.ixor, 1) := by decide +kernel
theorem dX2_work_97 : decode cX2_work 97 = .ok (.iload 5, 2) := by decide +kernel
theorem dX2_work_99 : decode cX2_work 99 = .ok (.bipush 25, 2) := by decide +kernel
theorem dX2_work_101 : decode cX2_work 101 = .ok (.invokestatic 47, 3) := by decide +kernel
theorem dX2_work_104 : decode cX2_work 104 = .ok (.ixor, 1) := by decide +kernel
theorem dX2_work_105 : decode cX2_work 105 = .ok (.iadd, 1) := by decide +kernel
theorem dX2_work_106 : decode cX2_work 106 = .ok (.iload 5, 2) := by decide +kernel
theorem dX2_work_108 : decode cX2_work 108 = .ok (.iload 6, 2) := by decide +kernel
theorem dX2_work_110 : decode cX2_work 110 = .ok (.iand, 1) := by decide +kernel
theorem dX2_work_111 : decode cX2_work 111 = .ok (.iload 5, 2) := by decide +kernel
theorem dX2_work_113 : decode cX2_work 113 = .ok (.iconst (-1), 1) := by decide +kernel
theorem dX2_work_114 : decode cX2_work 114 = .ok (.ixor, 1) := by decide +kernel
theorem dX2_work_115 : decode cX2_work 115 = .ok (.iload 7, 2) := by decide +kernel
theorem dX2_work_117 : decode cX2_work 117 = .ok (.iand, 1) := by decide +kernel
theorem dX2_work_118 : decode cX2_work 118 = .ok (.ixor, 1) := by decide +kernel
theorem dX2_work_119 : decode cX2_work 119 = .ok (.iadd, 1) := by decide +kernel
theorem dX2_work_120 : decode cX2_work 120 = .ok (.getstatic 53, 3) := by decide +kernel
theorem dX2_work_123 : decode cX2_work 123 = .ok (.iload 9, 2) := by decide +kernel
theorem dX2_work_125 : decode cX2_work 125 = .ok (.iaload, 1) := by decide +kernel
theorem dX2_work_126 : decode cX2_work 126 = .ok (.iadd, 1) := by decide +kernel
theorem dX2_work_127 : decode cX2_work 127 = .ok (.aload_n 0, 1) := by decide +kernel
theorem dX2_work_128 : decode cX2_work 128 = .ok (.getfield 15, 3) := by decide +kernel
theorem dX2_work_131 : decode cX2_work 131 = .ok (.iload 9, 2) := by decide +kernel
theorem dX2_work_133 : decode cX2_work 133 = .ok (.iaload, 1) := by decide +kernel
theorem dX2_work_134 : decode cX2_work 134 = .ok (.iadd, 1) := by decide +kernel
theorem dX2_work_135 : decode cX2_work 135 = .ok (.istore 10, 2) := by decide +kernel
theorem dX2_work_137 : decode cX2_work 137 = .ok (.iload_n 1, 1) := by decide +kernel
theorem dX2_work_138 : decode cX2_work 138 = .ok (.iconst 2, 1) := by decide +kernel
theorem dX2_work_139 : decode cX2_work 139 = .ok (.invokestatic 47, 3) := by decide +kernel
theorem dX2_work_142 : decode cX2_work 142 = .ok (.iload_n 1, 1) := by decide +kernel
theorem dX2_work_143 : decode cX2_work 143 = .ok (.bipush 13, 2) := by decide +kernel
theorem dX2_work_145 : decode cX2_work 145 = .ok (.invokestatic 47, 3) := by decide +kernel
theorem dX2_work_148 : decode cX2_work 148 = .ok (.ixor, 1) := by decide +kernel
theorem dX2_work_149 : decode cX2_work 149 = .ok (.iload_n 1, 1) := by decide +kernel
theorem dX2_work_150 : decode cX2_work 150 = .ok (.bipush 22, 2) := by decide +kernel
theorem dX2_work_152 : decode cX2_work 152 = .ok (.invokestatic 47, 3) := by decide +kernel
theorem dX2_work_155 : decode cX2_work 155 = .ok (.ixor, 1) := by decide +kernel
theorem dX2_work_156 : decode cX2_work 156 = .ok (.iload_n 1, 1) := by decide +kernel
theorem dX2_work_157 : decode cX2_work 157 = .ok (.iload_n 2, 1) := by decide +kernel
theorem dX2_work_158 : decode cX2_work 158 = .ok (.iand, 1) := by decide +kernel
theorem dX2_work_159 : decode cX2_work 159 = .ok (.iload_n 1, 1) := by decide +kernel
theorem dX2_work_160 : decode cX2_work 160 = .ok (.iload_n 3, 1) := by decide +kernel
theorem dX2_work_161 : decode cX2_work 161 = .ok (.iand, 1) := by decide +kernel
theorem dX2_work_162 : decode cX2_work 162 = .ok (.ixor, 1) := by decide +kernel
theorem dX2_work_163 : decode cX2_work 163 = .ok (.iload_n 2, 1) := by decide +kernel
theorem dX2_work_164 : decode cX2_work 164 = .ok (.iload_n 3, 1) := by decide +kernel
theorem dX2_work_165 : decode cX2_work 165 = .ok (.iand, 1) := by decide +kernel
theorem dX2_work_166 : decode cX2_work 166 = .ok (.ixor, 1) := by decide +kernel
theorem dX2_work_167 : decode cX2_work 167 = .ok (.iadd, 1) := by decide +kernel
theorem dX2_work_168 : decode cX2_work 168 = .ok (.istore 11, 2) := by decide +kernel
theorem dX2_work_170 : decode cX2_work 170 = .ok (.iload 7, 2) := by decide +kernel
theorem dX2_work_172 : decode cX2_work 172 = .ok (.istore 8, 2) := by decide +kernel
theorem dX2_work_174 : decode cX2_work 174 = .ok (.iload 6, 2) := by decide +kernel
theorem dX2_work_176 : decode cX2_work 176 = .ok (.istore 7, 2) := by decide +kernel
theorem dX2_work_178 : decode cX2_work 178 = .ok (.iload 5, 2) := by decide +kernel
theorem dX2_work_180 : decode cX2_work 180 = .ok (.istore 6, 2) := by decide +kernel
theorem dX2_work_182 : decode cX2_work 182 = .ok (.iload 4, 2) := by decide +kernel
theorem dX2_work_184 : decode cX2_work 184 = .ok (.iload 10, 2) := by decide +kernel
theorem dX2_work_186 : decode cX2_work 186 = .ok (.iadd, 1) := by decide +kernel
theorem dX2_work_187 : decode cX2_work 187 = .ok (.istore 5, 2) := by decide +kernel
theorem dX2_work_189 : decode cX2_work 189 = .ok (.iload_n 3, 1) := by decide +kernel
theorem dX2_work_190 : decode cX2_work 190 = .ok (.istore 4, 2) := by decide +kernel
theorem dX2_work_192 : decode cX2_work 192 = .ok (.iload_n 2, 1) := by decide +kernel
theorem dX2_work_193 : decode cX2_work 193 = .ok (.istore_n 3, 1) := by decide +kernel
theorem dX2_work_194 : decode cX2_work 194 = .ok (.iload_n 1, 1) := by decide +kernel
theorem dX2_work_195 : decode cX2_work 195 = .ok (.istore_n 2, 1) := by decide +kernel
theorem dX2_work_196 : decode cX2_work 196 = .ok (.iload 10, 2) := by decide +kernel
theorem dX2_work_198 : decode cX2_work 198 = .ok (.iload 11, 2) := by decide +kernel
theorem dX2_work_200 : decode cX2_work 200 = .ok (.iadd, 1) := by decide +kernel
theorem dX2_work_201 : decode cX2_work 201 = .ok (.istore_n 1, 1) := by decide +kernel
theorem dX2_work_202 : decode cX2_work 202 = .ok (.iinc 9 1, 3) := by decide +kernel
theorem dX2_work_205 : decode cX2_work 205 = .ok (.goto (-132), 3) := by decide +kernel
theorem dX2_work_208 : decode cX2_work 208 = .ok (.aload_n 0, 1) := by decide +kernel
theorem dX2_work_209 : decode cX2_work 209 = .ok (.getfield 9, 3) := by decide +kernel
theorem dX2_work_212 : decode cX2_work 212 = .ok (.iconst 0, 1) := by decide +kernel
theorem dX2_work_213 : decode cX2_work 213 = .ok (.dup2, 1) := by decide +kernel
theorem dX2_work_214 : decode cX2_work 214 = .ok (.iaload, 1) := by decide +kernel
theorem dX2_work_215 : decode cX2_work 215 = .ok (.iload_n 1, 1) := by decide +kernel
theorem dX2_work_216 : decode cX2_work 216 = .ok (.iadd, 1) := by decide +kernel
theorem dX2_work_217 : decode cX2_work 217 = .ok (.iastore, 1) := by decide +kernel
theorem dX2_work_218 : decode cX2_work 218 = .ok (.aload_n 0, 1) := by decide +kernel
theorem dX2_work_219 : decode cX2_work 219 = .ok (.getfield 9, 3) := by decide +kernel
theorem dX2_work_222 : decode cX2_work 222 = .ok (.iconst 1, 1) := by decide +kernel
theorem dX2_work_223 : decode cX2_work 223 = .ok (.dup2, 1) := by decide +kernel
theorem dX2_work_224 : decode cX2_work 224 = .ok (.iaload, 1) := by decide +kernel
theorem dX2_work_225 : decode cX2_work 225 = .ok (.iload_n 2, 1) := by decide +kernel
theorem dX2_work_226 : decode cX2_work 226 = .ok (.iadd, 1) := by decide +kernel
theorem dX2_work_227 : decode cX2_work 227 = .ok (.iastore, 1) := by decide +kernel
theorem dX2_work_228 : decode cX2_work 228 = .ok (.aload_n 0, 1) := by decide +kernel
theorem dX2_work_229 : decode cX2_work 229 = .ok (.getfield 9, 3) := by decide +kernel
theorem dX2_work_232 : decode cX2_work 232 = .ok (.iconst 2, 1) := by decide +kernel
theorem dX2_work_233 : decode cX2_work 233 = .ok (.dup2, 1) := by decide +kernel
theorem dX2_work_234 : decode cX2_work 234 = .ok (.iaload, 1) := by decide +kernel
theorem dX2_work_235 : decode cX2_work 235 = .ok (.iload_n 3, 1) := by decide +kernel
theorem dX2_work_236 : decode cX2_work 236 = .ok (.iadd, 1) := by decide +kernel
theorem dX2_work_237 : decode cX2_work 237 = .ok (.iastore, 1) := by decide +kernel
theorem dX2_work_238 : decode cX2_work 238 = .ok (.aload_n 0, 1) := by decide +kernel
theorem dX2_work_239 : decode cX2_work 239 = .ok (.getfield 9, 3) := by decide +kernel
theorem dX2_work_242 : decode cX2_work 242 = .ok (.iconst 3, 1) := by decide +kernel
theorem dX2_work_243 : decode cX2_work 243 = .ok (.dup2, 1) := by decide +kernel
theorem dX2_work_244 : decode cX2_work 244 = .ok (.iaload, 1) := by decide +kernel
theorem dX2_work_245 : decode cX2_work 245 = .ok (.iload 4, 2) := by decide +kernel
theorem dX2_work_247 : decode cX2_work 247 = .ok (.iadd, 1) := by decide +kernel
theorem dX2_work_248 : decode cX2_work 248 = .ok (.iastore, 1) := by decide +kernel
theorem dX2_work_249 : decode cX2_work 249 = .ok (.aload_n 0, 1) := by decide +kernel
theorem dX2_work_250 : decode cX2_work 250 = .ok (.getfield 9, 3) := by decide +kernel
theorem dX2_work_253 : decode cX2_work 253 = .ok (.iconst 4, 1) := by decide +kernel
theorem dX2_work_254 : decode cX2_work 254 = .ok (.dup2, 1) := by decide +kernel
theorem dX2_work_255 : decode cX2_work 255 = .ok (.iaload, 1) := by decide +kernel
theorem dX2_work_256 : decode cX2_work 256 = .ok (.iload 5, 2) := by decide +kernel
theorem dX2_work_258 : decode cX2_work 258 = .ok (.iadd, 1) := by decide +kernel
theorem dX2_work_259 : decode cX2_work 259 = .ok (.iastore, 1) := by decide +kernel
theorem dX2_work_260 : decode cX2_work 260 = .ok (.aload_n 0, 1) := by decide +kernel
theorem dX2_work_261 : decode cX2_work 261 = .ok (.getfield 9, 3) := by decide +kernel
theorem dX2_work_264 : decode cX2_work 264 = .ok (.iconst 5, 1) := by decide +kernel
theorem dX2_work_265 : decode cX2_work 265 = .ok (.dup2, 1) := by decide +kernel
theorem dX2_work_266 : decode cX2_work 266 = .ok (.iaload, 1) := by decide +kernel
theorem dX2_work_267 : decode cX2_work 267 = .ok (.iload 6, 2) := by decide +kernel
theorem dX2_work_269 : decode cX2_work 269 = .ok (.iadd, 1) := by decide +kernel
theorem dX2_work_270 : decode cX2_work 270 = .ok (.iastore, 1) := by decide +kernel
theorem dX2_work_271 : decode cX2_work 271 = .ok (.aload_n 0, 1) := by decide +kernel
theorem dX2_work_272 : decode cX2_work 272 = .ok (.getfield 9, 3) := by decide +kernel
theorem dX2_work_275 : decode cX2_work 275 = .ok (.bipush 6, 2) := by decide +kernel
theorem dX2_work_277 : decode cX2_work 277 = .ok (.dup2, 1) := by decide +kernel
theorem dX2_work_278 : decode cX2_work 278 = .ok (.iaload, 1) := by decide +kernel
theorem dX2_work_279 : decode cX2_work 279 = .ok (.iload 7, 2) := by decide +kernel
theorem dX2_work_281 : decode cX2_work 281 = .ok (.iadd, 1) := by decide +kernel
theorem dX2_work_282 : decode cX2_work 282 = .ok (.iastore, 1) := by decide +kernel
theorem dX2_work_283 : decode cX2_work 283 = .ok (.aload_n 0, 1) := by decide +kernel
theorem dX2_work_284 : decode cX2_work 284 = .ok (.getfield 9, 3) := by decide +kernel
theorem dX2_work_287 : decode cX2_work 287 = .ok (.bipush 7, 2) := by decide +kernel
theorem dX2_work_289 : decode cX2_work 289 = .ok (.dup2, 1) := by decide +kernel
theorem dX2_work_290 : decode cX2_work 290 = .ok (.iaload, 1) := by decide +kernel
theorem dX2_work_291 : decode cX2_work 291 = .ok (.iload 8, 2) := by decide +kernel
theorem dX2_work_293 : decode cX2_work 293 = .ok (.iadd, 1) := by decide +kernel
theorem dX2_work_294 : decode cX2_work 294 = .ok (.iastore, 1) := by decide +kernel
theorem dX2_work_295 : decode cX2_work 295 = .ok (.return_, 1) := by decide +kernel
theorem dX3_init_0 : decode cX3_init 0 = .ok (.aload_n 0, 1) := by decide +kernel
theorem dX3_init_1 : decode cX3_init 1 = .ok (.invokespecial 3, 3) := by decide +kernel
theorem dX3_init_4 : decode cX3_init 4 = .ok (.aload_n 0, 1) := by decide +kernel
theorem dX3_init_5 : decode cX3_init 5 = .ok (.iconst 4, 1) := by decide +kernel
theorem dX3_init_6 : decode cX3_init 6 = .ok (.bipush 32, 2) := by decide +kernel
theorem dX3_init_8 : decode cX3_init 8 = .ok (.multianewarray 9 2, 4) := by decide +kernel
theorem dX3_init_12 : decode cX3_init 12 = .ok (.putfield 11, 3) := by decide +kernel
theorem dX3_init_15 : decode cX3_init 15 = .ok (.return_, 1) := by decide +kernel
theorem dX3_due_0 : decode cX3_due 0 = .ok (.iconst 0, 1) := by decide +kernel
theorem dX3_due_1 : decode cX3_due 1 = .ok (.istore_n 2, 1) := by decide +kernel
theorem dX3_due_2 : decode cX3_due 2 = .ok (.iload_n 1, 1) := by decide +kernel
theorem dX3_due_3 : decode cX3_due 3 = .ok (.istore_n 3, 1) := by decide +kernel
theorem dX3_due_4 : decode cX3_due 4 = .ok (.iload_n 0, 1) := by decide +kernel
theorem dX3_due_5 : decode cX3_due 5 = .ok (.istore 4, 2) := by decide +kernel
theorem dX3_due_7 : decode cX3_due 7 = .ok (.iload 4, 2) := by decide +kernel
theorem dX3_due_9 : decode cX3_due 9 = .ok (.iconst 1, 1) := by decide +kernel
theorem dX3_due_10 : decode cX3_due 10 = .ok (.if_icmp .le 29, 3) := by decide +kernel
theorem dX3_due_13 : decode cX3_due 13 = .ok (.iload_n 3, 1) := by decide +kernel
theorem dX3_due_14 : decode cX3_due 14 = .ok (.iconst 1, 1) := by decide +kernel
theorem dX3_due_15 : decode cX3_due 15 = .ok (.ixor, 1) := by decide +kernel
theorem dX3_due_16 : decode cX3_due 16 = .ok (.iload 4, 2) := by decide +kernel
theorem dX3_due_18 : decode cX3_due 18 = .ok (.if_icmp .ge 6, 3) := by decide +kernel
theorem dX3_due_21 : decode cX3_due 21 = .ok (.iinc 2 1, 3) := by decide +kernel
theorem dX3_due_24 : decode cX3_due 24 = .ok (.iload_n 3, 1) := by decide +kernel
theorem dX3_due_25 : decode cX3_due 25 = .ok (.iconst 2, 1) := by decide +kernel
theorem dX3_due_26 : decode cX3_due 26 = .ok (.idiv, 1) := by decide +kernel
theorem dX3_due_27 : decode cX3_due 27 = .ok (.istore_n 3, 1) := by decide +kernel
theorem dX3_due_28 : decode cX3_due 28 = .ok (.iload 4, 2) := by decide +kernel
theorem dX3_due_30 : decode cX3_due 30 = .ok (.iconst 1, 1) := by decide +kernel
theorem dX3_due_31 : decode cX3_due 31 = .ok (.iadd, 1) := by decide +kernel
theorem dX3_due_32 : decode cX3_due 32 = .ok (.iconst 2, 1) := by decide +kernel
theorem dX3_due_33 : decode cX3_due 33 = .ok (.idiv, 1) := by decide +kernel
theorem dX3_due_34 : decode cX3_due 34 = .ok (.istore 4, 2) := by decide +kernel
theorem dX3_due_36 : decode cX3_due 36 = .ok (.goto (-29), 3) := by decide +kernel
theorem dX3_due_39 : decode cX3_due 39 = .ok (.iload_n 2, 1) := by decide +kernel
theorem dX3_due_40 : decode cX3_due 40 = .ok (.ireturn, 1) := by decide +kernel
theorem dX3_gather_0 : decode cX3_gather 0 = .ok (.aload_n 0, 1) := by decide +kernel
theorem dX3_gather_1 : decode cX3_gather 1 = .ok (.iconst 0, 1) := by decide +kernel
theorem dX3_gather_2 : decode cX3_gather 2 = .ok (.putfield 16, 3) := by decide +kernel
theorem dX3_gather_5 : decode cX3_gather 5 = .ok (.iconst 0, 1) := by decide +kernel
theorem dX3_gather_6 : decode cX3_gather 6 = .ok (.istore_n 3, 1) := by decide +kernel
theorem dX3_gather_7 : decode cX3_gather 7 = .ok (.iload_n 2, 1) := by decide +kernel
theorem dX3_gather_8 : decode cX3_gather 8 = .ok (.istore 4, 2) := by decide +kernel
theorem dX3_gather_10 : decode cX3_gather 10 = .ok (.aload_n 1, 1) := by decide +kernel
theorem dX3_gather_11 : decode cX3_gather 11 = .ok (.getfield 20, 3) := by decide +kernel
theorem dX3_gather_14 : decode cX3_gather 14 = .ok (.istore 5, 2) := by decide +kernel
theorem dX3_gather_16 : decode cX3_gather 16 = .ok (.iload 5, 2) := by decide +kernel
theorem dX3_gather_18 : decode cX3_gather 18 = .ok (.iconst 1, 1) := by decide +kernel
theorem dX3_gather_19 : decode cX3_gather 19 = .ok (.if_icmp .le 73, 3) := by decide +kernel
theorem dX3_gather_22 : decode cX3_gather 22 = .ok (.iload 4, 2) := by decide +kernel
theorem dX3_gather_24 : decode cX3_gather 24 = .ok (.iconst 1, 1) := by decide +kernel
theorem dX3_gather_25 : decode cX3_gather 25 = .ok (.ixor, 1) := by decide +kernel
theorem dX3_gather_26 : decode cX3_gather 26 = .ok (.istore 6, 2) := by decide +kernel
theorem dX3_gather_28 : decode cX3_gather 28 = .ok (.iload 6, 2) := by decide +kernel
theorem dX3_gather_30 : decode cX3_gather 30 = .ok (.iload 5, 2) := by decide +kernel
theorem dX3_gather_32 : decode cX3_gather 32 = .ok (.if_icmp .ge 38, 3) := by decide +kernel
theorem dX3_gather_35 : decode cX3_gather 35 = .ok (.aload_n 1, 1) := by decide +kernel
theorem dX3_gather_36 : decode cX3_gather 36 = .ok (.getfield 23, 3) := by decide +kernel
theorem dX3_gather_39 : decode cX3_gather 39 = .ok (.iload_n 3, 1) := by decide +kernel
theorem dX3_gather_40 : decode cX3_gather 40 = .ok (.iload 6, 2) := by decide +kernel
theorem dX3_gather_42 : decode cX3_gather 42 = .ok (.iadd, 1) := by decide +kernel
theorem dX3_gather_43 : decode cX3_gather 43 = .ok (.aaload, 1) := by decide +kernel
theorem dX3_gather_44 : decode cX3_gather 44 = .ok (.iconst 0, 1) := by decide +kernel
theorem dX3_gather_45 : decode cX3_gather 45 = .ok (.aload_n 0, 1) := by decide +kernel
theorem dX3_gather_46 : decode cX3_gather 46 = .ok (.getfield 11, 3) := by decide +kernel
theorem dX3_gather_49 : decode cX3_gather 49 = .ok (.aload_n 0, 1) := by decide +kernel
theorem dX3_gather_50 : decode cX3_gather 50 = .ok (.getfield 16, 3) := by decide +kernel
theorem dX3_gather_53 : decode cX3_gather 53 = .ok (.aaload, 1) := by decide +kernel
theorem dX3_gather_54 : decode cX3_gather 54 = .ok (.iconst 0, 1) := by decide +kernel
theorem dX3_gather_55 : decode cX3_gather 55 = .ok (.bipush 32, 2) := by decide +kernel
theorem dX3_gather_57 : decode cX3_gather 57 = .ok (.invokestatic 26, 3) := by decide +kernel
theorem dX3_gather_60 : decode cX3_gather 60 = .ok (.aload_n 0, 1) := by decide +kernel
theorem dX3_gather_61 : decode cX3_gather 61 = .ok (.dup, 1) := by decide +kernel
theorem dX3_gather_62 : decode cX3_gather 62 = .ok (.getfield 16, 3) := by decide +kernel
theorem dX3_gather_65 : decode cX3_gather 65 = .ok (.iconst 1, 1) := by decide +kernel
theorem dX3_gather_66 : decode cX3_gather 66 = .ok (.iadd, 1) := by decide +kernel
theorem dX3_gather_67 : decode cX3_gather 67 = .ok (.putfield 16, 3) := by decide +kernel
theorem dX3_gather_70 : decode cX3_gather 70 = .ok (.iload_n 3, 1) := by decide +kernel
theorem dX3_gather_71 : decode cX3_gather 71 = .ok (.iload 5, 2) := by decide +kernel
theorem dX3_gather_73 : decode cX3_gather 73 = .ok (.iadd, 1) := by decide +kernel
theorem dX3_gather_74 : decode cX3_gather 74 = .ok (.istore_n 3, 1) := by decide +kernel
theorem dX3_gather_75 : decode cX3_gather 75 = .ok (.iload 4, 2) := by decide +kernel
theorem dX3_gather_77 : decode cX3_gather 77 = .ok (.iconst 2, 1) := by decide +kernel
theorem dX3_gather_78 : decode cX3_gather 78 = .ok (.idiv, 1) := by decide +kernel
theorem dX3_gather_79 : decode cX3_gather 79 = .ok (.istore 4, 2) := by decide +kernel
theorem dX3_gather_81 : decode cX3_gather 81 = .ok (.iload 5, 2) := by decide +kernel
theorem dX3_gather_83 : decode cX3_gather 83 = .ok (.iconst 1, 1) := by decide +kernel
theorem dX3_gather_84 : decode cX3_gather 84 = .ok (.iadd, 1) := by decide +kernel
theorem dX3_gather_85 : decode cX3_gather 85 = .ok (.iconst 2, 1) := by decide +kernel
theorem dX3_gather_86 : decode cX3_gather 86 = .ok (.idiv, 1) := by decide +kernel
theorem dX3_gather_87 : decode cX3_gather 87 = .ok (.istore 5, 2) := by decide +kernel
theorem dX3_gather_89 : decode cX3_gather 89 = .ok (.goto (-73), 3) := by decide +kernel
theorem dX3_gather_92 : decode cX3_gather 92 = .ok (.return_, 1) := by decide +kernel
theorem dX3_follow_0 : decode cX3_follow 0 = .ok (.iconst 0, 1) := by decide +kernel
theorem dX3_follow_1 : decode cX3_follow 1 = .ok (.istore 5, 2) := by decide +kernel
theorem dX3_follow_3 : decode cX3_follow 3 = .ok (.iload_n 3, 1) := by decide +kernel
theorem dX3_follow_4 : decode cX3_follow 4 = .ok (.istore 6, 2) := by decide +kernel
theorem dX3_follow_6 : decode cX3_follow 6 = .ok (.iload_n 2, 1) := by decide +kernel
theorem dX3_follow_7 : decode cX3_follow 7 = .ok (.istore 7, 2) := by decide +kernel
theorem dX3_follow_9 : decode cX3_follow 9 = .ok (.iload 7, 2) := by decide +kernel
theorem dX3_follow_11 : decode cX3_follow 11 = .ok (.iconst 1, 1) := by decide +kernel
theorem dX3_follow_12 : decode cX3_follow 12 = .ok (.if_icmp .le 87, 3) := by decide +kernel
theorem dX3_follow_15 : decode cX3_follow 15 = .ok (.iload 6, 2) := by decide +kernel
theorem dX3_follow_17 : decode cX3_follow 17 = .ok (.iconst 1, 1) := by decide +kernel
theorem dX3_follow_18 : decode cX3_follow 18 = .ok (.ixor, 1) := by decide +kernel
theorem dX3_follow_19 : decode cX3_follow 19 = .ok (.iload 7, 2) := by decide +kernel
theorem dX3_follow_21 : decode cX3_follow 21 = .ok (.if_icmp .ge 61, 3) := by decide +kernel
theorem dX3_follow_24 : decode cX3_follow 24 = .ok (.iload 6, 2) := by decide +kernel
theorem dX3_follow_26 : decode cX3_follow 26 = .ok (.iconst 2, 1) := by decide +kernel
theorem dX3_follow_27 : decode cX3_follow 27 = .ok (.irem, 1) := by decide +kernel
theorem dX3_follow_28 : decode cX3_follow 28 = .ok (.iconst 1, 1) := by decide +kernel
theorem dX3_follow_29 : decode cX3_follow 29 = .ok (.if_icmp .ne 7, 3) := by decide +kernel
theorem dX3_follow_32 : decode cX3_follow 32 = .ok (.iconst 1, 1) := by decide +kernel
theorem dX3_follow_33 : decode cX3_follow 33 = .ok (.goto 4, 3) := by decide +kernel
theorem dX3_follow_36 : decode cX3_follow 36 = .ok (.iconst 0, 1) := by decide +kernel
theorem dX3_follow_37 : decode cX3_follow 37 = .ok (.istore 8, 2) := by decide +kernel
theorem dX3_follow_39 : decode cX3_follow 39 = .ok (.aload_n 1, 1) := by decide +kernel
theorem dX3_follow_40 : decode cX3_follow 40 = .ok (.iload 8, 2) := by decide +kernel
theorem dX3_follow_42 : decode cX3_follow 42 = .ok (.ifCond .eq 13, 3) := by decide +kernel
theorem dX3_follow_45 : decode cX3_follow 45 = .ok (.aload_n 0, 1) := by decide +kernel
theorem dX3_follow_46 : decode cX3_follow 46 = .ok (.getfield 11, 3) := by decide +kernel
theorem dX3_follow_49 : decode cX3_follow 49 = .ok (.iload 5, 2) := by decide +kernel
theorem dX3_follow_51 : decode cX3_follow 51 = .ok (.aaload, 1) := by decide +kernel
theorem dX3_follow_52 : decode cX3_follow 52 = .ok (.goto 5, 3) := by decide +kernel
theorem dX3_follow_55 : decode cX3_follow 55 = .ok (.aload 4, 2) := by decide +kernel
theorem dX3_follow_57 : decode cX3_follow 57 = .ok (.iload 8, 2) := by decide +kernel
theorem dX3_follow_59 : decode cX3_follow 59 = .ok (.ifCond .eq 8, 3) := by decide +kernel
theorem dX3_follow_62 : decode cX3_follow 62 = .ok (.aload 4, 2) := by decide +kernel
theorem dX3_follow_64 : decode cX3_follow 64 = .ok (.goto 10, 3) := by decide +kernel
theorem dX3_follow_67 : decode cX3_follow 67 = .ok (.aload_n 0, 1) := by decide +kernel
theorem dX3_follow_68 : decode cX3_follow 68 = .ok (.getfield 11, 3) := by decide +kernel
theorem dX3_follow_71 : decode cX3_follow 71 = .ok (.iload 5, 2) := by decide +kernel
theorem dX3_follow_73 : decode cX3_follow 73 = .ok (.aaload, 1) := by decide +kernel
theorem dX3_follow_74 : decode cX3_follow 74 = .ok (.aload 4, 2) := by decide +kernel
theorem dX3_follow_76 : decode cX3_follow 76 = .ok (.invokestatic 32, 3) := by decide +kernel
theorem dX3_follow_79 : decode cX3_follow 79 = .ok (.iinc 5 1, 3) := by decide +kernel
theorem dX3_follow_82 : decode cX3_follow 82 = .ok (.iload 6, 2) := by decide +kernel
theorem dX3_follow_84 : decode cX3_follow 84 = .ok (.iconst 2, 1) := by decide +kernel
theorem dX3_follow_85 : decode cX3_follow 85 = .ok (.idiv, 1) := by decide +kernel
theorem dX3_follow_86 : decode cX3_follow 86 = .ok (.istore 6, 2) := by decide +kernel
theorem dX3_follow_88 : decode cX3_follow 88 = .ok (.iload 7, 2) := by decide +kernel
theorem dX3_follow_90 : decode cX3_follow 90 = .ok (.iconst 1, 1) := by decide +kernel
theorem dX3_follow_91 : decode cX3_follow 91 = .ok (.iadd, 1) := by decide +kernel
theorem dX3_follow_92 : decode cX3_follow 92 = .ok (.iconst 2, 1) := by decide +kernel
theorem dX3_follow_93 : decode cX3_follow 93 = .ok (.idiv, 1) := by decide +kernel
theorem dX3_follow_94 : decode cX3_follow 94 = .ok (.istore 7, 2) := by decide +kernel
theorem dX3_follow_96 : decode cX3_follow 96 = .ok (.goto (-87), 3) := by decide +kernel
theorem dX3_follow_99 : decode cX3_follow 99 = .ok (.return_, 1) := by decide +kernel
theorem dX4_init_0 : decode cX4_init 0 = .ok (.aload_n 0, 1) := by decide +kernel
theorem dX4_init_1 : decode cX4_init 1 = .ok (.invokespecial 3, 3) := by decide +kernel
theorem dX4_init_4 : decode cX4_init 4 = .ok (.aload_n 0, 1) := by decide +kernel
theorem dX4_init_5 : decode cX4_init 5 = .ok (.bipush 60, 2) := by decide +kernel
theorem dX4_init_7 : decode cX4_init 7 = .ok (.bipush 32, 2) := by decide +kernel
theorem dX4_init_9 : decode cX4_init 9 = .ok (.multianewarray 9 2, 4) := by decide +kernel
theorem dX4_init_13 : decode cX4_init 13 = .ok (.putfield 11, 3) := by decide +kernel
theorem dX4_init_16 : decode cX4_init 16 = .ok (.aload_n 0, 1) := by decide +kernel
theorem dX4_init_17 : decode cX4_init 17 = .ok (.bipush 60, 2) := by decide +kernel
theorem dX4_init_19 : decode cX4_init 19 = .ok (.bipush 16, 2) := by decide +kernel
theorem dX4_init_21 : decode cX4_init 21 = .ok (.multianewarray 16 2, 4) := by decide +kernel
theorem dX4_init_25 : decode cX4_init 25 = .ok (.putfield 18, 3) := by decide +kernel
theorem dX4_init_28 : decode cX4_init 28 = .ok (.aload_n 0, 1) := by decide +kernel
theorem dX4_init_29 : decode cX4_init 29 = .ok (.bipush 60, 2) := by decide +kernel
theorem dX4_init_31 : decode cX4_init 31 = .ok (.newarray .int, 2) := by decide +kernel
theorem dX4_init_33 : decode cX4_init 33 = .ok (.putfield 21, 3) := by decide +kernel
theorem dX4_init_36 : decode cX4_init 36 = .ok (.aload_n 0, 1) := by decide +kernel
theorem dX4_init_37 : decode cX4_init 37 = .ok (.bipush 60, 2) := by decide +kernel
theorem dX4_init_39 : decode cX4_init 39 = .ok (.newarray .int, 2) := by decide +kernel
theorem dX4_init_41 : decode cX4_init 41 = .ok (.putfield 25, 3) := by decide +kernel
theorem dX4_init_44 : decode cX4_init 44 = .ok (.aload_n 0, 1) := by decide +kernel
theorem dX4_init_45 : decode cX4_init 45 = .ok (.bipush 64, 2) := by decide +kernel
theorem dX4_init_47 : decode cX4_init 47 = .ok (.newarray .int, 2) := by decide +kernel
theorem dX4_init_49 : decode cX4_init 49 = .ok (.putfield 28, 3) := by decide +kernel
theorem dX4_init_52 : decode cX4_init 52 = .ok (.return_, 1) := by decide +kernel
theorem dX4_has_0 : decode cX4_has 0 = .ok (.iload_n 1, 1) := by decide +kernel
theorem dX4_has_1 : decode cX4_has 1 = .ok (.ifCond .lt 15, 3) := by decide +kernel
theorem dX4_has_4 : decode cX4_has 4 = .ok (.iload_n 1, 1) := by decide +kernel
theorem dX4_has_5 : decode cX4_has 5 = .ok (.aload_n 0, 1) := by decide +kernel
theorem dX4_has_6 : decode cX4_has 6 = .ok (.getfield 31, 3) := by decide +kernel
theorem dX4_has_9 : decode cX4_has 9 = .ok (.if_icmp .ge 7, 3) := by decide +kernel
theorem dX4_has_12 : decode cX4_has 12 = .ok (.iconst 1, 1) := by decide +kernel
theorem dX4_has_13 : decode cX4_has 13 = .ok (.goto 4, 3) := by decide +kernel
theorem dX4_has_16 : decode cX4_has 16 = .ok (.iconst 0, 1) := by decide +kernel
theorem dX4_has_17 : decode cX4_has 17 = .ok (.ireturn, 1) := by decide +kernel
theorem dX4_isFull_0 : decode cX4_isFull 0 = .ok (.aload_n 0, 1) := by decide +kernel
theorem dX4_isFull_1 : decode cX4_isFull 1 = .ok (.getfield 31, 3) := by decide +kernel
theorem dX4_isFull_4 : decode cX4_isFull 4 = .ok (.bipush 60, 2) := by decide +kernel
theorem dX4_isFull_6 : decode cX4_isFull 6 = .ok (.if_icmp .lt 7, 3) := by decide +kernel
theorem dX4_isFull_9 : decode cX4_isFull 9 = .ok (.iconst 1, 1) := by decide +kernel
theorem dX4_isFull_10 : decode cX4_isFull 10 = .ok (.goto 4, 3) := by decide +kernel
theorem dX4_isFull_13 : decode cX4_isFull 13 = .ok (.iconst 0, 1) := by decide +kernel
theorem dX4_isFull_14 : decode cX4_isFull 14 = .ok (.ireturn, 1) := by decide +kernel
theorem dX4_add_0 : decode cX4_add 0 = .ok (.aload_n 0, 1) := by decide +kernel
theorem dX4_add_1 : decode cX4_add 1 = .ok (.getfield 31, 3) := by decide +kernel
theorem dX4_add_4 : decode cX4_add 4 = .ok (.istore 4, 2) := by decide +kernel
theorem dX4_add_6 : decode cX4_add 6 = .ok (.aload_n 0, 1) := by decide +kernel
theorem dX4_add_7 : decode cX4_add 7 = .ok (.getfield 21, 3) := by decide +kernel
theorem dX4_add_10 : decode cX4_add 10 = .ok (.iload 4, 2) := by decide +kernel
theorem dX4_add_12 : decode cX4_add 12 = .ok (.iload_n 1, 1) := by decide +kernel
theorem dX4_add_13 : decode cX4_add 13 = .ok (.iastore, 1) := by decide +kernel
theorem dX4_add_14 : decode cX4_add 14 = .ok (.aload_n 0, 1) := by decide +kernel
theorem dX4_add_15 : decode cX4_add 15 = .ok (.getfield 25, 3) := by decide +kernel
theorem dX4_add_18 : decode cX4_add 18 = .ok (.iload 4, 2) := by decide +kernel
theorem dX4_add_20 : decode cX4_add 20 = .ok (.iload_n 2, 1) := by decide +kernel
theorem dX4_add_21 : decode cX4_add 21 = .ok (.iastore, 1) := by decide +kernel
theorem dX4_add_22 : decode cX4_add 22 = .ok (.aload_n 3, 1) := by decide +kernel
theorem dX4_add_23 : decode cX4_add 23 = .ok (.aload_n 0, 1) := by decide +kernel
theorem dX4_add_24 : decode cX4_add 24 = .ok (.getfield 11, 3) := by decide +kernel
theorem dX4_add_27 : decode cX4_add 27 = .ok (.iload 4, 2) := by decide +kernel
theorem dX4_add_29 : decode cX4_add 29 = .ok (.aaload, 1) := by decide +kernel
theorem dX4_add_30 : decode cX4_add 30 = .ok (.iload_n 1, 1) := by decide +kernel
theorem dX4_add_31 : decode cX4_add 31 = .ok (.invokestatic 35, 3) := by decide +kernel
theorem dX4_add_34 : decode cX4_add 34 = .ok (.invokevirtual 39, 3) := by decide +kernel
theorem dX4_add_37 : decode cX4_add 37 = .ok (.aload_n 3, 1) := by decide +kernel
theorem dX4_add_38 : decode cX4_add 38 = .ok (.getfield 45, 3) := by decide +kernel
theorem dX4_add_41 : decode cX4_add 41 = .ok (.iconst 0, 1) := by decide +kernel
theorem dX4_add_42 : decode cX4_add 42 = .ok (.aload_n 0, 1) := by decide +kernel
theorem dX4_add_43 : decode cX4_add 43 = .ok (.getfield 18, 3) := by decide +kernel
theorem dX4_add_46 : decode cX4_add 46 = .ok (.iload 4, 2) := by decide +kernel
theorem dX4_add_48 : decode cX4_add 48 = .ok (.aaload, 1) := by decide +kernel
theorem dX4_add_49 : decode cX4_add 49 = .ok (.iconst 0, 1) := by decide +kernel
theorem dX4_add_50 : decode cX4_add 50 = .ok (.bipush 16, 2) := by decide +kernel
theorem dX4_add_52 : decode cX4_add 52 = .ok (.invokestatic 48, 3) := by decide +kernel
theorem dX4_add_55 : decode cX4_add 55 = .ok (.aload_n 0, 1) := by decide +kernel
theorem dX4_add_56 : decode cX4_add 56 = .ok (.dup, 1) := by decide +kernel
theorem dX4_add_57 : decode cX4_add 57 = .ok (.getfield 31, 3) := by decide +kernel
theorem dX4_add_60 : decode cX4_add 60 = .ok (.iconst 1, 1) := by decide +kernel
theorem dX4_add_61 : decode cX4_add 61 = .ok (.iadd, 1) := by decide +kernel
theorem dX4_add_62 : decode cX4_add 62 = .ok (.putfield 31, 3) := by decide +kernel
theorem dX4_add_65 : decode cX4_add 65 = .ok (.iload 4, 2) := by decide +kernel
theorem dX4_add_67 : decode cX4_add 67 = .ok (.ireturn, 1) := by decide +kernel
theorem dX4_wordOfLast_0 : decode cX4_wordOfLast 0 = .ok (.aload_n 0, 1) := by decide +kernel
theorem dX4_wordOfLast_1 : decode cX4_wordOfLast 1 = .ok (.getfield 18, 3) := by decide +kernel
theorem dX4_wordOfLast_4 : decode cX4_wordOfLast 4 = .ok (.iload_n 1, 1) := by decide +kernel
theorem dX4_wordOfLast_5 : decode cX4_wordOfLast 5 = .ok (.aaload, 1) := by decide +kernel
theorem dX4_wordOfLast_6 : decode cX4_wordOfLast 6 = .ok (.iconst 0, 1) := by decide +kernel
theorem dX4_wordOfLast_7 : decode cX4_wordOfLast 7 = .ok (.aload_n 0, 1) := by decide +kernel
theorem dX4_wordOfLast_8 : decode cX4_wordOfLast 8 = .ok (.getfield 28, 3) := by decide +kernel
theorem dX4_wordOfLast_11 : decode cX4_wordOfLast 11 = .ok (.iconst 0, 1) := by decide +kernel
theorem dX4_wordOfLast_12 : decode cX4_wordOfLast 12 = .ok (.bipush 16, 2) := by decide +kernel
theorem dX4_wordOfLast_14 : decode cX4_wordOfLast 14 = .ok (.invokestatic 48, 3) := by decide +kernel
theorem dX4_wordOfLast_17 : decode cX4_wordOfLast 17 = .ok (.aload_n 0, 1) := by decide +kernel
theorem dX4_wordOfLast_18 : decode cX4_wordOfLast 18 = .ok (.getfield 28, 3) := by decide +kernel
theorem dX4_wordOfLast_21 : decode cX4_wordOfLast 21 = .ok (.invokestatic 54, 3) := by decide +kernel
theorem dX4_wordOfLast_24 : decode cX4_wordOfLast 24 = .ok (.aload_n 0, 1) := by decide +kernel
theorem dX4_wordOfLast_25 : decode cX4_wordOfLast 25 = .ok (.getfield 28, 3) := by decide +kernel
theorem dX4_wordOfLast_28 : decode cX4_wordOfLast 28 = .ok (.iload_n 2, 1) := by decide +kernel
theorem dX4_wordOfLast_29 : decode cX4_wordOfLast 29 = .ok (.iaload, 1) := by decide +kernel
theorem dX4_wordOfLast_30 : decode cX4_wordOfLast 30 = .ok (.ireturn, 1) := by decide +kernel
theorem dX5_init_0 : decode cX5_init 0 = .ok (.aload_n 0, 1) := by decide +kernel
theorem dX5_init_1 : decode cX5_init 1 = .ok (.invokespecial 3, 3) := by decide +kernel
theorem dX5_init_4 : decode cX5_init 4 = .ok (.aload_n 0, 1) := by decide +kernel
theorem dX5_init_5 : decode cX5_init 5 = .ok (.bipush 40, 2) := by decide +kernel
theorem dX5_init_7 : decode cX5_init 7 = .ok (.bipush 40, 2) := by decide +kernel
theorem dX5_init_9 : decode cX5_init 9 = .ok (.multianewarray 9 2, 4) := by decide +kernel
theorem dX5_init_13 : decode cX5_init 13 = .ok (.putfield 11, 3) := by decide +kernel
theorem dX5_init_16 : decode cX5_init 16 = .ok (.aload_n 0, 1) := by decide +kernel
theorem dX5_init_17 : decode cX5_init 17 = .ok (.bipush 40, 2) := by decide +kernel
theorem dX5_init_19 : decode cX5_init 19 = .ok (.newarray .int, 2) := by decide +kernel
theorem dX5_init_21 : decode cX5_init 21 = .ok (.putfield 16, 3) := by decide +kernel
theorem dX5_init_24 : decode cX5_init 24 = .ok (.aload_n 0, 1) := by decide +kernel
theorem dX5_init_25 : decode cX5_init 25 = .ok (.bipush 40, 2) := by decide +kernel
theorem dX5_init_27 : decode cX5_init 27 = .ok (.newarray .int, 2) := by decide +kernel
theorem dX5_init_29 : decode cX5_init 29 = .ok (.putfield 20, 3) := by decide +kernel
theorem dX5_init_32 : decode cX5_init 32 = .ok (.return_, 1) := by decide +kernel
theorem dX5_seek_0 : decode cX5_seek 0 = .ok (.aload_n 0, 1) := by decide +kernel
theorem dX5_seek_1 : decode cX5_seek 1 = .ok (.iconst 0, 1) := by decide +kernel
theorem dX5_seek_2 : decode cX5_seek 2 = .ok (.putfield 23, 3) := by decide +kernel
theorem dX5_seek_5 : decode cX5_seek 5 = .ok (.iconst 0, 1) := by decide +kernel
theorem dX5_seek_6 : decode cX5_seek 6 = .ok (.istore_n 3, 1) := by decide +kernel
theorem dX5_seek_7 : decode cX5_seek 7 = .ok (.iload_n 3, 1) := by decide +kernel
theorem dX5_seek_8 : decode cX5_seek 8 = .ok (.aload_n 0, 1) := by decide +kernel
theorem dX5_seek_9 : decode cX5_seek 9 = .ok (.getfield 27, 3) := by decide +kernel
theorem dX5_seek_12 : decode cX5_seek 12 = .ok (.if_icmp .ge 64, 3) := by decide +kernel
theorem dX5_seek_15 : decode cX5_seek 15 = .ok (.aload_n 0, 1) := by decide +kernel
theorem dX5_seek_16 : decode cX5_seek 16 = .ok (.getfield 20, 3) := by decide +kernel
theorem dX5_seek_19 : decode cX5_seek 19 = .ok (.iload_n 3, 1) := by decide +kernel
theorem dX5_seek_20 : decode cX5_seek 20 = .ok (.iaload, 1) := by decide +kernel
theorem dX5_seek_21 : decode cX5_seek 21 = .ok (.iload_n 2, 1) := by decide +kernel
theorem dX5_seek_22 : decode cX5_seek 22 = .ok (.if_icmp .ne 48, 3) := by decide +kernel
theorem dX5_seek_25 : decode cX5_seek 25 = .ok (.aload_n 0, 1) := by decide +kernel
theorem dX5_seek_26 : decode cX5_seek 26 = .ok (.dup, 1) := by decide +kernel
theorem dX5_seek_27 : decode cX5_seek 27 = .ok (.getfield 23, 3) := by decide +kernel
theorem dX5_seek_30 : decode cX5_seek 30 = .ok (.iconst 1, 1) := by decide +kernel
theorem dX5_seek_31 : decode cX5_seek 31 = .ok (.iadd, 1) := by decide +kernel
theorem dX5_seek_32 : decode cX5_seek 32 = .ok (.putfield 23, 3) := by decide +kernel
theorem dX5_seek_35 : decode cX5_seek 35 = .ok (.aload_n 0, 1) := by decide +kernel
theorem dX5_seek_36 : decode cX5_seek 36 = .ok (.getfield 16, 3) := by decide +kernel
theorem dX5_seek_39 : decode cX5_seek 39 = .ok (.iload_n 3, 1) := by decide +kernel
theorem dX5_seek_40 : decode cX5_seek 40 = .ok (.iaload, 1) := by decide +kernel
theorem dX5_seek_41 : decode cX5_seek 41 = .ok (.aload_n 1, 1) := by decide +kernel
theorem dX5_seek_42 : decode cX5_seek 42 = .ok (.getfield 30, 3) := by decide +kernel
theorem dX5_seek_45 : decode cX5_seek 45 = .ok (.if_icmp .ne 25, 3) := by decide +kernel
theorem dX5_seek_48 : decode cX5_seek 48 = .ok (.aload_n 0, 1) := by decide +kernel
theorem dX5_seek_49 : decode cX5_seek 49 = .ok (.getfield 11, 3) := by decide +kernel
theorem dX5_seek_52 : decode cX5_seek 52 = .ok (.iload_n 3, 1) := by decide +kernel
theorem dX5_seek_53 : decode cX5_seek 53 = .ok (.aaload, 1) := by decide +kernel
theorem dX5_seek_54 : decode cX5_seek 54 = .ok (.aload_n 1, 1) := by decide +kernel
theorem dX5_seek_55 : decode cX5_seek 55 = .ok (.getfield 35, 3) := by decide +kernel
theorem dX5_seek_58 : decode cX5_seek 58 = .ok (.aload_n 1, 1) := by decide +kernel
theorem dX5_seek_59 : decode cX5_seek 59 = .ok (.getfield 30, 3) := by decide +kernel
theorem dX5_seek_62 : decode cX5_seek 62 = .ok (.invokestatic 39, 3) := by decide +kernel
theorem dX5_seek_65 : decode cX5_seek 65 = .ok (.ifCond .eq 5, 3) := by decide +kernel
theorem dX5_seek_68 : decode cX5_seek 68 = .ok (.iload_n 3, 1) := by decide +kernel
theorem dX5_seek_69 : decode cX5_seek 69 = .ok (.ireturn, 1) := by decide +kernel
theorem dX5_seek_70 : decode cX5_seek 70 = .ok (.iinc 3 1, 3) := by decide +kernel
theorem dX5_seek_73 : decode cX5_seek 73 = .ok (.goto (-66), 3) := by decide +kernel
theorem dX5_seek_76 : decode cX5_seek 76 = .ok (.iconst (-1), 1) := by decide +kernel
theorem dX5_seek_77 : decode cX5_seek 77 = .ok (.ireturn, 1) := by decide +kernel
theorem dX5_add_0 : decode cX5_add 0 = .ok (.aload_n 0, 1) := by decide +kernel
theorem dX5_add_1 : decode cX5_add 1 = .ok (.getfield 27, 3) := by decide +kernel
theorem dX5_add_4 : decode cX5_add 4 = .ok (.istore_n 3, 1) := by decide +kernel
theorem dX5_add_5 : decode cX5_add 5 = .ok (.aload_n 1, 1) := by decide +kernel
theorem dX5_add_6 : decode cX5_add 6 = .ok (.getfield 35, 3) := by decide +kernel
theorem dX5_add_9 : decode cX5_add 9 = .ok (.iconst 0, 1) := by decide +kernel
theorem dX5_add_10 : decode cX5_add 10 = .ok (.aload_n 0, 1) := by decide +kernel
theorem dX5_add_11 : decode cX5_add 11 = .ok (.getfield 11, 3) := by decide +kernel
theorem dX5_add_14 : decode cX5_add 14 = .ok (.iload_n 3, 1) := by decide +kernel
theorem dX5_add_15 : decode cX5_add 15 = .ok (.aaload, 1) := by decide +kernel
theorem dX5_add_16 : decode cX5_add 16 = .ok (.iconst 0, 1) := by decide +kernel
theorem dX5_add_17 : decode cX5_add 17 = .ok (.aload_n 1, 1) := by decide +kernel
theorem dX5_add_18 : decode cX5_add 18 = .ok (.getfield 30, 3) := by decide +kernel
theorem dX5_add_21 : decode cX5_add 21 = .ok (.invokestatic 43, 3) := by decide +kernel
theorem dX5_add_24 : decode cX5_add 24 = .ok (.aload_n 0, 1) := by decide +kernel
theorem dX5_add_25 : decode cX5_add 25 = .ok (.getfield 16, 3) := by decide +kernel
theorem dX5_add_28 : decode cX5_add 28 = .ok (.iload_n 3, 1) := by decide +kernel
theorem dX5_add_29 : decode cX5_add 29 = .ok (.aload_n 1, 1) := by decide +kernel
theorem dX5_add_30 : decode cX5_add 30 = .ok (.getfield 30, 3) := by decide +kernel
theorem dX5_add_33 : decode cX5_add 33 = .ok (.iastore, 1) := by decide +kernel
theorem dX5_add_34 : decode cX5_add 34 = .ok (.aload_n 0, 1) := by decide +kernel
theorem dX5_add_35 : decode cX5_add 35 = .ok (.getfield 20, 3) := by decide +kernel
theorem dX5_add_38 : decode cX5_add 38 = .ok (.iload_n 3, 1) := by decide +kernel
theorem dX5_add_39 : decode cX5_add 39 = .ok (.iload_n 2, 1) := by decide +kernel
theorem dX5_add_40 : decode cX5_add 40 = .ok (.iastore, 1) := by decide +kernel
theorem dX5_add_41 : decode cX5_add 41 = .ok (.aload_n 0, 1) := by decide +kernel
theorem dX5_add_42 : decode cX5_add 42 = .ok (.dup, 1) := by decide +kernel
theorem dX5_add_43 : decode cX5_add 43 = .ok (.getfield 27, 3) := by decide +kernel
theorem dX5_add_46 : decode cX5_add 46 = .ok (.iconst 1, 1) := by decide +kernel
theorem dX5_add_47 : decode cX5_add 47 = .ok (.iadd, 1) := by decide +kernel
theorem dX5_add_48 : decode cX5_add 48 = .ok (.putfield 27, 3) := by decide +kernel
theorem dX5_add_51 : decode cX5_add 51 = .ok (.iload_n 3, 1) := by decide +kernel
theorem dX5_add_52 : decode cX5_add 52 = .ok (.ireturn, 1) := by decide +kernel
theorem dX5_pairsThatMeet_0 : decode cX5_pairsThatMeet 0 = .ok (.iconst 0, 1) := by decide +kernel
theorem dX5_pairsThatMeet_1 : decode cX5_pairsThatMeet 1 = .ok (.istore_n 1, 1) := by decide +kernel
theorem dX5_pairsThatMeet_2 : decode cX5_pairsThatMeet 2 = .ok (.iconst 0, 1) := by decide +kernel
theorem dX5_pairsThatMeet_3 : decode cX5_pairsThatMeet 3 = .ok (.istore_n 2, 1) := by decide +kernel
theorem dX5_pairsThatMeet_4 : decode cX5_pairsThatMeet 4 = .ok (.iload_n 2, 1) := by decide +kernel
theorem dX5_pairsThatMeet_5 : decode cX5_pairsThatMeet 5 = .ok (.aload_n 0, 1) := by decide +kernel
theorem dX5_pairsThatMeet_6 : decode cX5_pairsThatMeet 6 = .ok (.getfield 27, 3) := by decide +kernel
theorem dX5_pairsThatMeet_9 : decode cX5_pairsThatMeet 9 = .ok (.if_icmp .ge 45, 3) := by decide +kernel
theorem dX5_pairsThatMeet_12 : decode cX5_pairsThatMeet 12 = .ok (.iload_n 2, 1) := by decide +kernel
theorem dX5_pairsThatMeet_13 : decode cX5_pairsThatMeet 13 = .ok (.iconst 1, 1) := by decide +kernel
theorem dX5_pairsThatMeet_14 : decode cX5_pairsThatMeet 14 = .ok (.iadd, 1) := by decide +kernel
theorem dX5_pairsThatMeet_15 : decode cX5_pairsThatMeet 15 = .ok (.istore_n 3, 1) := by decide +kernel
theorem dX5_pairsThatMeet_16 : decode cX5_pairsThatMeet 16 = .ok (.iload_n 3, 1) := by decide +kernel
theorem dX5_pairsThatMeet_17 : decode cX5_pairsThatMeet 17 = .ok (.aload_n 0, 1) := by decide +kernel
theorem dX5_pairsThatMeet_18 : decode cX5_pairsThatMeet 18 = .ok (.getfield 27, 3) := by decide +kernel
theorem dX5_pairsThatMeet_21 : decode cX5_pairsThatMeet 21 = .ok (.if_icmp .ge 27, 3) := by decide +kernel
theorem dX5_pairsThatMeet_24 : decode cX5_pairsThatMeet 24 = .ok (.aload_n 0, 1) := by decide +kernel
theorem dX5_pairsThatMeet_25 : decode cX5_pairsThatMeet 25 = .ok (.getfield 20, 3) := by decide +kernel
theorem dX5_pairsThatMeet_28 : decode cX5_pairsThatMeet 28 = .ok (.iload_n 2, 1) := by decide +kernel
theorem dX5_pairsThatMeet_29 : decode cX5_pairsThatMeet 29 = .ok (.iaload, 1) := by decide +kernel
theorem dX5_pairsThatMeet_30 : decode cX5_pairsThatMeet 30 = .ok (.aload_n 0, 1) := by decide +kernel
theorem dX5_pairsThatMeet_31 : decode cX5_pairsThatMeet 31 = .ok (.getfield 20, 3) := by decide +kernel
theorem dX5_pairsThatMeet_34 : decode cX5_pairsThatMeet 34 = .ok (.iload_n 3, 1) := by decide +kernel
theorem dX5_pairsThatMeet_35 : decode cX5_pairsThatMeet 35 = .ok (.iaload, 1) := by decide +kernel
theorem dX5_pairsThatMeet_36 : decode cX5_pairsThatMeet 36 = .ok (.if_icmp .ne 6, 3) := by decide +kernel
theorem dX5_pairsThatMeet_39 : decode cX5_pairsThatMeet 39 = .ok (.iinc 1 1, 3) := by decide +kernel
theorem dX5_pairsThatMeet_42 : decode cX5_pairsThatMeet 42 = .ok (.iinc 3 1, 3) := by decide +kernel
theorem dX5_pairsThatMeet_45 : decode cX5_pairsThatMeet 45 = .ok (.goto (-29), 3) := by decide +kernel
theorem dX5_pairsThatMeet_48 : decode cX5_pairsThatMeet 48 = .ok (.iinc 2 1, 3) := by decide +kernel
theorem dX5_pairsThatMeet_51 : decode cX5_pairsThatMeet 51 = .ok (.goto (-47), 3) := by decide +kernel
theorem dX5_pairsThatMeet_54 : decode cX5_pairsThatMeet 54 = .ok (.iload_n 1, 1) := by decide +kernel
theorem dX5_pairsThatMeet_55 : decode cX5_pairsThatMeet 55 = .ok (.ireturn, 1) := by decide +kernel
theorem dX6_init_0 : decode cX6_init 0 = .ok (.aload_n 0, 1) := by decide +kernel
theorem dX6_init_1 : decode cX6_init 1 = .ok (.invokespecial 3, 3) := by decide +kernel
theorem dX6_init_4 : decode cX6_init 4 = .ok (.aload_n 0, 1) := by decide +kernel
theorem dX6_init_5 : decode cX6_init 5 = .ok (.bipush 12, 2) := by decide +kernel
theorem dX6_init_7 : decode cX6_init 7 = .ok (.newarray .int, 2) := by decide +kernel
theorem dX6_init_9 : decode cX6_init 9 = .ok (.putfield 9, 3) := by decide +kernel
theorem dX6_init_12 : decode cX6_init 12 = .ok (.aload_n 0, 1) := by decide +kernel
theorem dX6_init_13 : decode cX6_init 13 = .ok (.bipush 24, 2) := by decide +kernel
theorem dX6_init_15 : decode cX6_init 15 = .ok (.bipush 32, 2) := by decide +kernel
theorem dX6_init_17 : decode cX6_init 17 = .ok (.multianewarray 15 2, 4) := by decide +kernel
theorem dX6_init_21 : decode cX6_init 21 = .ok (.putfield 17, 3) := by decide +kernel
theorem dX6_init_24 : decode cX6_init 24 = .ok (.return_, 1) := by decide +kernel
theorem dX6_has_0 : decode cX6_has 0 = .ok (.iload_n 1, 1) := by decide +kernel
theorem dX6_has_1 : decode cX6_has 1 = .ok (.ifCond .lt 15, 3) := by decide +kernel
theorem dX6_has_4 : decode cX6_has 4 = .ok (.iload_n 1, 1) := by decide +kernel
theorem dX6_has_5 : decode cX6_has 5 = .ok (.aload_n 0, 1) := by decide +kernel
theorem dX6_has_6 : decode cX6_has 6 = .ok (.getfield 20, 3) := by decide +kernel
theorem dX6_has_9 : decode cX6_has 9 = .ok (.if_icmp .ge 7, 3) := by decide +kernel
theorem dX6_has_12 : decode cX6_has 12 = .ok (.iconst 1, 1) := by decide +kernel
theorem dX6_has_13 : decode cX6_has 13 = .ok (.goto 4, 3) := by decide +kernel
theorem dX6_has_16 : decode cX6_has 16 = .ok (.iconst 0, 1) := by decide +kernel
theorem dX6_has_17 : decode cX6_has 17 = .ok (.ireturn, 1) := by decide +kernel
theorem dX6_climb_0 : decode cX6_climb 0 = .ok (.aload_n 0, 1) := by decide +kernel
theorem dX6_climb_1 : decode cX6_climb 1 = .ok (.getfield 20, 3) := by decide +kernel
theorem dX6_climb_4 : decode cX6_climb 4 = .ok (.ifCond .ne 20, 3) := by decide +kernel
theorem dX6_climb_7 : decode cX6_climb 7 = .ok (.aload_n 0, 1) := by decide +kernel
theorem dX6_climb_8 : decode cX6_climb 8 = .ok (.getfield 17, 3) := by decide +kernel
theorem dX6_climb_11 : decode cX6_climb 11 = .ok (.iconst 0, 1) := by decide +kernel
theorem dX6_climb_12 : decode cX6_climb 12 = .ok (.aaload, 1) := by decide +kernel
theorem dX6_climb_13 : decode cX6_climb 13 = .ok (.iconst 0, 1) := by decide +kernel
theorem dX6_climb_14 : decode cX6_climb 14 = .ok (.invokestatic 24, 3) := by decide +kernel
theorem dX6_climb_17 : decode cX6_climb 17 = .ok (.aload_n 0, 1) := by decide +kernel
theorem dX6_climb_18 : decode cX6_climb 18 = .ok (.getfield 17, 3) := by decide +kernel
theorem dX6_climb_21 : decode cX6_climb 21 = .ok (.iconst 0, 1) := by decide +kernel
theorem dX6_climb_22 : decode cX6_climb 22 = .ok (.aaload, 1) := by decide +kernel
theorem dX6_climb_23 : decode cX6_climb 23 = .ok (.areturn, 1) := by decide +kernel
theorem dX6_climb_24 : decode cX6_climb 24 = .ok (.iconst 0, 1) := by decide +kernel
theorem dX6_climb_25 : decode cX6_climb 25 = .ok (.istore_n 2, 1) := by decide +kernel
theorem dX6_climb_26 : decode cX6_climb 26 = .ok (.aload_n 0, 1) := by decide +kernel
theorem dX6_climb_27 : decode cX6_climb 27 = .ok (.getfield 20, 3) := by decide +kernel
theorem dX6_climb_30 : decode cX6_climb 30 = .ok (.istore_n 3, 1) := by decide +kernel
theorem dX6_climb_31 : decode cX6_climb 31 = .ok (.iload_n 3, 1) := by decide +kernel
theorem dX6_climb_32 : decode cX6_climb 32 = .ok (.iconst 1, 1) := by decide +kernel
theorem dX6_climb_33 : decode cX6_climb 33 = .ok (.if_icmp .le 107, 3) := by decide +kernel
theorem dX6_climb_36 : decode cX6_climb 36 = .ok (.iload_n 2, 1) := by decide +kernel
theorem dX6_climb_37 : decode cX6_climb 37 = .ok (.iload_n 3, 1) := by decide +kernel
theorem dX6_climb_38 : decode cX6_climb 38 = .ok (.iadd, 1) := by decide +kernel
theorem dX6_climb_39 : decode cX6_climb 39 = .ok (.istore 4, 2) := by decide +kernel
theorem dX6_climb_41 : decode cX6_climb 41 = .ok (.iconst 0, 1) := by decide +kernel
theorem dX6_climb_42 : decode cX6_climb 42 = .ok (.istore 5, 2) := by decide +kernel
theorem dX6_climb_44 : decode cX6_climb 44 = .ok (.iload 5, 2) := by decide +kernel
theorem dX6_climb_46 : decode cX6_climb 46 = .ok (.iconst 1, 1) := by decide +kernel
theorem dX6_climb_47 : decode cX6_climb 47 = .ok (.iadd, 1) := by decide +kernel
theorem dX6_climb_48 : decode cX6_climb 48 = .ok (.iload_n 3, 1) := by decide +kernel
theorem dX6_climb_49 : decode cX6_climb 49 = .ok (.if_icmp .ge 45, 3) := by decide +kernel
theorem dX6_climb_52 : decode cX6_climb 52 = .ok (.aload_n 1, 1) := by decide +kernel
theorem dX6_climb_53 : decode cX6_climb 53 = .ok (.aload_n 0, 1) := by decide +kernel
theorem dX6_climb_54 : decode cX6_climb 54 = .ok (.getfield 17, 3) := by decide +kernel
theorem dX6_climb_57 : decode cX6_climb 57 = .ok (.iload_n 2, 1) := by decide +kernel
theorem dX6_climb_58 : decode cX6_climb 58 = .ok (.iload 5, 2) := by decide +kernel
theorem dX6_climb_60 : decode cX6_climb 60 = .ok (.iadd, 1) := by decide +kernel
theorem dX6_climb_61 : decode cX6_climb 61 = .ok (.aaload, 1) := by decide +kernel
theorem dX6_climb_62 : decode cX6_climb 62 = .ok (.aload_n 0, 1) := by decide +kernel
theorem dX6_climb_63 : decode cX6_climb 63 = .ok (.getfield 17, 3) := by decide +kernel
theorem dX6_climb_66 : decode cX6_climb 66 = .ok (.iload_n 2, 1) := by decide +kernel
theorem dX6_climb_67 : decode cX6_climb 67 = .ok (.iload 5, 2) := by decide +kernel
theorem dX6_climb_69 : decode cX6_climb 69 = .ok (.iadd, 1) := by decide +kernel
theorem dX6_climb_70 : decode cX6_climb 70 = .ok (.iconst 1, 1) := by decide +kernel
theorem dX6_climb_71 : decode cX6_climb 71 = .ok (.iadd, 1) := by decide +kernel
theorem dX6_climb_72 : decode cX6_climb 72 = .ok (.aaload, 1) := by decide +kernel
theorem dX6_climb_73 : decode cX6_climb 73 = .ok (.aload_n 0, 1) := by decide +kernel
theorem dX6_climb_74 : decode cX6_climb 74 = .ok (.getfield 17, 3) := by decide +kernel
theorem dX6_climb_77 : decode cX6_climb 77 = .ok (.iload 4, 2) := by decide +kernel
theorem dX6_climb_79 : decode cX6_climb 79 = .ok (.iload 5, 2) := by decide +kernel
theorem dX6_climb_81 : decode cX6_climb 81 = .ok (.iconst 2, 1) := by decide +kernel
theorem dX6_climb_82 : decode cX6_climb 82 = .ok (.idiv, 1) := by decide +kernel
theorem dX6_climb_83 : decode cX6_climb 83 = .ok (.iadd, 1) := by decide +kernel
theorem dX6_climb_84 : decode cX6_climb 84 = .ok (.aaload, 1) := by decide +kernel
theorem dX6_climb_85 : decode cX6_climb 85 = .ok (.invokestatic 30, 3) := by decide +kernel
theorem dX6_climb_88 : decode cX6_climb 88 = .ok (.iinc 5 2, 3) := by decide +kernel
theorem dX6_climb_91 : decode cX6_climb 91 = .ok (.goto (-47), 3) := by decide +kernel
theorem dX6_climb_94 : decode cX6_climb 94 = .ok (.iload_n 3, 1) := by decide +kernel
theorem dX6_climb_95 : decode cX6_climb 95 = .ok (.iconst 2, 1) := by decide +kernel
theorem dX6_climb_96 : decode cX6_climb 96 = .ok (.irem, 1) := by decide +kernel
end
section
theorem dX6_climb_97 : decode cX6_climb 97 = .ok (.iconst 1, 1) := by decide +kernel
theorem dX6_climb_98 : decode cX6_climb 98 = .ok (.if_icmp .ne 30, 3) := by decide +kernel
theorem dX6_climb_101 : decode cX6_climb 101 = .ok (.aload_n 0, 1) := by decide +kernel
theorem dX6_climb_102 : decode cX6_climb 102 = .ok (.getfield 17, 3) := by decide +kernel
theorem dX6_climb_105 : decode cX6_climb 105 = .ok (.iload 4, 2) := by decide +kernel
theorem dX6_climb_107 : decode cX6_climb 107 = .ok (.iconst 1, 1) := by decide +kernel
theorem dX6_climb_108 : decode cX6_climb 108 = .ok (.isub, 1) := by decide +kernel
theorem dX6_climb_109 : decode cX6_climb 109 = .ok (.aaload, 1) := by decide +kernel
theorem dX6_climb_110 : decode cX6_climb 110 = .ok (.iconst 0, 1) := by decide +kernel
theorem dX6_climb_111 : decode cX6_climb 111 = .ok (.aload_n 0, 1) := by decide +kernel
theorem dX6_climb_112 : decode cX6_climb 112 = .ok (.getfield 17, 3) := by decide +kernel
theorem dX6_climb_115 : decode cX6_climb 115 = .ok (.iload 4, 2) := by decide +kernel
theorem dX6_climb_117 : decode cX6_climb 117 = .ok (.iload_n 3, 1) := by decide +kernel
theorem dX6_climb_118 : decode cX6_climb 118 = .ok (.iconst 2, 1) := by decide +kernel
theorem dX6_climb_119 : decode cX6_climb 119 = .ok (.idiv, 1) := by decide +kernel
theorem dX6_climb_120 : decode cX6_climb 120 = .ok (.iadd, 1) := by decide +kernel
theorem dX6_climb_121 : decode cX6_climb 121 = .ok (.aaload, 1) := by decide +kernel
theorem dX6_climb_122 : decode cX6_climb 122 = .ok (.iconst 0, 1) := by decide +kernel
theorem dX6_climb_123 : decode cX6_climb 123 = .ok (.bipush 32, 2) := by decide +kernel
theorem dX6_climb_125 : decode cX6_climb 125 = .ok (.invokestatic 34, 3) := by decide +kernel
theorem dX6_climb_128 : decode cX6_climb 128 = .ok (.iload 4, 2) := by decide +kernel
theorem dX6_climb_130 : decode cX6_climb 130 = .ok (.istore_n 2, 1) := by decide +kernel
theorem dX6_climb_131 : decode cX6_climb 131 = .ok (.iload_n 3, 1) := by decide +kernel
theorem dX6_climb_132 : decode cX6_climb 132 = .ok (.iconst 1, 1) := by decide +kernel
theorem dX6_climb_133 : decode cX6_climb 133 = .ok (.iadd, 1) := by decide +kernel
theorem dX6_climb_134 : decode cX6_climb 134 = .ok (.iconst 2, 1) := by decide +kernel
theorem dX6_climb_135 : decode cX6_climb 135 = .ok (.idiv, 1) := by decide +kernel
theorem dX6_climb_136 : decode cX6_climb 136 = .ok (.istore_n 3, 1) := by decide +kernel
theorem dX6_climb_137 : decode cX6_climb 137 = .ok (.goto (-106), 3) := by decide +kernel
theorem dX6_climb_140 : decode cX6_climb 140 = .ok (.aload_n 0, 1) := by decide +kernel
theorem dX6_climb_141 : decode cX6_climb 141 = .ok (.getfield 17, 3) := by decide +kernel
theorem dX6_climb_144 : decode cX6_climb 144 = .ok (.iload_n 2, 1) := by decide +kernel
theorem dX6_climb_145 : decode cX6_climb 145 = .ok (.aaload, 1) := by decide +kernel
theorem dX6_climb_146 : decode cX6_climb 146 = .ok (.areturn, 1) := by decide +kernel
theorem dX7_init_0 : decode cX7_init 0 = .ok (.aload_n 0, 1) := by decide +kernel
theorem dX7_init_1 : decode cX7_init 1 = .ok (.invokespecial 1, 3) := by decide +kernel
theorem dX7_init_4 : decode cX7_init 4 = .ok (.aload_n 0, 1) := by decide +kernel
theorem dX7_init_5 : decode cX7_init 5 = .ok (.new 7, 3) := by decide +kernel
theorem dX7_init_8 : decode cX7_init 8 = .ok (.dup, 1) := by decide +kernel
theorem dX7_init_9 : decode cX7_init 9 = .ok (.invokespecial 9, 3) := by decide +kernel
theorem dX7_init_12 : decode cX7_init 12 = .ok (.putfield 10, 3) := by decide +kernel
theorem dX7_init_15 : decode cX7_init 15 = .ok (.aload_n 0, 1) := by decide +kernel
theorem dX7_init_16 : decode cX7_init 16 = .ok (.new 7, 3) := by decide +kernel
theorem dX7_init_19 : decode cX7_init 19 = .ok (.dup, 1) := by decide +kernel
theorem dX7_init_20 : decode cX7_init 20 = .ok (.invokespecial 9, 3) := by decide +kernel
theorem dX7_init_23 : decode cX7_init 23 = .ok (.putfield 16, 3) := by decide +kernel
theorem dX7_init_26 : decode cX7_init 26 = .ok (.aload_n 0, 1) := by decide +kernel
theorem dX7_init_27 : decode cX7_init 27 = .ok (.new 19, 3) := by decide +kernel
theorem dX7_init_30 : decode cX7_init 30 = .ok (.dup, 1) := by decide +kernel
theorem dX7_init_31 : decode cX7_init 31 = .ok (.invokespecial 21, 3) := by decide +kernel
theorem dX7_init_34 : decode cX7_init 34 = .ok (.putfield 22, 3) := by decide +kernel
theorem dX7_init_37 : decode cX7_init 37 = .ok (.aload_n 0, 1) := by decide +kernel
theorem dX7_init_38 : decode cX7_init 38 = .ok (.new 26, 3) := by decide +kernel
theorem dX7_init_41 : decode cX7_init 41 = .ok (.dup, 1) := by decide +kernel
theorem dX7_init_42 : decode cX7_init 42 = .ok (.aload_n 0, 1) := by decide +kernel
theorem dX7_init_43 : decode cX7_init 43 = .ok (.getfield 22, 3) := by decide +kernel
theorem dX7_init_46 : decode cX7_init 46 = .ok (.invokespecial 28, 3) := by decide +kernel
theorem dX7_init_49 : decode cX7_init 49 = .ok (.putfield 31, 3) := by decide +kernel
theorem dX7_init_52 : decode cX7_init 52 = .ok (.aload_n 0, 1) := by decide +kernel
theorem dX7_init_53 : decode cX7_init 53 = .ok (.iconst 4, 1) := by decide +kernel
theorem dX7_init_54 : decode cX7_init 54 = .ok (.anewarray 26, 3) := by decide +kernel
theorem dX7_init_57 : decode cX7_init 57 = .ok (.putfield 35, 3) := by decide +kernel
theorem dX7_init_60 : decode cX7_init 60 = .ok (.aload_n 0, 1) := by decide +kernel
theorem dX7_init_61 : decode cX7_init 61 = .ok (.new 39, 3) := by decide +kernel
theorem dX7_init_64 : decode cX7_init 64 = .ok (.dup, 1) := by decide +kernel
theorem dX7_init_65 : decode cX7_init 65 = .ok (.invokespecial 41, 3) := by decide +kernel
theorem dX7_init_68 : decode cX7_init 68 = .ok (.putfield 42, 3) := by decide +kernel
theorem dX7_init_71 : decode cX7_init 71 = .ok (.aload_n 0, 1) := by decide +kernel
theorem dX7_init_72 : decode cX7_init 72 = .ok (.iconst 4, 1) := by decide +kernel
theorem dX7_init_73 : decode cX7_init 73 = .ok (.anewarray 46, 3) := by decide +kernel
theorem dX7_init_76 : decode cX7_init 76 = .ok (.putfield 48, 3) := by decide +kernel
theorem dX7_init_79 : decode cX7_init 79 = .ok (.aload_n 0, 1) := by decide +kernel
theorem dX7_init_80 : decode cX7_init 80 = .ok (.new 52, 3) := by decide +kernel
theorem dX7_init_83 : decode cX7_init 83 = .ok (.dup, 1) := by decide +kernel
theorem dX7_init_84 : decode cX7_init 84 = .ok (.invokespecial 54, 3) := by decide +kernel
theorem dX7_init_87 : decode cX7_init 87 = .ok (.putfield 55, 3) := by decide +kernel
theorem dX7_init_90 : decode cX7_init 90 = .ok (.aload_n 0, 1) := by decide +kernel
theorem dX7_init_91 : decode cX7_init 91 = .ok (.new 59, 3) := by decide +kernel
theorem dX7_init_94 : decode cX7_init 94 = .ok (.dup, 1) := by decide +kernel
theorem dX7_init_95 : decode cX7_init 95 = .ok (.invokespecial 61, 3) := by decide +kernel
theorem dX7_init_98 : decode cX7_init 98 = .ok (.putfield 62, 3) := by decide +kernel
theorem dX7_init_101 : decode cX7_init 101 = .ok (.aload_n 0, 1) := by decide +kernel
theorem dX7_init_102 : decode cX7_init 102 = .ok (.bipush 32, 2) := by decide +kernel
theorem dX7_init_104 : decode cX7_init 104 = .ok (.newarray .byte, 2) := by decide +kernel
theorem dX7_init_106 : decode cX7_init 106 = .ok (.putfield 66, 3) := by decide +kernel
theorem dX7_init_109 : decode cX7_init 109 = .ok (.iconst 0, 1) := by decide +kernel
theorem dX7_init_110 : decode cX7_init 110 = .ok (.istore_n 1, 1) := by decide +kernel
theorem dX7_init_111 : decode cX7_init 111 = .ok (.iload_n 1, 1) := by decide +kernel
theorem dX7_init_112 : decode cX7_init 112 = .ok (.iconst 4, 1) := by decide +kernel
theorem dX7_init_113 : decode cX7_init 113 = .ok (.if_icmp .ge 29, 3) := by decide +kernel
theorem dX7_init_116 : decode cX7_init 116 = .ok (.aload_n 0, 1) := by decide +kernel
theorem dX7_init_117 : decode cX7_init 117 = .ok (.getfield 35, 3) := by decide +kernel
theorem dX7_init_120 : decode cX7_init 120 = .ok (.iload_n 1, 1) := by decide +kernel
theorem dX7_init_121 : decode cX7_init 121 = .ok (.new 26, 3) := by decide +kernel
theorem dX7_init_124 : decode cX7_init 124 = .ok (.dup, 1) := by decide +kernel
theorem dX7_init_125 : decode cX7_init 125 = .ok (.new 19, 3) := by decide +kernel
theorem dX7_init_128 : decode cX7_init 128 = .ok (.dup, 1) := by decide +kernel
theorem dX7_init_129 : decode cX7_init 129 = .ok (.invokespecial 21, 3) := by decide +kernel
theorem dX7_init_132 : decode cX7_init 132 = .ok (.invokespecial 28, 3) := by decide +kernel
theorem dX7_init_135 : decode cX7_init 135 = .ok (.aastore, 1) := by decide +kernel
theorem dX7_init_136 : decode cX7_init 136 = .ok (.iinc 1 1, 3) := by decide +kernel
theorem dX7_init_139 : decode cX7_init 139 = .ok (.goto (-28), 3) := by decide +kernel
theorem dX7_init_142 : decode cX7_init 142 = .ok (.iconst 0, 1) := by decide +kernel
theorem dX7_init_143 : decode cX7_init 143 = .ok (.istore_n 1, 1) := by decide +kernel
theorem dX7_init_144 : decode cX7_init 144 = .ok (.iload_n 1, 1) := by decide +kernel
theorem dX7_init_145 : decode cX7_init 145 = .ok (.iconst 4, 1) := by decide +kernel
theorem dX7_init_146 : decode cX7_init 146 = .ok (.if_icmp .ge 22, 3) := by decide +kernel
theorem dX7_init_149 : decode cX7_init 149 = .ok (.aload_n 0, 1) := by decide +kernel
theorem dX7_init_150 : decode cX7_init 150 = .ok (.getfield 48, 3) := by decide +kernel
theorem dX7_init_153 : decode cX7_init 153 = .ok (.iload_n 1, 1) := by decide +kernel
theorem dX7_init_154 : decode cX7_init 154 = .ok (.new 46, 3) := by decide +kernel
theorem dX7_init_157 : decode cX7_init 157 = .ok (.dup, 1) := by decide +kernel
theorem dX7_init_158 : decode cX7_init 158 = .ok (.invokespecial 70, 3) := by decide +kernel
theorem dX7_init_161 : decode cX7_init 161 = .ok (.aastore, 1) := by decide +kernel
theorem dX7_init_162 : decode cX7_init 162 = .ok (.iinc 1 1, 3) := by decide +kernel
theorem dX7_init_165 : decode cX7_init 165 = .ok (.goto (-21), 3) := by decide +kernel
theorem dX7_init_168 : decode cX7_init 168 = .ok (.return_, 1) := by decide +kernel
theorem dX7_feed_0 : decode cX7_feed 0 = .ok (.iload_n 1, 1) := by decide +kernel
theorem dX7_feed_1 : decode cX7_feed 1 = .ok (.iconst 1, 1) := by decide +kernel
theorem dX7_feed_2 : decode cX7_feed 2 = .ok (.if_icmp .lt 9, 3) := by decide +kernel
theorem dX7_feed_5 : decode cX7_feed 5 = .ok (.iload_n 1, 1) := by decide +kernel
theorem dX7_feed_6 : decode cX7_feed 6 = .ok (.bipush 8, 2) := by decide +kernel
theorem dX7_feed_8 : decode cX7_feed 8 = .ok (.if_icmp .le 6, 3) := by decide +kernel
theorem dX7_feed_11 : decode cX7_feed 11 = .ok (.bipush (-102), 2) := by decide +kernel
theorem dX7_feed_13 : decode cX7_feed 13 = .ok (.ireturn, 1) := by decide +kernel
theorem dX7_feed_14 : decode cX7_feed 14 = .ok (.iload_n 1, 1) := by decide +kernel
theorem dX7_feed_15 : decode cX7_feed 15 = .ok (.sipush 200, 3) := by decide +kernel
theorem dX7_feed_18 : decode cX7_feed 18 = .ok (.aload_n 0, 1) := by decide +kernel
theorem dX7_feed_19 : decode cX7_feed 19 = .ok (.getfield 10, 3) := by decide +kernel
theorem dX7_feed_22 : decode cX7_feed 22 = .ok (.getfield 71, 3) := by decide +kernel
theorem dX7_feed_25 : decode cX7_feed 25 = .ok (.isub, 1) := by decide +kernel
theorem dX7_feed_26 : decode cX7_feed 26 = .ok (.if_icmp .le 6, 3) := by decide +kernel
theorem dX7_feed_29 : decode cX7_feed 29 = .ok (.bipush (-103), 2) := by decide +kernel
theorem dX7_feed_31 : decode cX7_feed 31 = .ok (.ireturn, 1) := by decide +kernel
theorem dX7_feed_32 : decode cX7_feed 32 = .ok (.iload_n 1, 1) := by decide +kernel
theorem dX7_feed_33 : decode cX7_feed 33 = .ok (.iconst 1, 1) := by decide +kernel
theorem dX7_feed_34 : decode cX7_feed 34 = .ok (.isub, 1) := by decide +kernel
theorem dX7_feed_35 : decode cX7_feed 35 = .ok (.istore 4, 2) := by decide +kernel
theorem dX7_feed_37 : decode cX7_feed 37 = .ok (.iload 4, 2) := by decide +kernel
theorem dX7_feed_39 : decode cX7_feed 39 = .ok (.ifCond .lt 46, 3) := by decide +kernel
theorem dX7_feed_42 : decode cX7_feed 42 = .ok (.aload_n 0, 1) := by decide +kernel
theorem dX7_feed_43 : decode cX7_feed 43 = .ok (.getfield 10, 3) := by decide +kernel
theorem dX7_feed_46 : decode cX7_feed 46 = .ok (.getfield 75, 3) := by decide +kernel
theorem dX7_feed_49 : decode cX7_feed 49 = .ok (.aload_n 0, 1) := by decide +kernel
theorem dX7_feed_50 : decode cX7_feed 50 = .ok (.getfield 10, 3) := by decide +kernel
theorem dX7_feed_53 : decode cX7_feed 53 = .ok (.getfield 71, 3) := by decide +kernel
theorem dX7_feed_56 : decode cX7_feed 56 = .ok (.lload_n 2, 1) := by decide +kernel
theorem dX7_feed_57 : decode cX7_feed 57 = .ok (.bipush 8, 2) := by decide +kernel
theorem dX7_feed_59 : decode cX7_feed 59 = .ok (.iload 4, 2) := by decide +kernel
theorem dX7_feed_61 : decode cX7_feed 61 = .ok (.imul, 1) := by decide +kernel
theorem dX7_feed_62 : decode cX7_feed 62 = .ok (.lushr, 1) := by decide +kernel
theorem dX7_feed_63 : decode cX7_feed 63 = .ok (.l2i, 1) := by decide +kernel
theorem dX7_feed_64 : decode cX7_feed 64 = .ok (.i2b, 1) := by decide +kernel
theorem dX7_feed_65 : decode cX7_feed 65 = .ok (.bastore, 1) := by decide +kernel
theorem dX7_feed_66 : decode cX7_feed 66 = .ok (.aload_n 0, 1) := by decide +kernel
theorem dX7_feed_67 : decode cX7_feed 67 = .ok (.getfield 10, 3) := by decide +kernel
theorem dX7_feed_70 : decode cX7_feed 70 = .ok (.dup, 1) := by decide +kernel
theorem dX7_feed_71 : decode cX7_feed 71 = .ok (.getfield 71, 3) := by decide +kernel
theorem dX7_feed_74 : decode cX7_feed 74 = .ok (.iconst 1, 1) := by decide +kernel
theorem dX7_feed_75 : decode cX7_feed 75 = .ok (.iadd, 1) := by decide +kernel
theorem dX7_feed_76 : decode cX7_feed 76 = .ok (.putfield 71, 3) := by decide +kernel
theorem dX7_feed_79 : decode cX7_feed 79 = .ok (.iinc 4 (-1), 3) := by decide +kernel
theorem dX7_feed_82 : decode cX7_feed 82 = .ok (.goto (-45), 3) := by decide +kernel
theorem dX7_feed_85 : decode cX7_feed 85 = .ok (.aload_n 0, 1) := by decide +kernel
theorem dX7_feed_86 : decode cX7_feed 86 = .ok (.getfield 10, 3) := by decide +kernel
theorem dX7_feed_89 : decode cX7_feed 89 = .ok (.getfield 71, 3) := by decide +kernel
theorem dX7_feed_92 : decode cX7_feed 92 = .ok (.ireturn, 1) := by decide +kernel
theorem dX7_key_0 : decode cX7_key 0 = .ok (.aload_n 0, 1) := by decide +kernel
theorem dX7_key_1 : decode cX7_key 1 = .ok (.getfield 10, 3) := by decide +kernel
theorem dX7_key_4 : decode cX7_key 4 = .ok (.getfield 75, 3) := by decide +kernel
theorem dX7_key_7 : decode cX7_key 7 = .ok (.iconst 0, 1) := by decide +kernel
theorem dX7_key_8 : decode cX7_key 8 = .ok (.aload_n 0, 1) := by decide +kernel
theorem dX7_key_9 : decode cX7_key 9 = .ok (.getfield 16, 3) := by decide +kernel
theorem dX7_key_12 : decode cX7_key 12 = .ok (.getfield 75, 3) := by decide +kernel
theorem dX7_key_15 : decode cX7_key 15 = .ok (.iconst 0, 1) := by decide +kernel
theorem dX7_key_16 : decode cX7_key 16 = .ok (.aload_n 0, 1) := by decide +kernel
theorem dX7_key_17 : decode cX7_key 17 = .ok (.getfield 10, 3) := by decide +kernel
theorem dX7_key_20 : decode cX7_key 20 = .ok (.getfield 71, 3) := by decide +kernel
theorem dX7_key_23 : decode cX7_key 23 = .ok (.invokestatic 78, 3) := by decide +kernel
theorem dX7_key_26 : decode cX7_key 26 = .ok (.aload_n 0, 1) := by decide +kernel
theorem dX7_key_27 : decode cX7_key 27 = .ok (.getfield 16, 3) := by decide +kernel
theorem dX7_key_30 : decode cX7_key 30 = .ok (.aload_n 0, 1) := by decide +kernel
theorem dX7_key_31 : decode cX7_key 31 = .ok (.getfield 10, 3) := by decide +kernel
theorem dX7_key_34 : decode cX7_key 34 = .ok (.getfield 71, 3) := by decide +kernel
theorem dX7_key_37 : decode cX7_key 37 = .ok (.putfield 71, 3) := by decide +kernel
theorem dX7_key_40 : decode cX7_key 40 = .ok (.aload_n 0, 1) := by decide +kernel
theorem dX7_key_41 : decode cX7_key 41 = .ok (.getfield 10, 3) := by decide +kernel
theorem dX7_key_44 : decode cX7_key 44 = .ok (.iconst 0, 1) := by decide +kernel
theorem dX7_key_45 : decode cX7_key 45 = .ok (.putfield 71, 3) := by decide +kernel
theorem dX7_key_48 : decode cX7_key 48 = .ok (.aload_n 0, 1) := by decide +kernel
theorem dX7_key_49 : decode cX7_key 49 = .ok (.getfield 16, 3) := by decide +kernel
theorem dX7_key_52 : decode cX7_key 52 = .ok (.getfield 71, 3) := by decide +kernel
theorem dX7_key_55 : decode cX7_key 55 = .ok (.ireturn, 1) := by decide +kernel
theorem dX7_digest_0 : decode cX7_digest 0 = .ok (.iload_n 1, 1) := by decide +kernel
theorem dX7_digest_1 : decode cX7_digest 1 = .ok (.invokestatic 84, 3) := by decide +kernel
theorem dX7_digest_4 : decode cX7_digest 4 = .ok (.ifCond .ne 6, 3) := by decide +kernel
theorem dX7_digest_7 : decode cX7_digest 7 = .ok (.bipush (-102), 2) := by decide +kernel
theorem dX7_digest_9 : decode cX7_digest 9 = .ok (.ireturn, 1) := by decide +kernel
theorem dX7_digest_10 : decode cX7_digest 10 = .ok (.aload_n 0, 1) := by decide +kernel
theorem dX7_digest_11 : decode cX7_digest 11 = .ok (.getfield 42, 3) := by decide +kernel
theorem dX7_digest_14 : decode cX7_digest 14 = .ok (.invokevirtual 88, 3) := by decide +kernel
theorem dX7_digest_17 : decode cX7_digest 17 = .ok (.ifCond .eq 6, 3) := by decide +kernel
theorem dX7_digest_20 : decode cX7_digest 20 = .ok (.bipush (-103), 2) := by decide +kernel
theorem dX7_digest_22 : decode cX7_digest 22 = .ok (.ireturn, 1) := by decide +kernel
theorem dX7_digest_23 : decode cX7_digest 23 = .ok (.aload_n 0, 1) := by decide +kernel
theorem dX7_digest_24 : decode cX7_digest 24 = .ok (.getfield 31, 3) := by decide +kernel
theorem dX7_digest_27 : decode cX7_digest 27 = .ok (.iload_n 1, 1) := by decide +kernel
theorem dX7_digest_28 : decode cX7_digest 28 = .ok (.aload_n 0, 1) := by decide +kernel
theorem dX7_digest_29 : decode cX7_digest 29 = .ok (.getfield 16, 3) := by decide +kernel
theorem dX7_digest_32 : decode cX7_digest 32 = .ok (.invokevirtual 92, 3) := by decide +kernel
theorem dX7_digest_35 : decode cX7_digest 35 = .ok (.aload_n 0, 1) := by decide +kernel
theorem dX7_digest_36 : decode cX7_digest 36 = .ok (.getfield 31, 3) := by decide +kernel
theorem dX7_digest_39 : decode cX7_digest 39 = .ok (.aload_n 0, 1) := by decide +kernel
theorem dX7_digest_40 : decode cX7_digest 40 = .ok (.getfield 10, 3) := by decide +kernel
theorem dX7_digest_43 : decode cX7_digest 43 = .ok (.invokevirtual 96, 3) := by decide +kernel
theorem dX7_digest_46 : decode cX7_digest 46 = .ok (.aload_n 0, 1) := by decide +kernel
theorem dX7_digest_47 : decode cX7_digest 47 = .ok (.getfield 10, 3) := by decide +kernel
theorem dX7_digest_50 : decode cX7_digest 50 = .ok (.iconst 0, 1) := by decide +kernel
theorem dX7_digest_51 : decode cX7_digest 51 = .ok (.putfield 71, 3) := by decide +kernel
theorem dX7_digest_54 : decode cX7_digest 54 = .ok (.aload_n 0, 1) := by decide +kernel
theorem dX7_digest_55 : decode cX7_digest 55 = .ok (.getfield 31, 3) := by decide +kernel
theorem dX7_digest_58 : decode cX7_digest 58 = .ok (.aload_n 0, 1) := by decide +kernel
theorem dX7_digest_59 : decode cX7_digest 59 = .ok (.getfield 42, 3) := by decide +kernel
theorem dX7_digest_62 : decode cX7_digest 62 = .ok (.invokevirtual 100, 3) := by decide +kernel
theorem dX7_digest_65 : decode cX7_digest 65 = .ok (.ireturn, 1) := by decide +kernel
theorem dX7_open_0 : decode cX7_open 0 = .ok (.iload_n 1, 1) := by decide +kernel
theorem dX7_open_1 : decode cX7_open 1 = .ok (.invokestatic 104, 3) := by decide +kernel
theorem dX7_open_4 : decode cX7_open 4 = .ok (.ifCond .eq 10, 3) := by decide +kernel
theorem dX7_open_7 : decode cX7_open 7 = .ok (.iload_n 2, 1) := by decide +kernel
theorem dX7_open_8 : decode cX7_open 8 = .ok (.invokestatic 84, 3) := by decide +kernel
theorem dX7_open_11 : decode cX7_open 11 = .ok (.ifCond .ne 6, 3) := by decide +kernel
theorem dX7_open_14 : decode cX7_open 14 = .ok (.bipush (-102), 2) := by decide +kernel
theorem dX7_open_16 : decode cX7_open 16 = .ok (.ireturn, 1) := by decide +kernel
theorem dX7_open_17 : decode cX7_open 17 = .ok (.aload_n 0, 1) := by decide +kernel
theorem dX7_open_18 : decode cX7_open 18 = .ok (.getfield 35, 3) := by decide +kernel
theorem dX7_open_21 : decode cX7_open 21 = .ok (.iload_n 1, 1) := by decide +kernel
theorem dX7_open_22 : decode cX7_open 22 = .ok (.aaload, 1) := by decide +kernel
theorem dX7_open_23 : decode cX7_open 23 = .ok (.getfield 107, 3) := by decide +kernel
theorem dX7_open_26 : decode cX7_open 26 = .ok (.ifCond .eq 6, 3) := by decide +kernel
theorem dX7_open_29 : decode cX7_open 29 = .ok (.bipush (-104), 2) := by decide +kernel
theorem dX7_open_31 : decode cX7_open 31 = .ok (.ireturn, 1) := by decide +kernel
theorem dX7_open_32 : decode cX7_open 32 = .ok (.aload_n 0, 1) := by decide +kernel
theorem dX7_open_33 : decode cX7_open 33 = .ok (.getfield 35, 3) := by decide +kernel
theorem dX7_open_36 : decode cX7_open 36 = .ok (.iload_n 1, 1) := by decide +kernel
theorem dX7_open_37 : decode cX7_open 37 = .ok (.aaload, 1) := by decide +kernel
theorem dX7_open_38 : decode cX7_open 38 = .ok (.iload_n 2, 1) := by decide +kernel
theorem dX7_open_39 : decode cX7_open 39 = .ok (.aload_n 0, 1) := by decide +kernel
theorem dX7_open_40 : decode cX7_open 40 = .ok (.getfield 16, 3) := by decide +kernel
theorem dX7_open_43 : decode cX7_open 43 = .ok (.invokevirtual 92, 3) := by decide +kernel
theorem dX7_open_46 : decode cX7_open 46 = .ok (.aload_n 0, 1) := by decide +kernel
theorem dX7_open_47 : decode cX7_open 47 = .ok (.getfield 35, 3) := by decide +kernel
theorem dX7_open_50 : decode cX7_open 50 = .ok (.iload_n 1, 1) := by decide +kernel
theorem dX7_open_51 : decode cX7_open 51 = .ok (.aaload, 1) := by decide +kernel
theorem dX7_open_52 : decode cX7_open 52 = .ok (.iconst 1, 1) := by decide +kernel
theorem dX7_open_53 : decode cX7_open 53 = .ok (.putfield 107, 3) := by decide +kernel
theorem dX7_open_56 : decode cX7_open 56 = .ok (.iconst 1, 1) := by decide +kernel
theorem dX7_open_57 : decode cX7_open 57 = .ok (.ireturn, 1) := by decide +kernel
theorem dX7_more_0 : decode cX7_more 0 = .ok (.iload_n 1, 1) := by decide +kernel
theorem dX7_more_1 : decode cX7_more 1 = .ok (.invokestatic 104, 3) := by decide +kernel
theorem dX7_more_4 : decode cX7_more 4 = .ok (.ifCond .ne 6, 3) := by decide +kernel
theorem dX7_more_7 : decode cX7_more 7 = .ok (.bipush (-102), 2) := by decide +kernel
theorem dX7_more_9 : decode cX7_more 9 = .ok (.ireturn, 1) := by decide +kernel
theorem dX7_more_10 : decode cX7_more 10 = .ok (.aload_n 0, 1) := by decide +kernel
theorem dX7_more_11 : decode cX7_more 11 = .ok (.getfield 35, 3) := by decide +kernel
theorem dX7_more_14 : decode cX7_more 14 = .ok (.iload_n 1, 1) := by decide +kernel
theorem dX7_more_15 : decode cX7_more 15 = .ok (.aaload, 1) := by decide +kernel
theorem dX7_more_16 : decode cX7_more 16 = .ok (.astore_n 2, 1) := by decide +kernel
theorem dX7_more_17 : decode cX7_more 17 = .ok (.aload_n 2, 1) := by decide +kernel
theorem dX7_more_18 : decode cX7_more 18 = .ok (.getfield 107, 3) := by decide +kernel
theorem dX7_more_21 : decode cX7_more 21 = .ok (.ifCond .ne 6, 3) := by decide +kernel
theorem dX7_more_24 : decode cX7_more 24 = .ok (.bipush (-104), 2) := by decide +kernel
theorem dX7_more_26 : decode cX7_more 26 = .ok (.ireturn, 1) := by decide +kernel
theorem dX7_more_27 : decode cX7_more 27 = .ok (.aload_n 0, 1) := by decide +kernel
theorem dX7_more_28 : decode cX7_more 28 = .ok (.getfield 10, 3) := by decide +kernel
theorem dX7_more_31 : decode cX7_more 31 = .ok (.getfield 71, 3) := by decide +kernel
theorem dX7_more_34 : decode cX7_more 34 = .ok (.sipush 2000, 3) := by decide +kernel
theorem dX7_more_37 : decode cX7_more 37 = .ok (.aload_n 2, 1) := by decide +kernel
theorem dX7_more_38 : decode cX7_more 38 = .ok (.getfield 111, 3) := by decide +kernel
theorem dX7_more_41 : decode cX7_more 41 = .ok (.isub, 1) := by decide +kernel
theorem dX7_more_42 : decode cX7_more 42 = .ok (.if_icmp .le 6, 3) := by decide +kernel
theorem dX7_more_45 : decode cX7_more 45 = .ok (.bipush (-103), 2) := by decide +kernel
theorem dX7_more_47 : decode cX7_more 47 = .ok (.ireturn, 1) := by decide +kernel
theorem dX7_more_48 : decode cX7_more 48 = .ok (.aload_n 2, 1) := by decide +kernel
theorem dX7_more_49 : decode cX7_more 49 = .ok (.aload_n 0, 1) := by decide +kernel
theorem dX7_more_50 : decode cX7_more 50 = .ok (.getfield 10, 3) := by decide +kernel
theorem dX7_more_53 : decode cX7_more 53 = .ok (.invokevirtual 96, 3) := by decide +kernel
theorem dX7_more_56 : decode cX7_more 56 = .ok (.aload_n 0, 1) := by decide +kernel
theorem dX7_more_57 : decode cX7_more 57 = .ok (.getfield 10, 3) := by decide +kernel
theorem dX7_more_60 : decode cX7_more 60 = .ok (.iconst 0, 1) := by decide +kernel
theorem dX7_more_61 : decode cX7_more 61 = .ok (.putfield 71, 3) := by decide +kernel
theorem dX7_more_64 : decode cX7_more 64 = .ok (.aload_n 2, 1) := by decide +kernel
theorem dX7_more_65 : decode cX7_more 65 = .ok (.getfield 111, 3) := by decide +kernel
theorem dX7_more_68 : decode cX7_more 68 = .ok (.ireturn, 1) := by decide +kernel
theorem dX7_end_0 : decode cX7_end 0 = .ok (.iload_n 1, 1) := by decide +kernel
theorem dX7_end_1 : decode cX7_end 1 = .ok (.invokestatic 104, 3) := by decide +kernel
theorem dX7_end_4 : decode cX7_end 4 = .ok (.ifCond .ne 6, 3) := by decide +kernel
theorem dX7_end_7 : decode cX7_end 7 = .ok (.bipush (-102), 2) := by decide +kernel
theorem dX7_end_9 : decode cX7_end 9 = .ok (.ireturn, 1) := by decide +kernel
theorem dX7_end_10 : decode cX7_end 10 = .ok (.aload_n 0, 1) := by decide +kernel
theorem dX7_end_11 : decode cX7_end 11 = .ok (.getfield 35, 3) := by decide +kernel
theorem dX7_end_14 : decode cX7_end 14 = .ok (.iload_n 1, 1) := by decide +kernel
theorem dX7_end_15 : decode cX7_end 15 = .ok (.aaload, 1) := by decide +kernel
theorem dX7_end_16 : decode cX7_end 16 = .ok (.getfield 107, 3) := by decide +kernel
theorem dX7_end_19 : decode cX7_end 19 = .ok (.ifCond .ne 6, 3) := by decide +kernel
theorem dX7_end_22 : decode cX7_end 22 = .ok (.bipush (-104), 2) := by decide +kernel
theorem dX7_end_24 : decode cX7_end 24 = .ok (.ireturn, 1) := by decide +kernel
theorem dX7_end_25 : decode cX7_end 25 = .ok (.aload_n 0, 1) := by decide +kernel
theorem dX7_end_26 : decode cX7_end 26 = .ok (.getfield 42, 3) := by decide +kernel
theorem dX7_end_29 : decode cX7_end 29 = .ok (.invokevirtual 88, 3) := by decide +kernel
theorem dX7_end_32 : decode cX7_end 32 = .ok (.ifCond .eq 6, 3) := by decide +kernel
theorem dX7_end_35 : decode cX7_end 35 = .ok (.bipush (-103), 2) := by decide +kernel
theorem dX7_end_37 : decode cX7_end 37 = .ok (.ireturn, 1) := by decide +kernel
theorem dX7_end_38 : decode cX7_end 38 = .ok (.aload_n 0, 1) := by decide +kernel
theorem dX7_end_39 : decode cX7_end 39 = .ok (.getfield 35, 3) := by decide +kernel
theorem dX7_end_42 : decode cX7_end 42 = .ok (.iload_n 1, 1) := by decide +kernel
theorem dX7_end_43 : decode cX7_end 43 = .ok (.aaload, 1) := by decide +kernel
theorem dX7_end_44 : decode cX7_end 44 = .ok (.iconst 0, 1) := by decide +kernel
theorem dX7_end_45 : decode cX7_end 45 = .ok (.putfield 107, 3) := by decide +kernel
theorem dX7_end_48 : decode cX7_end 48 = .ok (.aload_n 0, 1) := by decide +kernel
theorem dX7_end_49 : decode cX7_end 49 = .ok (.getfield 35, 3) := by decide +kernel
theorem dX7_end_52 : decode cX7_end 52 = .ok (.iload_n 1, 1) := by decide +kernel
theorem dX7_end_53 : decode cX7_end 53 = .ok (.aaload, 1) := by decide +kernel
theorem dX7_end_54 : decode cX7_end 54 = .ok (.aload_n 0, 1) := by decide +kernel
theorem dX7_end_55 : decode cX7_end 55 = .ok (.getfield 42, 3) := by decide +kernel
theorem dX7_end_58 : decode cX7_end 58 = .ok (.invokevirtual 100, 3) := by decide +kernel
theorem dX7_end_61 : decode cX7_end 61 = .ok (.ireturn, 1) := by decide +kernel
theorem dX7_told_0 : decode cX7_told 0 = .ok (.aload_n 0, 1) := by decide +kernel
theorem dX7_told_1 : decode cX7_told 1 = .ok (.getfield 42, 3) := by decide +kernel
theorem dX7_told_4 : decode cX7_told 4 = .ok (.iload_n 1, 1) := by decide +kernel
theorem dX7_told_5 : decode cX7_told 5 = .ok (.invokevirtual 114, 3) := by decide +kernel
theorem dX7_told_8 : decode cX7_told 8 = .ok (.ifCond .ne 6, 3) := by decide +kernel
theorem dX7_told_11 : decode cX7_told 11 = .ok (.bipush (-101), 2) := by decide +kernel
theorem dX7_told_13 : decode cX7_told 13 = .ok (.ireturn, 1) := by decide +kernel
theorem dX7_told_14 : decode cX7_told 14 = .ok (.iload_n 2, 1) := by decide +kernel
theorem dX7_told_15 : decode cX7_told 15 = .ok (.tableswitch 58 0 2 #[25, 35, 48], 25) := by decide +kernel
theorem dX7_told_40 : decode cX7_told 40 = .ok (.aload_n 0, 1) := by decide +kernel
theorem dX7_told_41 : decode cX7_told 41 = .ok (.getfield 42, 3) := by decide +kernel
theorem dX7_told_44 : decode cX7_told 44 = .ok (.getfield 117, 3) := by decide +kernel
theorem dX7_told_47 : decode cX7_told 47 = .ok (.iload_n 1, 1) := by decide +kernel
theorem dX7_told_48 : decode cX7_told 48 = .ok (.iaload, 1) := by decide +kernel
theorem dX7_told_49 : decode cX7_told 49 = .ok (.ireturn, 1) := by decide +kernel
theorem dX7_told_50 : decode cX7_told 50 = .ok (.aload_n 0, 1) := by decide +kernel
theorem dX7_told_51 : decode cX7_told 51 = .ok (.getfield 42, 3) := by decide +kernel
theorem dX7_told_54 : decode cX7_told 54 = .ok (.getfield 117, 3) := by decide +kernel
theorem dX7_told_57 : decode cX7_told 57 = .ok (.iload_n 1, 1) := by decide +kernel
theorem dX7_told_58 : decode cX7_told 58 = .ok (.iaload, 1) := by decide +kernel
theorem dX7_told_59 : decode cX7_told 59 = .ok (.invokestatic 121, 3) := by decide +kernel
theorem dX7_told_62 : decode cX7_told 62 = .ok (.ireturn, 1) := by decide +kernel
theorem dX7_told_63 : decode cX7_told 63 = .ok (.aload_n 0, 1) := by decide +kernel
theorem dX7_told_64 : decode cX7_told 64 = .ok (.getfield 42, 3) := by decide +kernel
theorem dX7_told_67 : decode cX7_told 67 = .ok (.getfield 125, 3) := by decide +kernel
theorem dX7_told_70 : decode cX7_told 70 = .ok (.iload_n 1, 1) := by decide +kernel
theorem dX7_told_71 : decode cX7_told 71 = .ok (.iaload, 1) := by decide +kernel
theorem dX7_told_72 : decode cX7_told 72 = .ok (.ireturn, 1) := by decide +kernel
theorem dX7_told_73 : decode cX7_told 73 = .ok (.bipush (-102), 2) := by decide +kernel
theorem dX7_told_75 : decode cX7_told 75 = .ok (.ireturn, 1) := by decide +kernel
theorem dX7_read_0 : decode cX7_read 0 = .ok (.aload_n 0, 1) := by decide +kernel
theorem dX7_read_1 : decode cX7_read 1 = .ok (.getfield 42, 3) := by decide +kernel
theorem dX7_read_4 : decode cX7_read 4 = .ok (.iload_n 1, 1) := by decide +kernel
theorem dX7_read_5 : decode cX7_read 5 = .ok (.invokevirtual 114, 3) := by decide +kernel
theorem dX7_read_8 : decode cX7_read 8 = .ok (.ifCond .ne 7, 3) := by decide +kernel
theorem dX7_read_11 : decode cX7_read 11 = .ok (.ldc2_w 128, 3) := by decide +kernel
theorem dX7_read_14 : decode cX7_read 14 = .ok (.lreturn, 1) := by decide +kernel
theorem dX7_read_15 : decode cX7_read 15 = .ok (.iload_n 2, 1) := by decide +kernel
theorem dX7_read_16 : decode cX7_read 16 = .ok (.ifCond .lt 11, 3) := by decide +kernel
theorem dX7_read_19 : decode cX7_read 19 = .ok (.iload_n 2, 1) := by decide +kernel
theorem dX7_read_20 : decode cX7_read 20 = .ok (.getstatic 130, 3) := by decide +kernel
theorem dX7_read_23 : decode cX7_read 23 = .ok (.arraylength, 1) := by decide +kernel
theorem dX7_read_24 : decode cX7_read 24 = .ok (.if_icmp .lt 7, 3) := by decide +kernel
theorem dX7_read_27 : decode cX7_read 27 = .ok (.ldc2_w 133, 3) := by decide +kernel
theorem dX7_read_30 : decode cX7_read 30 = .ok (.lreturn, 1) := by decide +kernel
theorem dX7_read_31 : decode cX7_read 31 = .ok (.getstatic 130, 3) := by decide +kernel
theorem dX7_read_34 : decode cX7_read 34 = .ok (.iload_n 2, 1) := by decide +kernel
theorem dX7_read_35 : decode cX7_read 35 = .ok (.iaload, 1) := by decide +kernel
theorem dX7_read_36 : decode cX7_read 36 = .ok (.istore 4, 2) := by decide +kernel
theorem dX7_read_38 : decode cX7_read 38 = .ok (.iload_n 3, 1) := by decide +kernel
theorem dX7_read_39 : decode cX7_read 39 = .ok (.ifCond .lt 22, 3) := by decide +kernel
theorem dX7_read_42 : decode cX7_read 42 = .ok (.iload_n 3, 1) := by decide +kernel
theorem dX7_read_43 : decode cX7_read 43 = .ok (.aload_n 0, 1) := by decide +kernel
theorem dX7_read_44 : decode cX7_read 44 = .ok (.getfield 42, 3) := by decide +kernel
theorem dX7_read_47 : decode cX7_read 47 = .ok (.getfield 117, 3) := by decide +kernel
theorem dX7_read_50 : decode cX7_read 50 = .ok (.iload_n 1, 1) := by decide +kernel
theorem dX7_read_51 : decode cX7_read 51 = .ok (.iaload, 1) := by decide +kernel
theorem dX7_read_52 : decode cX7_read 52 = .ok (.invokestatic 121, 3) := by decide +kernel
theorem dX7_read_55 : decode cX7_read 55 = .ok (.iload 4, 2) := by decide +kernel
theorem dX7_read_57 : decode cX7_read 57 = .ok (.isub, 1) := by decide +kernel
theorem dX7_read_58 : decode cX7_read 58 = .ok (.if_icmp .le 13, 3) := by decide +kernel
theorem dX7_read_61 : decode cX7_read 61 = .ok (.new 135, 3) := by decide +kernel
theorem dX7_read_64 : decode cX7_read 64 = .ok (.dup, 1) := by decide +kernel
theorem dX7_read_65 : decode cX7_read 65 = .ok (.ldc 137, 2) := by decide +kernel
theorem dX7_read_67 : decode cX7_read 67 = .ok (.invokespecial 139, 3) := by decide +kernel
theorem dX7_read_70 : decode cX7_read 70 = .ok (.athrow, 1) := by decide +kernel
theorem dX7_read_71 : decode cX7_read 71 = .ok (.lconst 0, 1) := by decide +kernel
theorem dX7_read_72 : decode cX7_read 72 = .ok (.lstore 5, 2) := by decide +kernel
theorem dX7_read_74 : decode cX7_read 74 = .ok (.iconst 0, 1) := by decide +kernel
theorem dX7_read_75 : decode cX7_read 75 = .ok (.istore 7, 2) := by decide +kernel
theorem dX7_read_77 : decode cX7_read 77 = .ok (.iload 7, 2) := by decide +kernel
theorem dX7_read_79 : decode cX7_read 79 = .ok (.iload 4, 2) := by decide +kernel
theorem dX7_read_81 : decode cX7_read 81 = .ok (.if_icmp .ge 36, 3) := by decide +kernel
theorem dX7_read_84 : decode cX7_read 84 = .ok (.lload 5, 2) := by decide +kernel
theorem dX7_read_86 : decode cX7_read 86 = .ok (.bipush 8, 2) := by decide +kernel
theorem dX7_read_88 : decode cX7_read 88 = .ok (.lshl, 1) := by decide +kernel
theorem dX7_read_89 : decode cX7_read 89 = .ok (.aload_n 0, 1) := by decide +kernel
theorem dX7_read_90 : decode cX7_read 90 = .ok (.getfield 42, 3) := by decide +kernel
theorem dX7_read_93 : decode cX7_read 93 = .ok (.getfield 142, 3) := by decide +kernel
theorem dX7_read_96 : decode cX7_read 96 = .ok (.iload_n 1, 1) := by decide +kernel
theorem dX7_read_97 : decode cX7_read 97 = .ok (.aaload, 1) := by decide +kernel
theorem dX7_read_98 : decode cX7_read 98 = .ok (.iload_n 3, 1) := by decide +kernel
theorem dX7_read_99 : decode cX7_read 99 = .ok (.iload 7, 2) := by decide +kernel
theorem dX7_read_101 : decode cX7_read 101 = .ok (.iadd, 1) := by decide +kernel
theorem dX7_read_102 : decode cX7_read 102 = .ok (.baload, 1) := by decide +kernel
theorem dX7_read_103 : decode cX7_read 103 = .ok (.sipush 255, 3) := by decide +kernel
theorem dX7_read_106 : decode cX7_read 106 = .ok (.iand, 1) := by decide +kernel
theorem dX7_read_107 : decode cX7_read 107 = .ok (.i2l, 1) := by decide +kernel
theorem dX7_read_108 : decode cX7_read 108 = .ok (.lor, 1) := by decide +kernel
theorem dX7_read_109 : decode cX7_read 109 = .ok (.lstore 5, 2) := by decide +kernel
theorem dX7_read_111 : decode cX7_read 111 = .ok (.iinc 7 1, 3) := by decide +kernel
theorem dX7_read_114 : decode cX7_read 114 = .ok (.goto (-37), 3) := by decide +kernel
theorem dX7_read_117 : decode cX7_read 117 = .ok (.iload_n 2, 1) := by decide +kernel
theorem dX7_read_118 : decode cX7_read 118 = .ok (.lload 5, 2) := by decide +kernel
theorem dX7_read_120 : decode cX7_read 120 = .ok (.invokestatic 146, 3) := by decide +kernel
theorem dX7_read_123 : decode cX7_read 123 = .ok (.lreturn, 1) := by decide +kernel
theorem dX7_plan_0 : decode cX7_plan 0 = .ok (.aload_n 0, 1) := by decide +kernel
theorem dX7_plan_1 : decode cX7_plan 1 = .ok (.getfield 42, 3) := by decide +kernel
theorem dX7_plan_4 : decode cX7_plan 4 = .ok (.iload_n 1, 1) := by decide +kernel
theorem dX7_plan_5 : decode cX7_plan 5 = .ok (.invokevirtual 114, 3) := by decide +kernel
theorem dX7_plan_8 : decode cX7_plan 8 = .ok (.ifCond .ne 7, 3) := by decide +kernel
theorem dX7_plan_11 : decode cX7_plan 11 = .ok (.ldc2_w 128, 3) := by decide +kernel
theorem dX7_plan_14 : decode cX7_plan 14 = .ok (.lreturn, 1) := by decide +kernel
theorem dX7_plan_15 : decode cX7_plan 15 = .ok (.iload_n 2, 1) := by decide +kernel
theorem dX7_plan_16 : decode cX7_plan 16 = .ok (.ifCond .lt 9, 3) := by decide +kernel
theorem dX7_plan_19 : decode cX7_plan 19 = .ok (.iload_n 2, 1) := by decide +kernel
theorem dX7_plan_20 : decode cX7_plan 20 = .ok (.bipush 64, 2) := by decide +kernel
theorem dX7_plan_22 : decode cX7_plan 22 = .ok (.if_icmp .lt 13, 3) := by decide +kernel
theorem dX7_plan_25 : decode cX7_plan 25 = .ok (.new 135, 3) := by decide +kernel
theorem dX7_plan_28 : decode cX7_plan 28 = .ok (.dup, 1) := by decide +kernel
theorem dX7_plan_29 : decode cX7_plan 29 = .ok (.ldc 150, 2) := by decide +kernel
theorem dX7_plan_31 : decode cX7_plan 31 = .ok (.invokespecial 139, 3) := by decide +kernel
theorem dX7_plan_34 : decode cX7_plan 34 = .ok (.athrow, 1) := by decide +kernel
theorem dX7_plan_35 : decode cX7_plan 35 = .ok (.aload_n 0, 1) := by decide +kernel
theorem dX7_plan_36 : decode cX7_plan 36 = .ok (.getfield 42, 3) := by decide +kernel
theorem dX7_plan_39 : decode cX7_plan 39 = .ok (.iload_n 1, 1) := by decide +kernel
theorem dX7_plan_40 : decode cX7_plan 40 = .ok (.iload_n 2, 1) := by decide +kernel
theorem dX7_plan_41 : decode cX7_plan 41 = .ok (.invokevirtual 152, 3) := by decide +kernel
theorem dX7_plan_44 : decode cX7_plan 44 = .ok (.i2l, 1) := by decide +kernel
theorem dX7_plan_45 : decode cX7_plan 45 = .ok (.lreturn, 1) := by decide +kernel
theorem dX7_same_0 : decode cX7_same 0 = .ok (.aload_n 0, 1) := by decide +kernel
theorem dX7_same_1 : decode cX7_same 1 = .ok (.getfield 42, 3) := by decide +kernel
theorem dX7_same_4 : decode cX7_same 4 = .ok (.iload_n 1, 1) := by decide +kernel
theorem dX7_same_5 : decode cX7_same 5 = .ok (.invokevirtual 114, 3) := by decide +kernel
theorem dX7_same_8 : decode cX7_same 8 = .ok (.ifCond .eq 14, 3) := by decide +kernel
theorem dX7_same_11 : decode cX7_same 11 = .ok (.aload_n 0, 1) := by decide +kernel
theorem dX7_same_12 : decode cX7_same 12 = .ok (.getfield 42, 3) := by decide +kernel
theorem dX7_same_15 : decode cX7_same 15 = .ok (.iload_n 2, 1) := by decide +kernel
theorem dX7_same_16 : decode cX7_same 16 = .ok (.invokevirtual 114, 3) := by decide +kernel
theorem dX7_same_19 : decode cX7_same 19 = .ok (.ifCond .ne 6, 3) := by decide +kernel
theorem dX7_same_22 : decode cX7_same 22 = .ok (.bipush (-101), 2) := by decide +kernel
theorem dX7_same_24 : decode cX7_same 24 = .ok (.ireturn, 1) := by decide +kernel
theorem dX7_same_25 : decode cX7_same 25 = .ok (.aload_n 0, 1) := by decide +kernel
theorem dX7_same_26 : decode cX7_same 26 = .ok (.getfield 42, 3) := by decide +kernel
theorem dX7_same_29 : decode cX7_same 29 = .ok (.getfield 117, 3) := by decide +kernel
theorem dX7_same_32 : decode cX7_same 32 = .ok (.iload_n 1, 1) := by decide +kernel
theorem dX7_same_33 : decode cX7_same 33 = .ok (.iaload, 1) := by decide +kernel
theorem dX7_same_34 : decode cX7_same 34 = .ok (.invokestatic 121, 3) := by decide +kernel
theorem dX7_same_37 : decode cX7_same 37 = .ok (.istore_n 3, 1) := by decide +kernel
theorem dX7_same_38 : decode cX7_same 38 = .ok (.iload_n 3, 1) := by decide +kernel
theorem dX7_same_39 : decode cX7_same 39 = .ok (.aload_n 0, 1) := by decide +kernel
theorem dX7_same_40 : decode cX7_same 40 = .ok (.getfield 42, 3) := by decide +kernel
theorem dX7_same_43 : decode cX7_same 43 = .ok (.getfield 117, 3) := by decide +kernel
theorem dX7_same_46 : decode cX7_same 46 = .ok (.iload_n 2, 1) := by decide +kernel
theorem dX7_same_47 : decode cX7_same 47 = .ok (.iaload, 1) := by decide +kernel
theorem dX7_same_48 : decode cX7_same 48 = .ok (.invokestatic 121, 3) := by decide +kernel
theorem dX7_same_51 : decode cX7_same 51 = .ok (.if_icmp .eq 5, 3) := by decide +kernel
theorem dX7_same_54 : decode cX7_same 54 = .ok (.iconst 0, 1) := by decide +kernel
theorem dX7_same_55 : decode cX7_same 55 = .ok (.ireturn, 1) := by decide +kernel
theorem dX7_same_56 : decode cX7_same 56 = .ok (.aload_n 0, 1) := by decide +kernel
theorem dX7_same_57 : decode cX7_same 57 = .ok (.getfield 42, 3) := by decide +kernel
theorem dX7_same_60 : decode cX7_same 60 = .ok (.getfield 142, 3) := by decide +kernel
theorem dX7_same_63 : decode cX7_same 63 = .ok (.iload_n 1, 1) := by decide +kernel
theorem dX7_same_64 : decode cX7_same 64 = .ok (.aaload, 1) := by decide +kernel
theorem dX7_same_65 : decode cX7_same 65 = .ok (.aload_n 0, 1) := by decide +kernel
theorem dX7_same_66 : decode cX7_same 66 = .ok (.getfield 42, 3) := by decide +kernel
theorem dX7_same_69 : decode cX7_same 69 = .ok (.getfield 142, 3) := by decide +kernel
theorem dX7_same_72 : decode cX7_same 72 = .ok (.iload_n 2, 1) := by decide +kernel
theorem dX7_same_73 : decode cX7_same 73 = .ok (.aaload, 1) := by decide +kernel
theorem dX7_same_74 : decode cX7_same 74 = .ok (.iload_n 3, 1) := by decide +kernel
theorem dX7_same_75 : decode cX7_same 75 = .ok (.invokestatic 156, 3) := by decide +kernel
theorem dX7_same_78 : decode cX7_same 78 = .ok (.ifCond .eq 7, 3) := by decide +kernel
theorem dX7_same_81 : decode cX7_same 81 = .ok (.iconst 1, 1) := by decide +kernel
theorem dX7_same_82 : decode cX7_same 82 = .ok (.goto 4, 3) := by decide +kernel
theorem dX7_same_85 : decode cX7_same 85 = .ok (.iconst 0, 1) := by decide +kernel
theorem dX7_same_86 : decode cX7_same 86 = .ok (.ireturn, 1) := by decide +kernel
theorem dX7_table_0 : decode cX7_table 0 = .ok (.iload_n 1, 1) := by decide +kernel
theorem dX7_table_1 : decode cX7_table 1 = .ok (.ifCond .lt 9, 3) := by decide +kernel
theorem dX7_table_4 : decode cX7_table 4 = .ok (.iload_n 1, 1) := by decide +kernel
theorem dX7_table_5 : decode cX7_table 5 = .ok (.bipush 64, 2) := by decide +kernel
theorem dX7_table_7 : decode cX7_table 7 = .ok (.if_icmp .lt 13, 3) := by decide +kernel
theorem dX7_table_10 : decode cX7_table 10 = .ok (.new 135, 3) := by decide +kernel
theorem dX7_table_13 : decode cX7_table 13 = .ok (.dup, 1) := by decide +kernel
theorem dX7_table_14 : decode cX7_table 14 = .ok (.ldc 160, 2) := by decide +kernel
theorem dX7_table_16 : decode cX7_table 16 = .ok (.invokespecial 139, 3) := by decide +kernel
theorem dX7_table_19 : decode cX7_table 19 = .ok (.athrow, 1) := by decide +kernel
theorem dX7_table_20 : decode cX7_table 20 = .ok (.getstatic 162, 3) := by decide +kernel
theorem dX7_table_23 : decode cX7_table 23 = .ok (.iload_n 1, 1) := by decide +kernel
theorem dX7_table_24 : decode cX7_table 24 = .ok (.iaload, 1) := by decide +kernel
theorem dX7_table_25 : decode cX7_table 25 = .ok (.ireturn, 1) := by decide +kernel
theorem dX7_leaf_0 : decode cX7_leaf 0 = .ok (.iload_n 1, 1) := by decide +kernel
theorem dX7_leaf_1 : decode cX7_leaf 1 = .ok (.invokestatic 165, 3) := by decide +kernel
theorem dX7_leaf_4 : decode cX7_leaf 4 = .ok (.ifCond .eq 11, 3) := by decide +kernel
theorem dX7_leaf_7 : decode cX7_leaf 7 = .ok (.aload_n 0, 1) := by decide +kernel
theorem dX7_leaf_8 : decode cX7_leaf 8 = .ok (.iload_n 2, 1) := by decide +kernel
theorem dX7_leaf_9 : decode cX7_leaf 9 = .ok (.invokevirtual 168, 3) := by decide +kernel
theorem dX7_leaf_12 : decode cX7_leaf 12 = .ok (.ifCond .ne 6, 3) := by decide +kernel
theorem dX7_leaf_15 : decode cX7_leaf 15 = .ok (.bipush (-102), 2) := by decide +kernel
theorem dX7_leaf_17 : decode cX7_leaf 17 = .ok (.ireturn, 1) := by decide +kernel
theorem dX7_leaf_18 : decode cX7_leaf 18 = .ok (.aload_n 0, 1) := by decide +kernel
theorem dX7_leaf_19 : decode cX7_leaf 19 = .ok (.getfield 48, 3) := by decide +kernel
theorem dX7_leaf_22 : decode cX7_leaf 22 = .ok (.iload_n 1, 1) := by decide +kernel
theorem dX7_leaf_23 : decode cX7_leaf 23 = .ok (.aaload, 1) := by decide +kernel
theorem dX7_leaf_24 : decode cX7_leaf 24 = .ok (.astore_n 3, 1) := by decide +kernel
theorem dX7_leaf_25 : decode cX7_leaf 25 = .ok (.aload_n 3, 1) := by decide +kernel
theorem dX7_leaf_26 : decode cX7_leaf 26 = .ok (.getfield 171, 3) := by decide +kernel
theorem dX7_leaf_29 : decode cX7_leaf 29 = .ok (.bipush 12, 2) := by decide +kernel
theorem dX7_leaf_31 : decode cX7_leaf 31 = .ok (.if_icmp .lt 6, 3) := by decide +kernel
theorem dX7_leaf_34 : decode cX7_leaf 34 = .ok (.bipush (-103), 2) := by decide +kernel
theorem dX7_leaf_36 : decode cX7_leaf 36 = .ok (.ireturn, 1) := by decide +kernel
theorem dX7_leaf_37 : decode cX7_leaf 37 = .ok (.aload_n 0, 1) := by decide +kernel
theorem dX7_leaf_38 : decode cX7_leaf 38 = .ok (.aload_n 3, 1) := by decide +kernel
theorem dX7_leaf_39 : decode cX7_leaf 39 = .ok (.aload_n 3, 1) := by decide +kernel
theorem dX7_leaf_40 : decode cX7_leaf 40 = .ok (.getfield 171, 3) := by decide +kernel
theorem dX7_leaf_43 : decode cX7_leaf 43 = .ok (.iload_n 2, 1) := by decide +kernel
theorem dX7_leaf_44 : decode cX7_leaf 44 = .ok (.invokevirtual 174, 3) := by decide +kernel
theorem dX7_leaf_47 : decode cX7_leaf 47 = .ok (.aload_n 3, 1) := by decide +kernel
theorem dX7_leaf_48 : decode cX7_leaf 48 = .ok (.dup, 1) := by decide +kernel
theorem dX7_leaf_49 : decode cX7_leaf 49 = .ok (.getfield 171, 3) := by decide +kernel
theorem dX7_leaf_52 : decode cX7_leaf 52 = .ok (.iconst 1, 1) := by decide +kernel
theorem dX7_leaf_53 : decode cX7_leaf 53 = .ok (.iadd, 1) := by decide +kernel
theorem dX7_leaf_54 : decode cX7_leaf 54 = .ok (.putfield 171, 3) := by decide +kernel
theorem dX7_leaf_57 : decode cX7_leaf 57 = .ok (.aload_n 3, 1) := by decide +kernel
theorem dX7_leaf_58 : decode cX7_leaf 58 = .ok (.getfield 171, 3) := by decide +kernel
theorem dX7_leaf_61 : decode cX7_leaf 61 = .ok (.ireturn, 1) := by decide +kernel
theorem dX7_change_0 : decode cX7_change 0 = .ok (.iload_n 1, 1) := by decide +kernel
theorem dX7_change_1 : decode cX7_change 1 = .ok (.invokestatic 165, 3) := by decide +kernel
theorem dX7_change_4 : decode cX7_change 4 = .ok (.ifCond .ne 6, 3) := by decide +kernel
theorem dX7_change_7 : decode cX7_change 7 = .ok (.bipush (-102), 2) := by decide +kernel
theorem dX7_change_9 : decode cX7_change 9 = .ok (.ireturn, 1) := by decide +kernel
theorem dX7_change_10 : decode cX7_change 10 = .ok (.aload_n 0, 1) := by decide +kernel
theorem dX7_change_11 : decode cX7_change 11 = .ok (.getfield 48, 3) := by decide +kernel
theorem dX7_change_14 : decode cX7_change 14 = .ok (.iload_n 1, 1) := by decide +kernel
theorem dX7_change_15 : decode cX7_change 15 = .ok (.aaload, 1) := by decide +kernel
theorem dX7_change_16 : decode cX7_change 16 = .ok (.iload_n 2, 1) := by decide +kernel
theorem dX7_change_17 : decode cX7_change 17 = .ok (.invokevirtual 178, 3) := by decide +kernel
theorem dX7_change_20 : decode cX7_change 20 = .ok (.ifCond .ne 6, 3) := by decide +kernel
theorem dX7_change_23 : decode cX7_change 23 = .ok (.bipush (-101), 2) := by decide +kernel
theorem dX7_change_25 : decode cX7_change 25 = .ok (.ireturn, 1) := by decide +kernel
theorem dX7_change_26 : decode cX7_change 26 = .ok (.aload_n 0, 1) := by decide +kernel
theorem dX7_change_27 : decode cX7_change 27 = .ok (.iload_n 3, 1) := by decide +kernel
theorem dX7_change_28 : decode cX7_change 28 = .ok (.invokevirtual 168, 3) := by decide +kernel
theorem dX7_change_31 : decode cX7_change 31 = .ok (.ifCond .ne 6, 3) := by decide +kernel
theorem dX7_change_34 : decode cX7_change 34 = .ok (.bipush (-102), 2) := by decide +kernel
theorem dX7_change_36 : decode cX7_change 36 = .ok (.ireturn, 1) := by decide +kernel
theorem dX7_change_37 : decode cX7_change 37 = .ok (.aload_n 0, 1) := by decide +kernel
theorem dX7_change_38 : decode cX7_change 38 = .ok (.getfield 48, 3) := by decide +kernel
theorem dX7_change_41 : decode cX7_change 41 = .ok (.iload_n 1, 1) := by decide +kernel
theorem dX7_change_42 : decode cX7_change 42 = .ok (.aaload, 1) := by decide +kernel
theorem dX7_change_43 : decode cX7_change 43 = .ok (.getfield 179, 3) := by decide +kernel
theorem dX7_change_46 : decode cX7_change 46 = .ok (.iload_n 2, 1) := by decide +kernel
theorem dX7_change_47 : decode cX7_change 47 = .ok (.iaload, 1) := by decide +kernel
theorem dX7_change_48 : decode cX7_change 48 = .ok (.istore 4, 2) := by decide +kernel
theorem dX7_change_50 : decode cX7_change 50 = .ok (.aload_n 0, 1) := by decide +kernel
theorem dX7_change_51 : decode cX7_change 51 = .ok (.aload_n 0, 1) := by decide +kernel
theorem dX7_change_52 : decode cX7_change 52 = .ok (.getfield 48, 3) := by decide +kernel
theorem dX7_change_55 : decode cX7_change 55 = .ok (.iload_n 1, 1) := by decide +kernel
theorem dX7_change_56 : decode cX7_change 56 = .ok (.aaload, 1) := by decide +kernel
theorem dX7_change_57 : decode cX7_change 57 = .ok (.iload_n 2, 1) := by decide +kernel
theorem dX7_change_58 : decode cX7_change 58 = .ok (.iload_n 3, 1) := by decide +kernel
theorem dX7_change_59 : decode cX7_change 59 = .ok (.invokevirtual 174, 3) := by decide +kernel
theorem dX7_change_62 : decode cX7_change 62 = .ok (.iload 4, 2) := by decide +kernel
theorem dX7_change_64 : decode cX7_change 64 = .ok (.ireturn, 1) := by decide +kernel
theorem dX7_root_0 : decode cX7_root 0 = .ok (.iload_n 1, 1) := by decide +kernel
theorem dX7_root_1 : decode cX7_root 1 = .ok (.invokestatic 165, 3) := by decide +kernel
theorem dX7_root_4 : decode cX7_root 4 = .ok (.ifCond .ne 6, 3) := by decide +kernel
theorem dX7_root_7 : decode cX7_root 7 = .ok (.bipush (-102), 2) := by decide +kernel
theorem dX7_root_9 : decode cX7_root 9 = .ok (.ireturn, 1) := by decide +kernel
theorem dX7_root_10 : decode cX7_root 10 = .ok (.aload_n 0, 1) := by decide +kernel
theorem dX7_root_11 : decode cX7_root 11 = .ok (.getfield 42, 3) := by decide +kernel
theorem dX7_root_14 : decode cX7_root 14 = .ok (.invokevirtual 88, 3) := by decide +kernel
theorem dX7_root_17 : decode cX7_root 17 = .ok (.ifCond .eq 6, 3) := by decide +kernel
theorem dX7_root_20 : decode cX7_root 20 = .ok (.bipush (-103), 2) := by decide +kernel
theorem dX7_root_22 : decode cX7_root 22 = .ok (.ireturn, 1) := by decide +kernel
theorem dX7_root_23 : decode cX7_root 23 = .ok (.aload_n 0, 1) := by decide +kernel
theorem dX7_root_24 : decode cX7_root 24 = .ok (.getfield 48, 3) := by decide +kernel
theorem dX7_root_27 : decode cX7_root 27 = .ok (.iload_n 1, 1) := by decide +kernel
theorem dX7_root_28 : decode cX7_root 28 = .ok (.aaload, 1) := by decide +kernel
theorem dX7_root_29 : decode cX7_root 29 = .ok (.aload_n 0, 1) := by decide +kernel
theorem dX7_root_30 : decode cX7_root 30 = .ok (.getfield 22, 3) := by decide +kernel
theorem dX7_root_33 : decode cX7_root 33 = .ok (.invokevirtual 182, 3) := by decide +kernel
theorem dX7_root_36 : decode cX7_root 36 = .ok (.astore_n 2, 1) := by decide +kernel
theorem dX7_root_37 : decode cX7_root 37 = .ok (.aload_n 0, 1) := by decide +kernel
theorem dX7_root_38 : decode cX7_root 38 = .ok (.getfield 22, 3) := by decide +kernel
theorem dX7_root_41 : decode cX7_root 41 = .ok (.aload_n 0, 1) := by decide +kernel
theorem dX7_root_42 : decode cX7_root 42 = .ok (.getfield 48, 3) := by decide +kernel
theorem dX7_root_45 : decode cX7_root 45 = .ok (.iload_n 1, 1) := by decide +kernel
theorem dX7_root_46 : decode cX7_root 46 = .ok (.aaload, 1) := by decide +kernel
theorem dX7_root_47 : decode cX7_root 47 = .ok (.getfield 171, 3) := by decide +kernel
theorem dX7_root_50 : decode cX7_root 50 = .ok (.aload_n 2, 1) := by decide +kernel
theorem dX7_root_51 : decode cX7_root 51 = .ok (.invokestatic 186, 3) := by decide +kernel
theorem dX7_root_54 : decode cX7_root 54 = .ok (.aload_n 0, 1) := by decide +kernel
theorem dX7_root_55 : decode cX7_root 55 = .ok (.getfield 42, 3) := by decide +kernel
theorem dX7_root_58 : decode cX7_root 58 = .ok (.iconst 0, 1) := by decide +kernel
theorem dX7_root_59 : decode cX7_root 59 = .ok (.aload_n 0, 1) := by decide +kernel
theorem dX7_root_60 : decode cX7_root 60 = .ok (.getfield 22, 3) := by decide +kernel
theorem dX7_root_63 : decode cX7_root 63 = .ok (.getfield 190, 3) := by decide +kernel
theorem dX7_root_66 : decode cX7_root 66 = .ok (.aload_n 0, 1) := by decide +kernel
theorem dX7_root_67 : decode cX7_root 67 = .ok (.getfield 22, 3) := by decide +kernel
theorem dX7_root_70 : decode cX7_root 70 = .ok (.invokevirtual 192, 3) := by decide +kernel
theorem dX7_root_73 : decode cX7_root 73 = .ok (.ireturn, 1) := by decide +kernel
theorem dX7_drop_0 : decode cX7_drop 0 = .ok (.iload_n 1, 1) := by decide +kernel
theorem dX7_drop_1 : decode cX7_drop 1 = .ok (.invokestatic 165, 3) := by decide +kernel
theorem dX7_drop_4 : decode cX7_drop 4 = .ok (.ifCond .ne 6, 3) := by decide +kernel
theorem dX7_drop_7 : decode cX7_drop 7 = .ok (.bipush (-102), 2) := by decide +kernel
theorem dX7_drop_9 : decode cX7_drop 9 = .ok (.ireturn, 1) := by decide +kernel
theorem dX7_drop_10 : decode cX7_drop 10 = .ok (.aload_n 0, 1) := by decide +kernel
theorem dX7_drop_11 : decode cX7_drop 11 = .ok (.getfield 48, 3) := by decide +kernel
theorem dX7_drop_14 : decode cX7_drop 14 = .ok (.iload_n 1, 1) := by decide +kernel
theorem dX7_drop_15 : decode cX7_drop 15 = .ok (.aaload, 1) := by decide +kernel
theorem dX7_drop_16 : decode cX7_drop 16 = .ok (.getfield 171, 3) := by decide +kernel
theorem dX7_drop_19 : decode cX7_drop 19 = .ok (.istore_n 2, 1) := by decide +kernel
theorem dX7_drop_20 : decode cX7_drop 20 = .ok (.aload_n 0, 1) := by decide +kernel
theorem dX7_drop_21 : decode cX7_drop 21 = .ok (.getfield 48, 3) := by decide +kernel
theorem dX7_drop_24 : decode cX7_drop 24 = .ok (.iload_n 1, 1) := by decide +kernel
theorem dX7_drop_25 : decode cX7_drop 25 = .ok (.aaload, 1) := by decide +kernel
theorem dX7_drop_26 : decode cX7_drop 26 = .ok (.iconst 0, 1) := by decide +kernel
theorem dX7_drop_27 : decode cX7_drop 27 = .ok (.putfield 171, 3) := by decide +kernel
theorem dX7_drop_30 : decode cX7_drop 30 = .ok (.iload_n 2, 1) := by decide +kernel
theorem dX7_drop_31 : decode cX7_drop 31 = .ok (.ireturn, 1) := by decide +kernel
theorem dX7_prove_0 : decode cX7_prove 0 = .ok (.iload_n 1, 1) := by decide +kernel
theorem dX7_prove_1 : decode cX7_prove 1 = .ok (.invokestatic 165, 3) := by decide +kernel
theorem dX7_prove_4 : decode cX7_prove 4 = .ok (.ifCond .ne 6, 3) := by decide +kernel
theorem dX7_prove_7 : decode cX7_prove 7 = .ok (.bipush (-102), 2) := by decide +kernel
theorem dX7_prove_9 : decode cX7_prove 9 = .ok (.ireturn, 1) := by decide +kernel
theorem dX7_prove_10 : decode cX7_prove 10 = .ok (.aload_n 0, 1) := by decide +kernel
theorem dX7_prove_11 : decode cX7_prove 11 = .ok (.getfield 48, 3) := by decide +kernel
theorem dX7_prove_14 : decode cX7_prove 14 = .ok (.iload_n 1, 1) := by decide +kernel
theorem dX7_prove_15 : decode cX7_prove 15 = .ok (.aaload, 1) := by decide +kernel
theorem dX7_prove_16 : decode cX7_prove 16 = .ok (.iload_n 2, 1) := by decide +kernel
theorem dX7_prove_17 : decode cX7_prove 17 = .ok (.invokevirtual 178, 3) := by decide +kernel
theorem dX7_prove_20 : decode cX7_prove 20 = .ok (.ifCond .ne 6, 3) := by decide +kernel
theorem dX7_prove_23 : decode cX7_prove 23 = .ok (.bipush (-101), 2) := by decide +kernel
theorem dX7_prove_25 : decode cX7_prove 25 = .ok (.ireturn, 1) := by decide +kernel
theorem dX7_prove_26 : decode cX7_prove 26 = .ok (.aload_n 0, 1) := by decide +kernel
theorem dX7_prove_27 : decode cX7_prove 27 = .ok (.getfield 48, 3) := by decide +kernel
theorem dX7_prove_30 : decode cX7_prove 30 = .ok (.iload_n 1, 1) := by decide +kernel
theorem dX7_prove_31 : decode cX7_prove 31 = .ok (.aaload, 1) := by decide +kernel
theorem dX7_prove_32 : decode cX7_prove 32 = .ok (.aload_n 0, 1) := by decide +kernel
theorem dX7_prove_33 : decode cX7_prove 33 = .ok (.getfield 22, 3) := by decide +kernel
theorem dX7_prove_36 : decode cX7_prove 36 = .ok (.invokevirtual 182, 3) := by decide +kernel
theorem dX7_prove_39 : decode cX7_prove 39 = .ok (.pop, 1) := by decide +kernel
theorem dX7_prove_40 : decode cX7_prove 40 = .ok (.aload_n 0, 1) := by decide +kernel
theorem dX7_prove_41 : decode cX7_prove 41 = .ok (.getfield 55, 3) := by decide +kernel
theorem dX7_prove_44 : decode cX7_prove 44 = .ok (.aload_n 0, 1) := by decide +kernel
theorem dX7_prove_45 : decode cX7_prove 45 = .ok (.getfield 48, 3) := by decide +kernel
theorem dX7_prove_48 : decode cX7_prove 48 = .ok (.iload_n 1, 1) := by decide +kernel
theorem dX7_prove_49 : decode cX7_prove 49 = .ok (.aaload, 1) := by decide +kernel
theorem dX7_prove_50 : decode cX7_prove 50 = .ok (.iload_n 2, 1) := by decide +kernel
theorem dX7_prove_51 : decode cX7_prove 51 = .ok (.invokevirtual 196, 3) := by decide +kernel
theorem dX7_prove_54 : decode cX7_prove 54 = .ok (.aload_n 0, 1) := by decide +kernel
theorem dX7_prove_55 : decode cX7_prove 55 = .ok (.getfield 55, 3) := by decide +kernel
theorem dX7_prove_58 : decode cX7_prove 58 = .ok (.getfield 200, 3) := by decide +kernel
theorem dX7_prove_61 : decode cX7_prove 61 = .ok (.ireturn, 1) := by decide +kernel
theorem dX7_alter_0 : decode cX7_alter 0 = .ok (.iload_n 1, 1) := by decide +kernel
theorem dX7_alter_1 : decode cX7_alter 1 = .ok (.ifCond .lt 14, 3) := by decide +kernel
theorem dX7_alter_4 : decode cX7_alter 4 = .ok (.iload_n 1, 1) := by decide +kernel
theorem dX7_alter_5 : decode cX7_alter 5 = .ok (.aload_n 0, 1) := by decide +kernel
theorem dX7_alter_6 : decode cX7_alter 6 = .ok (.getfield 55, 3) := by decide +kernel
theorem dX7_alter_9 : decode cX7_alter 9 = .ok (.getfield 200, 3) := by decide +kernel
theorem dX7_alter_12 : decode cX7_alter 12 = .ok (.if_icmp .lt 6, 3) := by decide +kernel
theorem dX7_alter_15 : decode cX7_alter 15 = .ok (.bipush (-101), 2) := by decide +kernel
theorem dX7_alter_17 : decode cX7_alter 17 = .ok (.ireturn, 1) := by decide +kernel
theorem dX7_alter_18 : decode cX7_alter 18 = .ok (.iload_n 2, 1) := by decide +kernel
theorem dX7_alter_19 : decode cX7_alter 19 = .ok (.ifCond .lt 20, 3) := by decide +kernel
theorem dX7_alter_22 : decode cX7_alter 22 = .ok (.iload_n 2, 1) := by decide +kernel
theorem dX7_alter_23 : decode cX7_alter 23 = .ok (.bipush 32, 2) := by decide +kernel
theorem dX7_alter_25 : decode cX7_alter 25 = .ok (.if_icmp .ge 14, 3) := by decide +kernel
theorem dX7_alter_28 : decode cX7_alter 28 = .ok (.iload_n 3, 1) := by decide +kernel
theorem dX7_alter_29 : decode cX7_alter 29 = .ok (.ifCond .lt 10, 3) := by decide +kernel
theorem dX7_alter_32 : decode cX7_alter 32 = .ok (.iload_n 3, 1) := by decide +kernel
theorem dX7_alter_33 : decode cX7_alter 33 = .ok (.sipush 255, 3) := by decide +kernel
theorem dX7_alter_36 : decode cX7_alter 36 = .ok (.if_icmp .le 6, 3) := by decide +kernel
theorem dX7_alter_39 : decode cX7_alter 39 = .ok (.bipush (-102), 2) := by decide +kernel
theorem dX7_alter_41 : decode cX7_alter 41 = .ok (.ireturn, 1) := by decide +kernel
theorem dX7_alter_42 : decode cX7_alter 42 = .ok (.aload_n 0, 1) := by decide +kernel
theorem dX7_alter_43 : decode cX7_alter 43 = .ok (.getfield 55, 3) := by decide +kernel
theorem dX7_alter_46 : decode cX7_alter 46 = .ok (.getfield 201, 3) := by decide +kernel
theorem dX7_alter_49 : decode cX7_alter 49 = .ok (.iload_n 1, 1) := by decide +kernel
theorem dX7_alter_50 : decode cX7_alter 50 = .ok (.aaload, 1) := by decide +kernel
theorem dX7_alter_51 : decode cX7_alter 51 = .ok (.astore 4, 2) := by decide +kernel
theorem dX7_alter_53 : decode cX7_alter 53 = .ok (.aload 4, 2) := by decide +kernel
theorem dX7_alter_55 : decode cX7_alter 55 = .ok (.iload_n 2, 1) := by decide +kernel
theorem dX7_alter_56 : decode cX7_alter 56 = .ok (.aload 4, 2) := by decide +kernel
theorem dX7_alter_58 : decode cX7_alter 58 = .ok (.iload_n 2, 1) := by decide +kernel
theorem dX7_alter_59 : decode cX7_alter 59 = .ok (.baload, 1) := by decide +kernel
theorem dX7_alter_60 : decode cX7_alter 60 = .ok (.iload_n 3, 1) := by decide +kernel
theorem dX7_alter_61 : decode cX7_alter 61 = .ok (.ixor, 1) := by decide +kernel
theorem dX7_alter_62 : decode cX7_alter 62 = .ok (.i2b, 1) := by decide +kernel
theorem dX7_alter_63 : decode cX7_alter 63 = .ok (.bastore, 1) := by decide +kernel
theorem dX7_alter_64 : decode cX7_alter 64 = .ok (.aload 4, 2) := by decide +kernel
theorem dX7_alter_66 : decode cX7_alter 66 = .ok (.iload_n 2, 1) := by decide +kernel
theorem dX7_alter_67 : decode cX7_alter 67 = .ok (.baload, 1) := by decide +kernel
theorem dX7_alter_68 : decode cX7_alter 68 = .ok (.sipush 255, 3) := by decide +kernel
theorem dX7_alter_71 : decode cX7_alter 71 = .ok (.iand, 1) := by decide +kernel
theorem dX7_alter_72 : decode cX7_alter 72 = .ok (.ireturn, 1) := by decide +kernel
theorem dX7_check_0 : decode cX7_check 0 = .ok (.aload_n 0, 1) := by decide +kernel
theorem dX7_check_1 : decode cX7_check 1 = .ok (.getfield 42, 3) := by decide +kernel
theorem dX7_check_4 : decode cX7_check 4 = .ok (.iload_n 1, 1) := by decide +kernel
theorem dX7_check_5 : decode cX7_check 5 = .ok (.invokevirtual 114, 3) := by decide +kernel
theorem dX7_check_8 : decode cX7_check 8 = .ok (.ifCond .ne 6, 3) := by decide +kernel
theorem dX7_check_11 : decode cX7_check 11 = .ok (.bipush (-101), 2) := by decide +kernel
theorem dX7_check_13 : decode cX7_check 13 = .ok (.ireturn, 1) := by decide +kernel
theorem dX7_check_14 : decode cX7_check 14 = .ok (.iload_n 2, 1) := by decide +kernel
theorem dX7_check_15 : decode cX7_check 15 = .ok (.iconst 1, 1) := by decide +kernel
theorem dX7_check_16 : decode cX7_check 16 = .ok (.if_icmp .lt 27, 3) := by decide +kernel
theorem dX7_check_19 : decode cX7_check 19 = .ok (.iload_n 2, 1) := by decide +kernel
theorem dX7_check_20 : decode cX7_check 20 = .ok (.bipush 12, 2) := by decide +kernel
theorem dX7_check_22 : decode cX7_check 22 = .ok (.if_icmp .gt 21, 3) := by decide +kernel
theorem dX7_check_25 : decode cX7_check 25 = .ok (.iload_n 3, 1) := by decide +kernel
theorem dX7_check_26 : decode cX7_check 26 = .ok (.ifCond .lt 17, 3) := by decide +kernel
theorem dX7_check_29 : decode cX7_check 29 = .ok (.iload_n 3, 1) := by decide +kernel
theorem dX7_check_30 : decode cX7_check 30 = .ok (.iload_n 2, 1) := by decide +kernel
theorem dX7_check_31 : decode cX7_check 31 = .ok (.if_icmp .ge 12, 3) := by decide +kernel
theorem dX7_check_34 : decode cX7_check 34 = .ok (.aload_n 0, 1) := by decide +kernel
theorem dX7_check_35 : decode cX7_check 35 = .ok (.iload 4, 2) := by decide +kernel
theorem dX7_check_37 : decode cX7_check 37 = .ok (.invokevirtual 168, 3) := by decide +kernel
theorem dX7_check_40 : decode cX7_check 40 = .ok (.ifCond .ne 6, 3) := by decide +kernel
theorem dX7_check_43 : decode cX7_check 43 = .ok (.bipush (-102), 2) := by decide +kernel
theorem dX7_check_45 : decode cX7_check 45 = .ok (.ireturn, 1) := by decide +kernel
theorem dX7_check_46 : decode cX7_check 46 = .ok (.aload_n 0, 1) := by decide +kernel
theorem dX7_check_47 : decode cX7_check 47 = .ok (.getfield 55, 3) := by decide +kernel
theorem dX7_check_50 : decode cX7_check 50 = .ok (.getfield 200, 3) := by decide +kernel
theorem dX7_check_53 : decode cX7_check 53 = .ok (.iload_n 2, 1) := by decide +kernel
theorem dX7_check_54 : decode cX7_check 54 = .ok (.iload_n 3, 1) := by decide +kernel
theorem dX7_check_55 : decode cX7_check 55 = .ok (.invokestatic 204, 3) := by decide +kernel
theorem dX7_check_58 : decode cX7_check 58 = .ok (.if_icmp .ne 20, 3) := by decide +kernel
theorem dX7_check_61 : decode cX7_check 61 = .ok (.aload_n 0, 1) := by decide +kernel
theorem dX7_check_62 : decode cX7_check 62 = .ok (.getfield 42, 3) := by decide +kernel
theorem dX7_check_65 : decode cX7_check 65 = .ok (.getfield 117, 3) := by decide +kernel
theorem dX7_check_68 : decode cX7_check 68 = .ok (.iload_n 1, 1) := by decide +kernel
theorem dX7_check_69 : decode cX7_check 69 = .ok (.iaload, 1) := by decide +kernel
theorem dX7_check_70 : decode cX7_check 70 = .ok (.invokestatic 121, 3) := by decide +kernel
theorem dX7_check_73 : decode cX7_check 73 = .ok (.bipush 32, 2) := by decide +kernel
theorem dX7_check_75 : decode cX7_check 75 = .ok (.if_icmp .eq 5, 3) := by decide +kernel
theorem dX7_check_78 : decode cX7_check 78 = .ok (.iconst 0, 1) := by decide +kernel
theorem dX7_check_79 : decode cX7_check 79 = .ok (.ireturn, 1) := by decide +kernel
theorem dX7_check_80 : decode cX7_check 80 = .ok (.aload_n 0, 1) := by decide +kernel
theorem dX7_check_81 : decode cX7_check 81 = .ok (.getfield 22, 3) := by decide +kernel
theorem dX7_check_84 : decode cX7_check 84 = .ok (.iload 4, 2) := by decide +kernel
theorem dX7_check_86 : decode cX7_check 86 = .ok (.aload_n 0, 1) := by decide +kernel
theorem dX7_check_87 : decode cX7_check 87 = .ok (.getfield 10, 3) := by decide +kernel
theorem dX7_check_90 : decode cX7_check 90 = .ok (.aload_n 0, 1) := by decide +kernel
theorem dX7_check_91 : decode cX7_check 91 = .ok (.getfield 66, 3) := by decide +kernel
theorem dX7_check_94 : decode cX7_check 94 = .ok (.invokestatic 207, 3) := by decide +kernel
theorem dX7_check_97 : decode cX7_check 97 = .ok (.aload_n 0, 1) := by decide +kernel
theorem dX7_check_98 : decode cX7_check 98 = .ok (.getfield 55, 3) := by decide +kernel
theorem dX7_check_101 : decode cX7_check 101 = .ok (.aload_n 0, 1) := by decide +kernel
theorem dX7_check_102 : decode cX7_check 102 = .ok (.getfield 22, 3) := by decide +kernel
theorem dX7_check_105 : decode cX7_check 105 = .ok (.iload_n 2, 1) := by decide +kernel
theorem dX7_check_106 : decode cX7_check 106 = .ok (.iload_n 3, 1) := by decide +kernel
theorem dX7_check_107 : decode cX7_check 107 = .ok (.aload_n 0, 1) := by decide +kernel
theorem dX7_check_108 : decode cX7_check 108 = .ok (.getfield 66, 3) := by decide +kernel
theorem dX7_check_111 : decode cX7_check 111 = .ok (.invokevirtual 211, 3) := by decide +kernel
theorem dX7_check_114 : decode cX7_check 114 = .ok (.aload_n 0, 1) := by decide +kernel
theorem dX7_check_115 : decode cX7_check 115 = .ok (.getfield 22, 3) := by decide +kernel
theorem dX7_check_118 : decode cX7_check 118 = .ok (.iload_n 2, 1) := by decide +kernel
theorem dX7_check_119 : decode cX7_check 119 = .ok (.aload_n 0, 1) := by decide +kernel
theorem dX7_check_120 : decode cX7_check 120 = .ok (.getfield 66, 3) := by decide +kernel
theorem dX7_check_123 : decode cX7_check 123 = .ok (.invokestatic 186, 3) := by decide +kernel
theorem dX7_check_126 : decode cX7_check 126 = .ok (.aload_n 0, 1) := by decide +kernel
theorem dX7_check_127 : decode cX7_check 127 = .ok (.getfield 22, 3) := by decide +kernel
theorem dX7_check_130 : decode cX7_check 130 = .ok (.aload_n 0, 1) := by decide +kernel
theorem dX7_check_131 : decode cX7_check 131 = .ok (.getfield 66, 3) := by decide +kernel
theorem dX7_check_134 : decode cX7_check 134 = .ok (.bipush 32, 2) := by decide +kernel
theorem dX7_check_136 : decode cX7_check 136 = .ok (.invokevirtual 215, 3) := by decide +kernel
theorem dX7_check_139 : decode cX7_check 139 = .ok (.aload_n 0, 1) := by decide +kernel
theorem dX7_check_140 : decode cX7_check 140 = .ok (.getfield 66, 3) := by decide +kernel
theorem dX7_check_143 : decode cX7_check 143 = .ok (.aload_n 0, 1) := by decide +kernel
theorem dX7_check_144 : decode cX7_check 144 = .ok (.getfield 42, 3) := by decide +kernel
theorem dX7_check_147 : decode cX7_check 147 = .ok (.getfield 142, 3) := by decide +kernel
theorem dX7_check_150 : decode cX7_check 150 = .ok (.iload_n 1, 1) := by decide +kernel
theorem dX7_check_151 : decode cX7_check 151 = .ok (.aaload, 1) := by decide +kernel
theorem dX7_check_152 : decode cX7_check 152 = .ok (.bipush 32, 2) := by decide +kernel
theorem dX7_check_154 : decode cX7_check 154 = .ok (.invokestatic 156, 3) := by decide +kernel
theorem dX7_check_157 : decode cX7_check 157 = .ok (.ifCond .eq 7, 3) := by decide +kernel
theorem dX7_check_160 : decode cX7_check 160 = .ok (.iconst 1, 1) := by decide +kernel
theorem dX7_check_161 : decode cX7_check 161 = .ok (.goto 4, 3) := by decide +kernel
theorem dX7_check_164 : decode cX7_check 164 = .ok (.iconst 0, 1) := by decide +kernel
theorem dX7_check_165 : decode cX7_check 165 = .ok (.ireturn, 1) := by decide +kernel
theorem dX7_keep_0 : decode cX7_keep 0 = .ok (.aload_n 0, 1) := by decide +kernel
theorem dX7_keep_1 : decode cX7_keep 1 = .ok (.getfield 10, 3) := by decide +kernel
theorem dX7_keep_4 : decode cX7_keep 4 = .ok (.getfield 71, 3) := by decide +kernel
theorem dX7_keep_7 : decode cX7_keep 7 = .ok (.bipush 40, 2) := by decide +kernel
theorem dX7_keep_9 : decode cX7_keep 9 = .ok (.if_icmp .le 6, 3) := by decide +kernel
theorem dX7_keep_12 : decode cX7_keep 12 = .ok (.bipush (-102), 2) := by decide +kernel
theorem dX7_keep_14 : decode cX7_keep 14 = .ok (.ireturn, 1) := by decide +kernel
theorem dX7_keep_15 : decode cX7_keep 15 = .ok (.aload_n 0, 1) := by decide +kernel
theorem dX7_keep_16 : decode cX7_keep 16 = .ok (.aload_n 0, 1) := by decide +kernel
theorem dX7_keep_17 : decode cX7_keep 17 = .ok (.getfield 10, 3) := by decide +kernel
theorem dX7_keep_20 : decode cX7_keep 20 = .ok (.invokevirtual 219, 3) := by decide +kernel
theorem dX7_keep_23 : decode cX7_keep 23 = .ok (.istore_n 1, 1) := by decide +kernel
theorem dX7_keep_24 : decode cX7_keep 24 = .ok (.aload_n 0, 1) := by decide +kernel
theorem dX7_keep_25 : decode cX7_keep 25 = .ok (.getfield 62, 3) := by decide +kernel
theorem dX7_keep_28 : decode cX7_keep 28 = .ok (.aload_n 0, 1) := by decide +kernel
theorem dX7_keep_29 : decode cX7_keep 29 = .ok (.getfield 10, 3) := by decide +kernel
theorem dX7_keep_32 : decode cX7_keep 32 = .ok (.iload_n 1, 1) := by decide +kernel
theorem dX7_keep_33 : decode cX7_keep 33 = .ok (.invokevirtual 223, 3) := by decide +kernel
theorem dX7_keep_36 : decode cX7_keep 36 = .ok (.istore_n 2, 1) := by decide +kernel
theorem dX7_keep_37 : decode cX7_keep 37 = .ok (.iload_n 2, 1) := by decide +kernel
theorem dX7_keep_38 : decode cX7_keep 38 = .ok (.iconst (-1), 1) := by decide +kernel
theorem dX7_keep_39 : decode cX7_keep 39 = .ok (.if_icmp .ne 18, 3) := by decide +kernel
theorem dX7_keep_42 : decode cX7_keep 42 = .ok (.aload_n 0, 1) := by decide +kernel
theorem dX7_keep_43 : decode cX7_keep 43 = .ok (.getfield 62, 3) := by decide +kernel
theorem dX7_keep_46 : decode cX7_keep 46 = .ok (.getfield 227, 3) := by decide +kernel
theorem dX7_keep_49 : decode cX7_keep 49 = .ok (.bipush 40, 2) := by decide +kernel
theorem dX7_keep_51 : decode cX7_keep 51 = .ok (.if_icmp .lt 6, 3) := by decide +kernel
theorem dX7_keep_54 : decode cX7_keep 54 = .ok (.bipush (-103), 2) := by decide +kernel
theorem dX7_keep_56 : decode cX7_keep 56 = .ok (.ireturn, 1) := by decide +kernel
theorem dX7_keep_57 : decode cX7_keep 57 = .ok (.aload_n 0, 1) := by decide +kernel
theorem dX7_keep_58 : decode cX7_keep 58 = .ok (.getfield 62, 3) := by decide +kernel
theorem dX7_keep_61 : decode cX7_keep 61 = .ok (.aload_n 0, 1) := by decide +kernel
theorem dX7_keep_62 : decode cX7_keep 62 = .ok (.getfield 62, 3) := by decide +kernel
theorem dX7_keep_65 : decode cX7_keep 65 = .ok (.getfield 228, 3) := by decide +kernel
theorem dX7_keep_68 : decode cX7_keep 68 = .ok (.putfield 231, 3) := by decide +kernel
theorem dX7_keep_71 : decode cX7_keep 71 = .ok (.iload_n 2, 1) := by decide +kernel
theorem dX7_keep_72 : decode cX7_keep 72 = .ok (.iconst (-1), 1) := by decide +kernel
theorem dX7_keep_73 : decode cX7_keep 73 = .ok (.if_icmp .ne 16, 3) := by decide +kernel
theorem dX7_keep_76 : decode cX7_keep 76 = .ok (.aload_n 0, 1) := by decide +kernel
theorem dX7_keep_77 : decode cX7_keep 77 = .ok (.getfield 62, 3) := by decide +kernel
theorem dX7_keep_80 : decode cX7_keep 80 = .ok (.aload_n 0, 1) := by decide +kernel
theorem dX7_keep_81 : decode cX7_keep 81 = .ok (.getfield 10, 3) := by decide +kernel
theorem dX7_keep_84 : decode cX7_keep 84 = .ok (.iload_n 1, 1) := by decide +kernel
theorem dX7_keep_85 : decode cX7_keep 85 = .ok (.invokevirtual 234, 3) := by decide +kernel
theorem dX7_keep_88 : decode cX7_keep 88 = .ok (.istore_n 2, 1) := by decide +kernel
theorem dX7_keep_89 : decode cX7_keep 89 = .ok (.aload_n 0, 1) := by decide +kernel
theorem dX7_keep_90 : decode cX7_keep 90 = .ok (.getfield 10, 3) := by decide +kernel
theorem dX7_keep_93 : decode cX7_keep 93 = .ok (.iconst 0, 1) := by decide +kernel
theorem dX7_keep_94 : decode cX7_keep 94 = .ok (.putfield 71, 3) := by decide +kernel
theorem dX7_keep_97 : decode cX7_keep 97 = .ok (.iload_n 2, 1) := by decide +kernel
theorem dX7_keep_98 : decode cX7_keep 98 = .ok (.ireturn, 1) := by decide +kernel
theorem dX7_find_0 : decode cX7_find 0 = .ok (.aload_n 0, 1) := by decide +kernel
theorem dX7_find_1 : decode cX7_find 1 = .ok (.getfield 10, 3) := by decide +kernel
theorem dX7_find_4 : decode cX7_find 4 = .ok (.getfield 71, 3) := by decide +kernel
theorem dX7_find_7 : decode cX7_find 7 = .ok (.bipush 40, 2) := by decide +kernel
theorem dX7_find_9 : decode cX7_find 9 = .ok (.if_icmp .le 6, 3) := by decide +kernel
theorem dX7_find_12 : decode cX7_find 12 = .ok (.bipush (-102), 2) := by decide +kernel
theorem dX7_find_14 : decode cX7_find 14 = .ok (.ireturn, 1) := by decide +kernel
theorem dX7_find_15 : decode cX7_find 15 = .ok (.aload_n 0, 1) := by decide +kernel
theorem dX7_find_16 : decode cX7_find 16 = .ok (.getfield 62, 3) := by decide +kernel
theorem dX7_find_19 : decode cX7_find 19 = .ok (.aload_n 0, 1) := by decide +kernel
theorem dX7_find_20 : decode cX7_find 20 = .ok (.getfield 10, 3) := by decide +kernel
theorem dX7_find_23 : decode cX7_find 23 = .ok (.aload_n 0, 1) := by decide +kernel
theorem dX7_find_24 : decode cX7_find 24 = .ok (.aload_n 0, 1) := by decide +kernel
theorem dX7_find_25 : decode cX7_find 25 = .ok (.getfield 10, 3) := by decide +kernel
theorem dX7_find_28 : decode cX7_find 28 = .ok (.invokevirtual 219, 3) := by decide +kernel
theorem dX7_find_31 : decode cX7_find 31 = .ok (.invokevirtual 223, 3) := by decide +kernel
theorem dX7_find_34 : decode cX7_find 34 = .ok (.istore_n 1, 1) := by decide +kernel
theorem dX7_find_35 : decode cX7_find 35 = .ok (.aload_n 0, 1) := by decide +kernel
theorem dX7_find_36 : decode cX7_find 36 = .ok (.getfield 62, 3) := by decide +kernel
theorem dX7_find_39 : decode cX7_find 39 = .ok (.aload_n 0, 1) := by decide +kernel
theorem dX7_find_40 : decode cX7_find 40 = .ok (.getfield 62, 3) := by decide +kernel
theorem dX7_find_43 : decode cX7_find 43 = .ok (.getfield 228, 3) := by decide +kernel
theorem dX7_find_46 : decode cX7_find 46 = .ok (.putfield 231, 3) := by decide +kernel
theorem dX7_find_49 : decode cX7_find 49 = .ok (.aload_n 0, 1) := by decide +kernel
theorem dX7_find_50 : decode cX7_find 50 = .ok (.getfield 10, 3) := by decide +kernel
theorem dX7_find_53 : decode cX7_find 53 = .ok (.iconst 0, 1) := by decide +kernel
theorem dX7_find_54 : decode cX7_find 54 = .ok (.putfield 71, 3) := by decide +kernel
theorem dX7_find_57 : decode cX7_find 57 = .ok (.iload_n 1, 1) := by decide +kernel
theorem dX7_find_58 : decode cX7_find 58 = .ok (.ireturn, 1) := by decide +kernel
theorem dX7_row_0 : decode cX7_row 0 = .ok (.iload_n 1, 1) := by decide +kernel
theorem dX7_row_1 : decode cX7_row 1 = .ok (.ifCond .lt 9, 3) := by decide +kernel
theorem dX7_row_4 : decode cX7_row 4 = .ok (.iload_n 1, 1) := by decide +kernel
theorem dX7_row_5 : decode cX7_row 5 = .ok (.bipush 40, 2) := by decide +kernel
theorem dX7_row_7 : decode cX7_row 7 = .ok (.if_icmp .lt 13, 3) := by decide +kernel
theorem dX7_row_10 : decode cX7_row 10 = .ok (.new 135, 3) := by decide +kernel
theorem dX7_row_13 : decode cX7_row 13 = .ok (.dup, 1) := by decide +kernel
theorem dX7_row_14 : decode cX7_row 14 = .ok (.ldc 236, 2) := by decide +kernel
theorem dX7_row_16 : decode cX7_row 16 = .ok (.invokespecial 139, 3) := by decide +kernel
theorem dX7_row_19 : decode cX7_row 19 = .ok (.athrow, 1) := by decide +kernel
theorem dX7_row_20 : decode cX7_row 20 = .ok (.iload_n 1, 1) := by decide +kernel
theorem dX7_row_21 : decode cX7_row 21 = .ok (.aload_n 0, 1) := by decide +kernel
theorem dX7_row_22 : decode cX7_row 22 = .ok (.getfield 62, 3) := by decide +kernel
theorem dX7_row_25 : decode cX7_row 25 = .ok (.getfield 227, 3) := by decide +kernel
theorem dX7_row_28 : decode cX7_row 28 = .ok (.if_icmp .lt 13, 3) := by decide +kernel
theorem dX7_row_31 : decode cX7_row 31 = .ok (.new 238, 3) := by decide +kernel
theorem dX7_row_34 : decode cX7_row 34 = .ok (.dup, 1) := by decide +kernel
theorem dX7_row_35 : decode cX7_row 35 = .ok (.ldc 240, 2) := by decide +kernel
theorem dX7_row_37 : decode cX7_row 37 = .ok (.invokespecial 242, 3) := by decide +kernel
theorem dX7_row_40 : decode cX7_row 40 = .ok (.athrow, 1) := by decide +kernel
theorem dX7_row_41 : decode cX7_row 41 = .ok (.iload_n 2, 1) := by decide +kernel
theorem dX7_row_42 : decode cX7_row 42 = .ok (.ifCond .lt 16, 3) := by decide +kernel
theorem dX7_row_45 : decode cX7_row 45 = .ok (.iload_n 2, 1) := by decide +kernel
theorem dX7_row_46 : decode cX7_row 46 = .ok (.aload_n 0, 1) := by decide +kernel
theorem dX7_row_47 : decode cX7_row 47 = .ok (.getfield 62, 3) := by decide +kernel
theorem dX7_row_50 : decode cX7_row 50 = .ok (.getfield 243, 3) := by decide +kernel
theorem dX7_row_53 : decode cX7_row 53 = .ok (.iload_n 1, 1) := by decide +kernel
theorem dX7_row_54 : decode cX7_row 54 = .ok (.iaload, 1) := by decide +kernel
theorem dX7_row_55 : decode cX7_row 55 = .ok (.if_icmp .lt 13, 3) := by decide +kernel
theorem dX7_row_58 : decode cX7_row 58 = .ok (.new 135, 3) := by decide +kernel
theorem dX7_row_61 : decode cX7_row 61 = .ok (.dup, 1) := by decide +kernel
theorem dX7_row_62 : decode cX7_row 62 = .ok (.ldc 246, 2) := by decide +kernel
theorem dX7_row_64 : decode cX7_row 64 = .ok (.invokespecial 139, 3) := by decide +kernel
theorem dX7_row_67 : decode cX7_row 67 = .ok (.athrow, 1) := by decide +kernel
theorem dX7_row_68 : decode cX7_row 68 = .ok (.aload_n 0, 1) := by decide +kernel
theorem dX7_row_69 : decode cX7_row 69 = .ok (.getfield 62, 3) := by decide +kernel
theorem dX7_row_72 : decode cX7_row 72 = .ok (.getfield 248, 3) := by decide +kernel
theorem dX7_row_75 : decode cX7_row 75 = .ok (.iload_n 1, 1) := by decide +kernel
theorem dX7_row_76 : decode cX7_row 76 = .ok (.aaload, 1) := by decide +kernel
theorem dX7_row_77 : decode cX7_row 77 = .ok (.iload_n 2, 1) := by decide +kernel
theorem dX7_row_78 : decode cX7_row 78 = .ok (.baload, 1) := by decide +kernel
theorem dX7_row_79 : decode cX7_row 79 = .ok (.ireturn, 1) := by decide +kernel
theorem dX7_about_0 : decode cX7_about 0 = .ok (.iload_n 1, 1) := by decide +kernel
theorem dX7_about_1 : decode cX7_about 1 = .ok (.tableswitch 81 0 5 #[39, 47, 55, 63, 71, 79], 39) := by decide +kernel
theorem dX7_about_40 : decode cX7_about 40 = .ok (.aload_n 0, 1) := by decide +kernel
theorem dX7_about_41 : decode cX7_about 41 = .ok (.getfield 10, 3) := by decide +kernel
theorem dX7_about_44 : decode cX7_about 44 = .ok (.getfield 71, 3) := by decide +kernel
theorem dX7_about_47 : decode cX7_about 47 = .ok (.ireturn, 1) := by decide +kernel
theorem dX7_about_48 : decode cX7_about 48 = .ok (.aload_n 0, 1) := by decide +kernel
theorem dX7_about_49 : decode cX7_about 49 = .ok (.getfield 42, 3) := by decide +kernel
theorem dX7_about_52 : decode cX7_about 52 = .ok (.getfield 251, 3) := by decide +kernel
theorem dX7_about_55 : decode cX7_about 55 = .ok (.ireturn, 1) := by decide +kernel
theorem dX7_about_56 : decode cX7_about 56 = .ok (.aload_n 0, 1) := by decide +kernel
theorem dX7_about_57 : decode cX7_about 57 = .ok (.getfield 62, 3) := by decide +kernel
theorem dX7_about_60 : decode cX7_about 60 = .ok (.getfield 227, 3) := by decide +kernel
theorem dX7_about_63 : decode cX7_about 63 = .ok (.ireturn, 1) := by decide +kernel
theorem dX7_about_64 : decode cX7_about 64 = .ok (.aload_n 0, 1) := by decide +kernel
theorem dX7_about_65 : decode cX7_about 65 = .ok (.getfield 62, 3) := by decide +kernel
theorem dX7_about_68 : decode cX7_about 68 = .ok (.invokevirtual 252, 3) := by decide +kernel
theorem dX7_about_71 : decode cX7_about 71 = .ok (.ireturn, 1) := by decide +kernel
theorem dX7_about_72 : decode cX7_about 72 = .ok (.aload_n 0, 1) := by decide +kernel
theorem dX7_about_73 : decode cX7_about 73 = .ok (.getfield 62, 3) := by decide +kernel
theorem dX7_about_76 : decode cX7_about 76 = .ok (.getfield 231, 3) := by decide +kernel
theorem dX7_about_79 : decode cX7_about 79 = .ok (.ireturn, 1) := by decide +kernel
theorem dX7_about_80 : decode cX7_about 80 = .ok (.iconst 1, 1) := by decide +kernel
theorem dX7_about_81 : decode cX7_about 81 = .ok (.ireturn, 1) := by decide +kernel
theorem dX7_about_82 : decode cX7_about 82 = .ok (.bipush (-102), 2) := by decide +kernel
theorem dX7_about_84 : decode cX7_about 84 = .ok (.ireturn, 1) := by decide +kernel
theorem dX7_clear_0 : decode cX7_clear 0 = .ok (.aload_n 0, 1) := by decide +kernel
theorem dX7_clear_1 : decode cX7_clear 1 = .ok (.getfield 42, 3) := by decide +kernel
theorem dX7_clear_4 : decode cX7_clear 4 = .ok (.getfield 251, 3) := by decide +kernel
theorem dX7_clear_7 : decode cX7_clear 7 = .ok (.istore_n 1, 1) := by decide +kernel
theorem dX7_clear_8 : decode cX7_clear 8 = .ok (.aload_n 0, 1) := by decide +kernel
theorem dX7_clear_9 : decode cX7_clear 9 = .ok (.getfield 10, 3) := by decide +kernel
theorem dX7_clear_12 : decode cX7_clear 12 = .ok (.iconst 0, 1) := by decide +kernel
theorem dX7_clear_13 : decode cX7_clear 13 = .ok (.putfield 71, 3) := by decide +kernel
theorem dX7_clear_16 : decode cX7_clear 16 = .ok (.aload_n 0, 1) := by decide +kernel
theorem dX7_clear_17 : decode cX7_clear 17 = .ok (.getfield 16, 3) := by decide +kernel
theorem dX7_clear_20 : decode cX7_clear 20 = .ok (.iconst 0, 1) := by decide +kernel
theorem dX7_clear_21 : decode cX7_clear 21 = .ok (.putfield 71, 3) := by decide +kernel
theorem dX7_clear_24 : decode cX7_clear 24 = .ok (.aload_n 0, 1) := by decide +kernel
theorem dX7_clear_25 : decode cX7_clear 25 = .ok (.getfield 42, 3) := by decide +kernel
theorem dX7_clear_28 : decode cX7_clear 28 = .ok (.iconst 0, 1) := by decide +kernel
theorem dX7_clear_29 : decode cX7_clear 29 = .ok (.putfield 251, 3) := by decide +kernel
theorem dX7_clear_32 : decode cX7_clear 32 = .ok (.iconst 0, 1) := by decide +kernel
theorem dX7_clear_33 : decode cX7_clear 33 = .ok (.istore_n 2, 1) := by decide +kernel
theorem dX7_clear_34 : decode cX7_clear 34 = .ok (.iload_n 2, 1) := by decide +kernel
theorem dX7_clear_35 : decode cX7_clear 35 = .ok (.iconst 4, 1) := by decide +kernel
theorem dX7_clear_36 : decode cX7_clear 36 = .ok (.if_icmp .ge 19, 3) := by decide +kernel
theorem dX7_clear_39 : decode cX7_clear 39 = .ok (.aload_n 0, 1) := by decide +kernel
theorem dX7_clear_40 : decode cX7_clear 40 = .ok (.getfield 35, 3) := by decide +kernel
theorem dX7_clear_43 : decode cX7_clear 43 = .ok (.iload_n 2, 1) := by decide +kernel
theorem dX7_clear_44 : decode cX7_clear 44 = .ok (.aaload, 1) := by decide +kernel
theorem dX7_clear_45 : decode cX7_clear 45 = .ok (.iconst 0, 1) := by decide +kernel
theorem dX7_clear_46 : decode cX7_clear 46 = .ok (.putfield 107, 3) := by decide +kernel
theorem dX7_clear_49 : decode cX7_clear 49 = .ok (.iinc 2 1, 3) := by decide +kernel
theorem dX7_clear_52 : decode cX7_clear 52 = .ok (.goto (-18), 3) := by decide +kernel
theorem dX7_clear_55 : decode cX7_clear 55 = .ok (.iconst 0, 1) := by decide +kernel
theorem dX7_clear_56 : decode cX7_clear 56 = .ok (.istore_n 2, 1) := by decide +kernel
theorem dX7_clear_57 : decode cX7_clear 57 = .ok (.iload_n 2, 1) := by decide +kernel
theorem dX7_clear_58 : decode cX7_clear 58 = .ok (.iconst 4, 1) := by decide +kernel
theorem dX7_clear_59 : decode cX7_clear 59 = .ok (.if_icmp .ge 19, 3) := by decide +kernel
theorem dX7_clear_62 : decode cX7_clear 62 = .ok (.aload_n 0, 1) := by decide +kernel
theorem dX7_clear_63 : decode cX7_clear 63 = .ok (.getfield 48, 3) := by decide +kernel
theorem dX7_clear_66 : decode cX7_clear 66 = .ok (.iload_n 2, 1) := by decide +kernel
theorem dX7_clear_67 : decode cX7_clear 67 = .ok (.aaload, 1) := by decide +kernel
theorem dX7_clear_68 : decode cX7_clear 68 = .ok (.iconst 0, 1) := by decide +kernel
theorem dX7_clear_69 : decode cX7_clear 69 = .ok (.putfield 171, 3) := by decide +kernel
theorem dX7_clear_72 : decode cX7_clear 72 = .ok (.iinc 2 1, 3) := by decide +kernel
theorem dX7_clear_75 : decode cX7_clear 75 = .ok (.goto (-18), 3) := by decide +kernel
theorem dX7_clear_78 : decode cX7_clear 78 = .ok (.aload_n 0, 1) := by decide +kernel
theorem dX7_clear_79 : decode cX7_clear 79 = .ok (.getfield 55, 3) := by decide +kernel
theorem dX7_clear_82 : decode cX7_clear 82 = .ok (.iconst 0, 1) := by decide +kernel
theorem dX7_clear_83 : decode cX7_clear 83 = .ok (.putfield 200, 3) := by decide +kernel
theorem dX7_clear_86 : decode cX7_clear 86 = .ok (.aload_n 0, 1) := by decide +kernel
theorem dX7_clear_87 : decode cX7_clear 87 = .ok (.getfield 62, 3) := by decide +kernel
theorem dX7_clear_90 : decode cX7_clear 90 = .ok (.iconst 0, 1) := by decide +kernel
theorem dX7_clear_91 : decode cX7_clear 91 = .ok (.putfield 227, 3) := by decide +kernel
theorem dX7_clear_94 : decode cX7_clear 94 = .ok (.aload_n 0, 1) := by decide +kernel
theorem dX7_clear_95 : decode cX7_clear 95 = .ok (.getfield 62, 3) := by decide +kernel
theorem dX7_clear_98 : decode cX7_clear 98 = .ok (.iconst 0, 1) := by decide +kernel
theorem dX7_clear_99 : decode cX7_clear 99 = .ok (.putfield 231, 3) := by decide +kernel
theorem dX7_clear_102 : decode cX7_clear 102 = .ok (.iload_n 1, 1) := by decide +kernel
theorem dX7_clear_103 : decode cX7_clear 103 = .ok (.ireturn, 1) := by decide +kernel
end
section
theorem dX7_isSort_0 : decode cX7_isSort 0 = .ok (.iload_n 0, 1) := by decide +kernel
theorem dX7_isSort_1 : decode cX7_isSort 1 = .ok (.ifCond .lt 12, 3) := by decide +kernel
theorem dX7_isSort_4 : decode cX7_isSort 4 = .ok (.iload_n 0, 1) := by decide +kernel
theorem dX7_isSort_5 : decode cX7_isSort 5 = .ok (.iconst 2, 1) := by decide +kernel
theorem dX7_isSort_6 : decode cX7_isSort 6 = .ok (.if_icmp .gt 7, 3) := by decide +kernel
theorem dX7_isSort_9 : decode cX7_isSort 9 = .ok (.iconst 1, 1) := by decide +kernel
theorem dX7_isSort_10 : decode cX7_isSort 10 = .ok (.goto 4, 3) := by decide +kernel
theorem dX7_isSort_13 : decode cX7_isSort 13 = .ok (.iconst 0, 1) := by decide +kernel
theorem dX7_isSort_14 : decode cX7_isSort 14 = .ok (.ireturn, 1) := by decide +kernel
theorem dX7_isStream_0 : decode cX7_isStream 0 = .ok (.iload_n 0, 1) := by decide +kernel
theorem dX7_isStream_1 : decode cX7_isStream 1 = .ok (.ifCond .lt 12, 3) := by decide +kernel
theorem dX7_isStream_4 : decode cX7_isStream 4 = .ok (.iload_n 0, 1) := by decide +kernel
theorem dX7_isStream_5 : decode cX7_isStream 5 = .ok (.iconst 4, 1) := by decide +kernel
theorem dX7_isStream_6 : decode cX7_isStream 6 = .ok (.if_icmp .ge 7, 3) := by decide +kernel
theorem dX7_isStream_9 : decode cX7_isStream 9 = .ok (.iconst 1, 1) := by decide +kernel
theorem dX7_isStream_10 : decode cX7_isStream 10 = .ok (.goto 4, 3) := by decide +kernel
theorem dX7_isStream_13 : decode cX7_isStream 13 = .ok (.iconst 0, 1) := by decide +kernel
theorem dX7_isStream_14 : decode cX7_isStream 14 = .ok (.ireturn, 1) := by decide +kernel
theorem dX7_isTree_0 : decode cX7_isTree 0 = .ok (.iload_n 0, 1) := by decide +kernel
theorem dX7_isTree_1 : decode cX7_isTree 1 = .ok (.ifCond .lt 12, 3) := by decide +kernel
theorem dX7_isTree_4 : decode cX7_isTree 4 = .ok (.iload_n 0, 1) := by decide +kernel
theorem dX7_isTree_5 : decode cX7_isTree 5 = .ok (.iconst 4, 1) := by decide +kernel
theorem dX7_isTree_6 : decode cX7_isTree 6 = .ok (.if_icmp .ge 7, 3) := by decide +kernel
theorem dX7_isTree_9 : decode cX7_isTree 9 = .ok (.iconst 1, 1) := by decide +kernel
theorem dX7_isTree_10 : decode cX7_isTree 10 = .ok (.goto 4, 3) := by decide +kernel
theorem dX7_isTree_13 : decode cX7_isTree 13 = .ok (.iconst 0, 1) := by decide +kernel
theorem dX7_isTree_14 : decode cX7_isTree 14 = .ok (.ireturn, 1) := by decide +kernel
theorem dX7_isLeaf_0 : decode cX7_isLeaf 0 = .ok (.iload_n 1, 1) := by decide +kernel
theorem dX7_isLeaf_1 : decode cX7_isLeaf 1 = .ok (.ifCond .lt 25, 3) := by decide +kernel
theorem dX7_isLeaf_4 : decode cX7_isLeaf 4 = .ok (.iload_n 1, 1) := by decide +kernel
theorem dX7_isLeaf_5 : decode cX7_isLeaf 5 = .ok (.bipush 8, 2) := by decide +kernel
theorem dX7_isLeaf_7 : decode cX7_isLeaf 7 = .ok (.if_icmp .ge 19, 3) := by decide +kernel
theorem dX7_isLeaf_10 : decode cX7_isLeaf 10 = .ok (.aload_n 0, 1) := by decide +kernel
theorem dX7_isLeaf_11 : decode cX7_isLeaf 11 = .ok (.getfield 10, 3) := by decide +kernel
theorem dX7_isLeaf_14 : decode cX7_isLeaf 14 = .ok (.getfield 71, 3) := by decide +kernel
theorem dX7_isLeaf_17 : decode cX7_isLeaf 17 = .ok (.bipush 40, 2) := by decide +kernel
theorem dX7_isLeaf_19 : decode cX7_isLeaf 19 = .ok (.if_icmp .gt 7, 3) := by decide +kernel
theorem dX7_isLeaf_22 : decode cX7_isLeaf 22 = .ok (.iconst 1, 1) := by decide +kernel
theorem dX7_isLeaf_23 : decode cX7_isLeaf 23 = .ok (.goto 4, 3) := by decide +kernel
theorem dX7_isLeaf_26 : decode cX7_isLeaf 26 = .ok (.iconst 0, 1) := by decide +kernel
theorem dX7_isLeaf_27 : decode cX7_isLeaf 27 = .ok (.ireturn, 1) := by decide +kernel
theorem dX7_bytesOf_0 : decode cX7_bytesOf 0 = .ok (.iload_n 0, 1) := by decide +kernel
theorem dX7_bytesOf_1 : decode cX7_bytesOf 1 = .ok (.iconst 1, 1) := by decide +kernel
theorem dX7_bytesOf_2 : decode cX7_bytesOf 2 = .ok (.if_icmp .ne 8, 3) := by decide +kernel
theorem dX7_bytesOf_5 : decode cX7_bytesOf 5 = .ok (.bipush 28, 2) := by decide +kernel
theorem dX7_bytesOf_7 : decode cX7_bytesOf 7 = .ok (.goto 5, 3) := by decide +kernel
theorem dX7_bytesOf_10 : decode cX7_bytesOf 10 = .ok (.bipush 32, 2) := by decide +kernel
theorem dX7_bytesOf_12 : decode cX7_bytesOf 12 = .ok (.ireturn, 1) := by decide +kernel
theorem dX7_ofWidth_0 : decode cX7_ofWidth 0 = .ok (.iload_n 0, 1) := by decide +kernel
theorem dX7_ofWidth_1 : decode cX7_ofWidth 1 = .ok (.tableswitch 50 0 3 #[31, 36, 41, 46], 31) := by decide +kernel
theorem dX7_ofWidth_32 : decode cX7_ofWidth 32 = .ok (.lload_n 1, 1) := by decide +kernel
theorem dX7_ofWidth_33 : decode cX7_ofWidth 33 = .ok (.l2i, 1) := by decide +kernel
theorem dX7_ofWidth_34 : decode cX7_ofWidth 34 = .ok (.i2b, 1) := by decide +kernel
theorem dX7_ofWidth_35 : decode cX7_ofWidth 35 = .ok (.i2l, 1) := by decide +kernel
theorem dX7_ofWidth_36 : decode cX7_ofWidth 36 = .ok (.lreturn, 1) := by decide +kernel
theorem dX7_ofWidth_37 : decode cX7_ofWidth 37 = .ok (.lload_n 1, 1) := by decide +kernel
theorem dX7_ofWidth_38 : decode cX7_ofWidth 38 = .ok (.l2i, 1) := by decide +kernel
theorem dX7_ofWidth_39 : decode cX7_ofWidth 39 = .ok (.i2s, 1) := by decide +kernel
theorem dX7_ofWidth_40 : decode cX7_ofWidth 40 = .ok (.i2l, 1) := by decide +kernel
theorem dX7_ofWidth_41 : decode cX7_ofWidth 41 = .ok (.lreturn, 1) := by decide +kernel
theorem dX7_ofWidth_42 : decode cX7_ofWidth 42 = .ok (.lload_n 1, 1) := by decide +kernel
theorem dX7_ofWidth_43 : decode cX7_ofWidth 43 = .ok (.l2i, 1) := by decide +kernel
theorem dX7_ofWidth_44 : decode cX7_ofWidth 44 = .ok (.i2c, 1) := by decide +kernel
theorem dX7_ofWidth_45 : decode cX7_ofWidth 45 = .ok (.i2l, 1) := by decide +kernel
theorem dX7_ofWidth_46 : decode cX7_ofWidth 46 = .ok (.lreturn, 1) := by decide +kernel
theorem dX7_ofWidth_47 : decode cX7_ofWidth 47 = .ok (.lload_n 1, 1) := by decide +kernel
theorem dX7_ofWidth_48 : decode cX7_ofWidth 48 = .ok (.l2i, 1) := by decide +kernel
theorem dX7_ofWidth_49 : decode cX7_ofWidth 49 = .ok (.i2l, 1) := by decide +kernel
theorem dX7_ofWidth_50 : decode cX7_ofWidth 50 = .ok (.lreturn, 1) := by decide +kernel
theorem dX7_ofWidth_51 : decode cX7_ofWidth 51 = .ok (.lload_n 1, 1) := by decide +kernel
theorem dX7_ofWidth_52 : decode cX7_ofWidth 52 = .ok (.lreturn, 1) := by decide +kernel
theorem dX7_alike_0 : decode cX7_alike 0 = .ok (.iconst 0, 1) := by decide +kernel
theorem dX7_alike_1 : decode cX7_alike 1 = .ok (.istore_n 3, 1) := by decide +kernel
theorem dX7_alike_2 : decode cX7_alike 2 = .ok (.iload_n 3, 1) := by decide +kernel
theorem dX7_alike_3 : decode cX7_alike 3 = .ok (.iload_n 2, 1) := by decide +kernel
theorem dX7_alike_4 : decode cX7_alike 4 = .ok (.if_icmp .ge 20, 3) := by decide +kernel
theorem dX7_alike_7 : decode cX7_alike 7 = .ok (.aload_n 0, 1) := by decide +kernel
theorem dX7_alike_8 : decode cX7_alike 8 = .ok (.iload_n 3, 1) := by decide +kernel
theorem dX7_alike_9 : decode cX7_alike 9 = .ok (.baload, 1) := by decide +kernel
theorem dX7_alike_10 : decode cX7_alike 10 = .ok (.aload_n 1, 1) := by decide +kernel
theorem dX7_alike_11 : decode cX7_alike 11 = .ok (.iload_n 3, 1) := by decide +kernel
theorem dX7_alike_12 : decode cX7_alike 12 = .ok (.baload, 1) := by decide +kernel
theorem dX7_alike_13 : decode cX7_alike 13 = .ok (.if_icmp .eq 5, 3) := by decide +kernel
theorem dX7_alike_16 : decode cX7_alike 16 = .ok (.iconst 0, 1) := by decide +kernel
theorem dX7_alike_17 : decode cX7_alike 17 = .ok (.ireturn, 1) := by decide +kernel
theorem dX7_alike_18 : decode cX7_alike 18 = .ok (.iinc 3 1, 3) := by decide +kernel
theorem dX7_alike_21 : decode cX7_alike 21 = .ok (.goto (-19), 3) := by decide +kernel
theorem dX7_alike_24 : decode cX7_alike 24 = .ok (.iconst 1, 1) := by decide +kernel
theorem dX7_alike_25 : decode cX7_alike 25 = .ok (.ireturn, 1) := by decide +kernel
theorem dX7_setLeaf_0 : decode cX7_setLeaf 0 = .ok (.aload_n 1, 1) := by decide +kernel
theorem dX7_setLeaf_1 : decode cX7_setLeaf 1 = .ok (.getfield 179, 3) := by decide +kernel
theorem dX7_setLeaf_4 : decode cX7_setLeaf 4 = .ok (.iload_n 2, 1) := by decide +kernel
theorem dX7_setLeaf_5 : decode cX7_setLeaf 5 = .ok (.iload_n 3, 1) := by decide +kernel
theorem dX7_setLeaf_6 : decode cX7_setLeaf 6 = .ok (.iastore, 1) := by decide +kernel
theorem dX7_setLeaf_7 : decode cX7_setLeaf 7 = .ok (.aload_n 0, 1) := by decide +kernel
theorem dX7_setLeaf_8 : decode cX7_setLeaf 8 = .ok (.getfield 22, 3) := by decide +kernel
theorem dX7_setLeaf_11 : decode cX7_setLeaf 11 = .ok (.iload_n 3, 1) := by decide +kernel
theorem dX7_setLeaf_12 : decode cX7_setLeaf 12 = .ok (.aload_n 0, 1) := by decide +kernel
theorem dX7_setLeaf_13 : decode cX7_setLeaf 13 = .ok (.getfield 10, 3) := by decide +kernel
theorem dX7_setLeaf_16 : decode cX7_setLeaf 16 = .ok (.aload_n 1, 1) := by decide +kernel
theorem dX7_setLeaf_17 : decode cX7_setLeaf 17 = .ok (.getfield 256, 3) := by decide +kernel
theorem dX7_setLeaf_20 : decode cX7_setLeaf 20 = .ok (.iload_n 2, 1) := by decide +kernel
theorem dX7_setLeaf_21 : decode cX7_setLeaf 21 = .ok (.aaload, 1) := by decide +kernel
theorem dX7_setLeaf_22 : decode cX7_setLeaf 22 = .ok (.invokestatic 207, 3) := by decide +kernel
theorem dX7_setLeaf_25 : decode cX7_setLeaf 25 = .ok (.aload_n 0, 1) := by decide +kernel
theorem dX7_setLeaf_26 : decode cX7_setLeaf 26 = .ok (.getfield 10, 3) := by decide +kernel
theorem dX7_setLeaf_29 : decode cX7_setLeaf 29 = .ok (.iconst 0, 1) := by decide +kernel
theorem dX7_setLeaf_30 : decode cX7_setLeaf 30 = .ok (.putfield 71, 3) := by decide +kernel
theorem dX7_setLeaf_33 : decode cX7_setLeaf 33 = .ok (.return_, 1) := by decide +kernel
theorem dX7_spotOf_0 : decode cX7_spotOf 0 = .ok (.aload_n 0, 1) := by decide +kernel
theorem dX7_spotOf_1 : decode cX7_spotOf 1 = .ok (.getfield 22, 3) := by decide +kernel
theorem dX7_spotOf_4 : decode cX7_spotOf 4 = .ok (.getstatic 259, 3) := by decide +kernel
theorem dX7_spotOf_7 : decode cX7_spotOf 7 = .ok (.invokevirtual 262, 3) := by decide +kernel
theorem dX7_spotOf_10 : decode cX7_spotOf 10 = .ok (.aload_n 0, 1) := by decide +kernel
theorem dX7_spotOf_11 : decode cX7_spotOf 11 = .ok (.getfield 22, 3) := by decide +kernel
theorem dX7_spotOf_14 : decode cX7_spotOf 14 = .ok (.aload_n 1, 1) := by decide +kernel
theorem dX7_spotOf_15 : decode cX7_spotOf 15 = .ok (.getfield 75, 3) := by decide +kernel
theorem dX7_spotOf_18 : decode cX7_spotOf 18 = .ok (.aload_n 1, 1) := by decide +kernel
theorem dX7_spotOf_19 : decode cX7_spotOf 19 = .ok (.getfield 71, 3) := by decide +kernel
theorem dX7_spotOf_22 : decode cX7_spotOf 22 = .ok (.invokevirtual 265, 3) := by decide +kernel
theorem dX7_spotOf_25 : decode cX7_spotOf 25 = .ok (.aload_n 0, 1) := by decide +kernel
theorem dX7_spotOf_26 : decode cX7_spotOf 26 = .ok (.getfield 22, 3) := by decide +kernel
theorem dX7_spotOf_29 : decode cX7_spotOf 29 = .ok (.invokevirtual 267, 3) := by decide +kernel
theorem dX7_spotOf_32 : decode cX7_spotOf 32 = .ok (.aload_n 0, 1) := by decide +kernel
theorem dX7_spotOf_33 : decode cX7_spotOf 33 = .ok (.getfield 22, 3) := by decide +kernel
theorem dX7_spotOf_36 : decode cX7_spotOf 36 = .ok (.aload_n 0, 1) := by decide +kernel
theorem dX7_spotOf_37 : decode cX7_spotOf 37 = .ok (.getfield 66, 3) := by decide +kernel
theorem dX7_spotOf_40 : decode cX7_spotOf 40 = .ok (.bipush 32, 2) := by decide +kernel
theorem dX7_spotOf_42 : decode cX7_spotOf 42 = .ok (.invokevirtual 215, 3) := by decide +kernel
theorem dX7_spotOf_45 : decode cX7_spotOf 45 = .ok (.aload_n 0, 1) := by decide +kernel
theorem dX7_spotOf_46 : decode cX7_spotOf 46 = .ok (.getfield 66, 3) := by decide +kernel
theorem dX7_spotOf_49 : decode cX7_spotOf 49 = .ok (.bipush 31, 2) := by decide +kernel
theorem dX7_spotOf_51 : decode cX7_spotOf 51 = .ok (.baload, 1) := by decide +kernel
theorem dX7_spotOf_52 : decode cX7_spotOf 52 = .ok (.bipush 15, 2) := by decide +kernel
theorem dX7_spotOf_54 : decode cX7_spotOf 54 = .ok (.iand, 1) := by decide +kernel
theorem dX7_spotOf_55 : decode cX7_spotOf 55 = .ok (.ireturn, 1) := by decide +kernel
theorem dX7_digestLeaf_0 : decode cX7_digestLeaf 0 = .ok (.aload_n 0, 1) := by decide +kernel
theorem dX7_digestLeaf_1 : decode cX7_digestLeaf 1 = .ok (.getstatic 259, 3) := by decide +kernel
theorem dX7_digestLeaf_4 : decode cX7_digestLeaf 4 = .ok (.invokevirtual 262, 3) := by decide +kernel
theorem dX7_digestLeaf_7 : decode cX7_digestLeaf 7 = .ok (.aload_n 0, 1) := by decide +kernel
theorem dX7_digestLeaf_8 : decode cX7_digestLeaf 8 = .ok (.iconst 0, 1) := by decide +kernel
theorem dX7_digestLeaf_9 : decode cX7_digestLeaf 9 = .ok (.invokevirtual 269, 3) := by decide +kernel
theorem dX7_digestLeaf_12 : decode cX7_digestLeaf 12 = .ok (.aload_n 0, 1) := by decide +kernel
theorem dX7_digestLeaf_13 : decode cX7_digestLeaf 13 = .ok (.iload_n 1, 1) := by decide +kernel
theorem dX7_digestLeaf_14 : decode cX7_digestLeaf 14 = .ok (.invokevirtual 269, 3) := by decide +kernel
theorem dX7_digestLeaf_17 : decode cX7_digestLeaf 17 = .ok (.aload_n 0, 1) := by decide +kernel
theorem dX7_digestLeaf_18 : decode cX7_digestLeaf 18 = .ok (.aload_n 2, 1) := by decide +kernel
theorem dX7_digestLeaf_19 : decode cX7_digestLeaf 19 = .ok (.getfield 71, 3) := by decide +kernel
theorem dX7_digestLeaf_22 : decode cX7_digestLeaf 22 = .ok (.invokevirtual 269, 3) := by decide +kernel
theorem dX7_digestLeaf_25 : decode cX7_digestLeaf 25 = .ok (.aload_n 0, 1) := by decide +kernel
theorem dX7_digestLeaf_26 : decode cX7_digestLeaf 26 = .ok (.aload_n 2, 1) := by decide +kernel
theorem dX7_digestLeaf_27 : decode cX7_digestLeaf 27 = .ok (.getfield 75, 3) := by decide +kernel
theorem dX7_digestLeaf_30 : decode cX7_digestLeaf 30 = .ok (.aload_n 2, 1) := by decide +kernel
theorem dX7_digestLeaf_31 : decode cX7_digestLeaf 31 = .ok (.getfield 71, 3) := by decide +kernel
theorem dX7_digestLeaf_34 : decode cX7_digestLeaf 34 = .ok (.invokevirtual 265, 3) := by decide +kernel
theorem dX7_digestLeaf_37 : decode cX7_digestLeaf 37 = .ok (.aload_n 0, 1) := by decide +kernel
theorem dX7_digestLeaf_38 : decode cX7_digestLeaf 38 = .ok (.invokevirtual 267, 3) := by decide +kernel
theorem dX7_digestLeaf_41 : decode cX7_digestLeaf 41 = .ok (.aload_n 0, 1) := by decide +kernel
theorem dX7_digestLeaf_42 : decode cX7_digestLeaf 42 = .ok (.aload_n 3, 1) := by decide +kernel
theorem dX7_digestLeaf_43 : decode cX7_digestLeaf 43 = .ok (.bipush 32, 2) := by decide +kernel
theorem dX7_digestLeaf_45 : decode cX7_digestLeaf 45 = .ok (.invokevirtual 215, 3) := by decide +kernel
theorem dX7_digestLeaf_48 : decode cX7_digestLeaf 48 = .ok (.return_, 1) := by decide +kernel
theorem dX7_digestPair_0 : decode cX7_digestPair 0 = .ok (.aload_n 0, 1) := by decide +kernel
theorem dX7_digestPair_1 : decode cX7_digestPair 1 = .ok (.getstatic 259, 3) := by decide +kernel
theorem dX7_digestPair_4 : decode cX7_digestPair 4 = .ok (.invokevirtual 262, 3) := by decide +kernel
theorem dX7_digestPair_7 : decode cX7_digestPair 7 = .ok (.aload_n 0, 1) := by decide +kernel
theorem dX7_digestPair_8 : decode cX7_digestPair 8 = .ok (.iconst 1, 1) := by decide +kernel
theorem dX7_digestPair_9 : decode cX7_digestPair 9 = .ok (.invokevirtual 269, 3) := by decide +kernel
theorem dX7_digestPair_12 : decode cX7_digestPair 12 = .ok (.aload_n 0, 1) := by decide +kernel
theorem dX7_digestPair_13 : decode cX7_digestPair 13 = .ok (.aload_n 1, 1) := by decide +kernel
theorem dX7_digestPair_14 : decode cX7_digestPair 14 = .ok (.bipush 32, 2) := by decide +kernel
theorem dX7_digestPair_16 : decode cX7_digestPair 16 = .ok (.invokevirtual 265, 3) := by decide +kernel
theorem dX7_digestPair_19 : decode cX7_digestPair 19 = .ok (.aload_n 0, 1) := by decide +kernel
theorem dX7_digestPair_20 : decode cX7_digestPair 20 = .ok (.aload_n 2, 1) := by decide +kernel
theorem dX7_digestPair_21 : decode cX7_digestPair 21 = .ok (.bipush 32, 2) := by decide +kernel
theorem dX7_digestPair_23 : decode cX7_digestPair 23 = .ok (.invokevirtual 265, 3) := by decide +kernel
theorem dX7_digestPair_26 : decode cX7_digestPair 26 = .ok (.aload_n 0, 1) := by decide +kernel
theorem dX7_digestPair_27 : decode cX7_digestPair 27 = .ok (.invokevirtual 267, 3) := by decide +kernel
theorem dX7_digestPair_30 : decode cX7_digestPair 30 = .ok (.aload_n 0, 1) := by decide +kernel
theorem dX7_digestPair_31 : decode cX7_digestPair 31 = .ok (.aload_n 3, 1) := by decide +kernel
theorem dX7_digestPair_32 : decode cX7_digestPair 32 = .ok (.bipush 32, 2) := by decide +kernel
theorem dX7_digestPair_34 : decode cX7_digestPair 34 = .ok (.invokevirtual 215, 3) := by decide +kernel
theorem dX7_digestPair_37 : decode cX7_digestPair 37 = .ok (.return_, 1) := by decide +kernel
theorem dX7_digestRoot_0 : decode cX7_digestRoot 0 = .ok (.aload_n 0, 1) := by decide +kernel
theorem dX7_digestRoot_1 : decode cX7_digestRoot 1 = .ok (.getstatic 259, 3) := by decide +kernel
theorem dX7_digestRoot_4 : decode cX7_digestRoot 4 = .ok (.invokevirtual 262, 3) := by decide +kernel
theorem dX7_digestRoot_7 : decode cX7_digestRoot 7 = .ok (.aload_n 0, 1) := by decide +kernel
theorem dX7_digestRoot_8 : decode cX7_digestRoot 8 = .ok (.iconst 2, 1) := by decide +kernel
theorem dX7_digestRoot_9 : decode cX7_digestRoot 9 = .ok (.invokevirtual 269, 3) := by decide +kernel
theorem dX7_digestRoot_12 : decode cX7_digestRoot 12 = .ok (.aload_n 0, 1) := by decide +kernel
theorem dX7_digestRoot_13 : decode cX7_digestRoot 13 = .ok (.iload_n 1, 1) := by decide +kernel
theorem dX7_digestRoot_14 : decode cX7_digestRoot 14 = .ok (.invokevirtual 269, 3) := by decide +kernel
theorem dX7_digestRoot_17 : decode cX7_digestRoot 17 = .ok (.aload_n 0, 1) := by decide +kernel
theorem dX7_digestRoot_18 : decode cX7_digestRoot 18 = .ok (.aload_n 2, 1) := by decide +kernel
theorem dX7_digestRoot_19 : decode cX7_digestRoot 19 = .ok (.bipush 32, 2) := by decide +kernel
theorem dX7_digestRoot_21 : decode cX7_digestRoot 21 = .ok (.invokevirtual 265, 3) := by decide +kernel
theorem dX7_digestRoot_24 : decode cX7_digestRoot 24 = .ok (.aload_n 0, 1) := by decide +kernel
theorem dX7_digestRoot_25 : decode cX7_digestRoot 25 = .ok (.invokevirtual 267, 3) := by decide +kernel
theorem dX7_digestRoot_28 : decode cX7_digestRoot 28 = .ok (.return_, 1) := by decide +kernel
theorem dX7_spread_0 : decode cX7_spread 0 = .ok (.bipush 16, 2) := by decide +kernel
theorem dX7_spread_2 : decode cX7_spread 2 = .ok (.istore_n 1, 1) := by decide +kernel
theorem dX7_spread_3 : decode cX7_spread 3 = .ok (.iload_n 1, 1) := by decide +kernel
theorem dX7_spread_4 : decode cX7_spread 4 = .ok (.bipush 64, 2) := by decide +kernel
theorem dX7_spread_6 : decode cX7_spread 6 = .ok (.if_icmp .ge 83, 3) := by decide +kernel
theorem dX7_spread_9 : decode cX7_spread 9 = .ok (.aload_n 0, 1) := by decide +kernel
theorem dX7_spread_10 : decode cX7_spread 10 = .ok (.iload_n 1, 1) := by decide +kernel
theorem dX7_spread_11 : decode cX7_spread 11 = .ok (.bipush 15, 2) := by decide +kernel
theorem dX7_spread_13 : decode cX7_spread 13 = .ok (.isub, 1) := by decide +kernel
theorem dX7_spread_14 : decode cX7_spread 14 = .ok (.iaload, 1) := by decide +kernel
theorem dX7_spread_15 : decode cX7_spread 15 = .ok (.istore_n 2, 1) := by decide +kernel
theorem dX7_spread_16 : decode cX7_spread 16 = .ok (.aload_n 0, 1) := by decide +kernel
theorem dX7_spread_17 : decode cX7_spread 17 = .ok (.iload_n 1, 1) := by decide +kernel
theorem dX7_spread_18 : decode cX7_spread 18 = .ok (.iconst 2, 1) := by decide +kernel
theorem dX7_spread_19 : decode cX7_spread 19 = .ok (.isub, 1) := by decide +kernel
theorem dX7_spread_20 : decode cX7_spread 20 = .ok (.iaload, 1) := by decide +kernel
theorem dX7_spread_21 : decode cX7_spread 21 = .ok (.istore_n 3, 1) := by decide +kernel
theorem dX7_spread_22 : decode cX7_spread 22 = .ok (.iload_n 2, 1) := by decide +kernel
theorem dX7_spread_23 : decode cX7_spread 23 = .ok (.bipush 7, 2) := by decide +kernel
theorem dX7_spread_25 : decode cX7_spread 25 = .ok (.invokestatic 273, 3) := by decide +kernel
theorem dX7_spread_28 : decode cX7_spread 28 = .ok (.iload_n 2, 1) := by decide +kernel
theorem dX7_spread_29 : decode cX7_spread 29 = .ok (.bipush 18, 2) := by decide +kernel
theorem dX7_spread_31 : decode cX7_spread 31 = .ok (.invokestatic 273, 3) := by decide +kernel
theorem dX7_spread_34 : decode cX7_spread 34 = .ok (.ixor, 1) := by decide +kernel
theorem dX7_spread_35 : decode cX7_spread 35 = .ok (.iload_n 2, 1) := by decide +kernel
theorem dX7_spread_36 : decode cX7_spread 36 = .ok (.iconst 3, 1) := by decide +kernel
theorem dX7_spread_37 : decode cX7_spread 37 = .ok (.iushr, 1) := by decide +kernel
theorem dX7_spread_38 : decode cX7_spread 38 = .ok (.ixor, 1) := by decide +kernel
theorem dX7_spread_39 : decode cX7_spread 39 = .ok (.istore 4, 2) := by decide +kernel
theorem dX7_spread_41 : decode cX7_spread 41 = .ok (.iload_n 3, 1) := by decide +kernel
theorem dX7_spread_42 : decode cX7_spread 42 = .ok (.bipush 17, 2) := by decide +kernel
theorem dX7_spread_44 : decode cX7_spread 44 = .ok (.invokestatic 273, 3) := by decide +kernel
theorem dX7_spread_47 : decode cX7_spread 47 = .ok (.iload_n 3, 1) := by decide +kernel
theorem dX7_spread_48 : decode cX7_spread 48 = .ok (.bipush 19, 2) := by decide +kernel
theorem dX7_spread_50 : decode cX7_spread 50 = .ok (.invokestatic 273, 3) := by decide +kernel
theorem dX7_spread_53 : decode cX7_spread 53 = .ok (.ixor, 1) := by decide +kernel
theorem dX7_spread_54 : decode cX7_spread 54 = .ok (.iload_n 3, 1) := by decide +kernel
theorem dX7_spread_55 : decode cX7_spread 55 = .ok (.bipush 10, 2) := by decide +kernel
theorem dX7_spread_57 : decode cX7_spread 57 = .ok (.iushr, 1) := by decide +kernel
theorem dX7_spread_58 : decode cX7_spread 58 = .ok (.ixor, 1) := by decide +kernel
theorem dX7_spread_59 : decode cX7_spread 59 = .ok (.istore 5, 2) := by decide +kernel
theorem dX7_spread_61 : decode cX7_spread 61 = .ok (.aload_n 0, 1) := by decide +kernel
theorem dX7_spread_62 : decode cX7_spread 62 = .ok (.iload_n 1, 1) := by decide +kernel
theorem dX7_spread_63 : decode cX7_spread 63 = .ok (.iload 5, 2) := by decide +kernel
theorem dX7_spread_65 : decode cX7_spread 65 = .ok (.aload_n 0, 1) := by decide +kernel
theorem dX7_spread_66 : decode cX7_spread 66 = .ok (.iload_n 1, 1) := by decide +kernel
theorem dX7_spread_67 : decode cX7_spread 67 = .ok (.bipush 7, 2) := by decide +kernel
theorem dX7_spread_69 : decode cX7_spread 69 = .ok (.isub, 1) := by decide +kernel
theorem dX7_spread_70 : decode cX7_spread 70 = .ok (.iaload, 1) := by decide +kernel
theorem dX7_spread_71 : decode cX7_spread 71 = .ok (.iadd, 1) := by decide +kernel
theorem dX7_spread_72 : decode cX7_spread 72 = .ok (.iload 4, 2) := by decide +kernel
theorem dX7_spread_74 : decode cX7_spread 74 = .ok (.iadd, 1) := by decide +kernel
theorem dX7_spread_75 : decode cX7_spread 75 = .ok (.aload_n 0, 1) := by decide +kernel
theorem dX7_spread_76 : decode cX7_spread 76 = .ok (.iload_n 1, 1) := by decide +kernel
theorem dX7_spread_77 : decode cX7_spread 77 = .ok (.bipush 16, 2) := by decide +kernel
theorem dX7_spread_79 : decode cX7_spread 79 = .ok (.isub, 1) := by decide +kernel
theorem dX7_spread_80 : decode cX7_spread 80 = .ok (.iaload, 1) := by decide +kernel
theorem dX7_spread_81 : decode cX7_spread 81 = .ok (.iadd, 1) := by decide +kernel
theorem dX7_spread_82 : decode cX7_spread 82 = .ok (.iastore, 1) := by decide +kernel
theorem dX7_spread_83 : decode cX7_spread 83 = .ok (.iinc 1 1, 3) := by decide +kernel
theorem dX7_spread_86 : decode cX7_spread 86 = .ok (.goto (-83), 3) := by decide +kernel
theorem dX7_spread_89 : decode cX7_spread 89 = .ok (.return_, 1) := by decide +kernel
theorem dX8_init_0 : decode cX8_init 0 = .ok (.aload_n 0, 1) := by decide +kernel
theorem dX8_init_1 : decode cX8_init 1 = .ok (.invokespecial 1, 3) := by decide +kernel
theorem dX8_init_4 : decode cX8_init 4 = .ok (.aload_n 0, 1) := by decide +kernel
theorem dX8_init_5 : decode cX8_init 5 = .ok (.bipush 64, 2) := by decide +kernel
theorem dX8_init_7 : decode cX8_init 7 = .ok (.newarray .int, 2) := by decide +kernel
theorem dX8_init_9 : decode cX8_init 9 = .ok (.putfield 7, 3) := by decide +kernel
theorem dX8_init_12 : decode cX8_init 12 = .ok (.aload_n 0, 1) := by decide +kernel
theorem dX8_init_13 : decode cX8_init 13 = .ok (.bipush 8, 2) := by decide +kernel
theorem dX8_init_15 : decode cX8_init 15 = .ok (.newarray .int, 2) := by decide +kernel
theorem dX8_init_17 : decode cX8_init 17 = .ok (.putfield 13, 3) := by decide +kernel
theorem dX8_init_20 : decode cX8_init 20 = .ok (.aload_n 0, 1) := by decide +kernel
theorem dX8_init_21 : decode cX8_init 21 = .ok (.bipush 8, 2) := by decide +kernel
theorem dX8_init_23 : decode cX8_init 23 = .ok (.newarray .int, 2) := by decide +kernel
theorem dX8_init_25 : decode cX8_init 25 = .ok (.putfield 16, 3) := by decide +kernel
theorem dX8_init_28 : decode cX8_init 28 = .ok (.aload_n 0, 1) := by decide +kernel
theorem dX8_init_29 : decode cX8_init 29 = .ok (.bipush 16, 2) := by decide +kernel
theorem dX8_init_31 : decode cX8_init 31 = .ok (.newarray .long, 2) := by decide +kernel
theorem dX8_init_33 : decode cX8_init 33 = .ok (.putfield 19, 3) := by decide +kernel
theorem dX8_init_36 : decode cX8_init 36 = .ok (.aload_n 0, 1) := by decide +kernel
theorem dX8_init_37 : decode cX8_init 37 = .ok (.bipush 16, 2) := by decide +kernel
theorem dX8_init_39 : decode cX8_init 39 = .ok (.newarray .long, 2) := by decide +kernel
theorem dX8_init_41 : decode cX8_init 41 = .ok (.putfield 23, 3) := by decide +kernel
theorem dX8_init_44 : decode cX8_init 44 = .ok (.aload_n 0, 1) := by decide +kernel
theorem dX8_init_45 : decode cX8_init 45 = .ok (.bipush 16, 2) := by decide +kernel
theorem dX8_init_47 : decode cX8_init 47 = .ok (.newarray .long, 2) := by decide +kernel
theorem dX8_init_49 : decode cX8_init 49 = .ok (.putfield 26, 3) := by decide +kernel
theorem dX8_init_52 : decode cX8_init 52 = .ok (.aload_n 0, 1) := by decide +kernel
theorem dX8_init_53 : decode cX8_init 53 = .ok (.sipush 2400, 3) := by decide +kernel
theorem dX8_init_56 : decode cX8_init 56 = .ok (.newarray .int, 2) := by decide +kernel
theorem dX8_init_58 : decode cX8_init 58 = .ok (.putfield 29, 3) := by decide +kernel
theorem dX8_init_61 : decode cX8_init 61 = .ok (.aload_n 0, 1) := by decide +kernel
theorem dX8_init_62 : decode cX8_init 62 = .ok (.bipush 8, 2) := by decide +kernel
theorem dX8_init_64 : decode cX8_init 64 = .ok (.newarray .int, 2) := by decide +kernel
theorem dX8_init_66 : decode cX8_init 66 = .ok (.putfield 32, 3) := by decide +kernel
theorem dX8_init_69 : decode cX8_init 69 = .ok (.aload_n 0, 1) := by decide +kernel
theorem dX8_init_70 : decode cX8_init 70 = .ok (.bipush 64, 2) := by decide +kernel
theorem dX8_init_72 : decode cX8_init 72 = .ok (.newarray .int, 2) := by decide +kernel
theorem dX8_init_74 : decode cX8_init 74 = .ok (.putfield 35, 3) := by decide +kernel
theorem dX8_init_77 : decode cX8_init 77 = .ok (.aload_n 0, 1) := by decide +kernel
theorem dX8_init_78 : decode cX8_init 78 = .ok (.sipush 200, 3) := by decide +kernel
theorem dX8_init_81 : decode cX8_init 81 = .ok (.newarray .int, 2) := by decide +kernel
theorem dX8_init_83 : decode cX8_init 83 = .ok (.putfield 38, 3) := by decide +kernel
theorem dX8_init_86 : decode cX8_init 86 = .ok (.aload_n 0, 1) := by decide +kernel
theorem dX8_init_87 : decode cX8_init 87 = .ok (.sipush 200, 3) := by decide +kernel
theorem dX8_init_90 : decode cX8_init 90 = .ok (.newarray .int, 2) := by decide +kernel
theorem dX8_init_92 : decode cX8_init 92 = .ok (.putfield 41, 3) := by decide +kernel
theorem dX8_init_95 : decode cX8_init 95 = .ok (.aload_n 0, 1) := by decide +kernel
theorem dX8_init_96 : decode cX8_init 96 = .ok (.bipush 60, 2) := by decide +kernel
theorem dX8_init_98 : decode cX8_init 98 = .ok (.newarray .int, 2) := by decide +kernel
theorem dX8_init_100 : decode cX8_init 100 = .ok (.putfield 44, 3) := by decide +kernel
theorem dX8_init_103 : decode cX8_init 103 = .ok (.aload_n 0, 1) := by decide +kernel
theorem dX8_init_104 : decode cX8_init 104 = .ok (.bipush 60, 2) := by decide +kernel
theorem dX8_init_106 : decode cX8_init 106 = .ok (.newarray .int, 2) := by decide +kernel
theorem dX8_init_108 : decode cX8_init 108 = .ok (.putfield 47, 3) := by decide +kernel
theorem dX8_init_111 : decode cX8_init 111 = .ok (.aload_n 0, 1) := by decide +kernel
theorem dX8_init_112 : decode cX8_init 112 = .ok (.sipush 1920, 3) := by decide +kernel
theorem dX8_init_115 : decode cX8_init 115 = .ok (.newarray .int, 2) := by decide +kernel
theorem dX8_init_117 : decode cX8_init 117 = .ok (.putfield 50, 3) := by decide +kernel
theorem dX8_init_120 : decode cX8_init 120 = .ok (.aload_n 0, 1) := by decide +kernel
theorem dX8_init_121 : decode cX8_init 121 = .ok (.sipush 3840, 3) := by decide +kernel
theorem dX8_init_124 : decode cX8_init 124 = .ok (.newarray .int, 2) := by decide +kernel
theorem dX8_init_126 : decode cX8_init 126 = .ok (.putfield 53, 3) := by decide +kernel
theorem dX8_init_129 : decode cX8_init 129 = .ok (.aload_n 0, 1) := by decide +kernel
theorem dX8_init_130 : decode cX8_init 130 = .ok (.sipush 320, 3) := by decide +kernel
theorem dX8_init_133 : decode cX8_init 133 = .ok (.newarray .int, 2) := by decide +kernel
theorem dX8_init_135 : decode cX8_init 135 = .ok (.putfield 56, 3) := by decide +kernel
theorem dX8_init_138 : decode cX8_init 138 = .ok (.aload_n 0, 1) := by decide +kernel
theorem dX8_init_139 : decode cX8_init 139 = .ok (.iconst 5, 1) := by decide +kernel
theorem dX8_init_140 : decode cX8_init 140 = .ok (.newarray .int, 2) := by decide +kernel
theorem dX8_init_142 : decode cX8_init 142 = .ok (.putfield 59, 3) := by decide +kernel
theorem dX8_init_145 : decode cX8_init 145 = .ok (.aload_n 0, 1) := by decide +kernel
theorem dX8_init_146 : decode cX8_init 146 = .ok (.sipush 8000, 3) := by decide +kernel
theorem dX8_init_149 : decode cX8_init 149 = .ok (.newarray .int, 2) := by decide +kernel
theorem dX8_init_151 : decode cX8_init 151 = .ok (.putfield 62, 3) := by decide +kernel
theorem dX8_init_154 : decode cX8_init 154 = .ok (.aload_n 0, 1) := by decide +kernel
theorem dX8_init_155 : decode cX8_init 155 = .ok (.iconst 4, 1) := by decide +kernel
theorem dX8_init_156 : decode cX8_init 156 = .ok (.newarray .int, 2) := by decide +kernel
theorem dX8_init_158 : decode cX8_init 158 = .ok (.putfield 65, 3) := by decide +kernel
theorem dX8_init_161 : decode cX8_init 161 = .ok (.aload_n 0, 1) := by decide +kernel
theorem dX8_init_162 : decode cX8_init 162 = .ok (.iconst 4, 1) := by decide +kernel
theorem dX8_init_163 : decode cX8_init 163 = .ok (.newarray .int, 2) := by decide +kernel
theorem dX8_init_165 : decode cX8_init 165 = .ok (.putfield 68, 3) := by decide +kernel
theorem dX8_init_168 : decode cX8_init 168 = .ok (.aload_n 0, 1) := by decide +kernel
theorem dX8_init_169 : decode cX8_init 169 = .ok (.bipush 8, 2) := by decide +kernel
theorem dX8_init_171 : decode cX8_init 171 = .ok (.newarray .int, 2) := by decide +kernel
theorem dX8_init_173 : decode cX8_init 173 = .ok (.putfield 71, 3) := by decide +kernel
theorem dX8_init_176 : decode cX8_init 176 = .ok (.aload_n 0, 1) := by decide +kernel
theorem dX8_init_177 : decode cX8_init 177 = .ok (.iconst 4, 1) := by decide +kernel
theorem dX8_init_178 : decode cX8_init 178 = .ok (.newarray .int, 2) := by decide +kernel
theorem dX8_init_180 : decode cX8_init 180 = .ok (.putfield 74, 3) := by decide +kernel
theorem dX8_init_183 : decode cX8_init 183 = .ok (.aload_n 0, 1) := by decide +kernel
theorem dX8_init_184 : decode cX8_init 184 = .ok (.bipush 48, 2) := by decide +kernel
theorem dX8_init_186 : decode cX8_init 186 = .ok (.newarray .int, 2) := by decide +kernel
theorem dX8_init_188 : decode cX8_init 188 = .ok (.putfield 77, 3) := by decide +kernel
theorem dX8_init_191 : decode cX8_init 191 = .ok (.aload_n 0, 1) := by decide +kernel
theorem dX8_init_192 : decode cX8_init 192 = .ok (.bipush 48, 2) := by decide +kernel
theorem dX8_init_194 : decode cX8_init 194 = .ok (.newarray .int, 2) := by decide +kernel
theorem dX8_init_196 : decode cX8_init 196 = .ok (.putfield 80, 3) := by decide +kernel
theorem dX8_init_199 : decode cX8_init 199 = .ok (.aload_n 0, 1) := by decide +kernel
theorem dX8_init_200 : decode cX8_init 200 = .ok (.sipush 1920, 3) := by decide +kernel
theorem dX8_init_203 : decode cX8_init 203 = .ok (.newarray .int, 2) := by decide +kernel
theorem dX8_init_205 : decode cX8_init 205 = .ok (.putfield 83, 3) := by decide +kernel
theorem dX8_init_208 : decode cX8_init 208 = .ok (.aload_n 0, 1) := by decide +kernel
theorem dX8_init_209 : decode cX8_init 209 = .ok (.bipush 96, 2) := by decide +kernel
theorem dX8_init_211 : decode cX8_init 211 = .ok (.newarray .int, 2) := by decide +kernel
theorem dX8_init_213 : decode cX8_init 213 = .ok (.putfield 86, 3) := by decide +kernel
theorem dX8_init_216 : decode cX8_init 216 = .ok (.aload_n 0, 1) := by decide +kernel
theorem dX8_init_217 : decode cX8_init 217 = .ok (.bipush 32, 2) := by decide +kernel
theorem dX8_init_219 : decode cX8_init 219 = .ok (.newarray .int, 2) := by decide +kernel
theorem dX8_init_221 : decode cX8_init 221 = .ok (.putfield 89, 3) := by decide +kernel
theorem dX8_init_224 : decode cX8_init 224 = .ok (.aload_n 0, 1) := by decide +kernel
theorem dX8_init_225 : decode cX8_init 225 = .ok (.bipush 40, 2) := by decide +kernel
theorem dX8_init_227 : decode cX8_init 227 = .ok (.newarray .int, 2) := by decide +kernel
theorem dX8_init_229 : decode cX8_init 229 = .ok (.putfield 92, 3) := by decide +kernel
theorem dX8_init_232 : decode cX8_init 232 = .ok (.aload_n 0, 1) := by decide +kernel
theorem dX8_init_233 : decode cX8_init 233 = .ok (.sipush 1600, 3) := by decide +kernel
theorem dX8_init_236 : decode cX8_init 236 = .ok (.newarray .int, 2) := by decide +kernel
theorem dX8_init_238 : decode cX8_init 238 = .ok (.putfield 95, 3) := by decide +kernel
theorem dX8_init_241 : decode cX8_init 241 = .ok (.aload_n 0, 1) := by decide +kernel
theorem dX8_init_242 : decode cX8_init 242 = .ok (.bipush 40, 2) := by decide +kernel
theorem dX8_init_244 : decode cX8_init 244 = .ok (.newarray .int, 2) := by decide +kernel
theorem dX8_init_246 : decode cX8_init 246 = .ok (.putfield 98, 3) := by decide +kernel
theorem dX8_init_249 : decode cX8_init 249 = .ok (.iconst 2, 1) := by decide +kernel
theorem dX8_init_250 : decode cX8_init 250 = .ok (.istore_n 1, 1) := by decide +kernel
theorem dX8_init_251 : decode cX8_init 251 = .ok (.iconst 0, 1) := by decide +kernel
theorem dX8_init_252 : decode cX8_init 252 = .ok (.istore_n 2, 1) := by decide +kernel
theorem dX8_init_253 : decode cX8_init 253 = .ok (.iload_n 2, 1) := by decide +kernel
theorem dX8_init_254 : decode cX8_init 254 = .ok (.bipush 64, 2) := by decide +kernel
theorem dX8_init_256 : decode cX8_init 256 = .ok (.if_icmp .ge 108, 3) := by decide +kernel
theorem dX8_init_259 : decode cX8_init 259 = .ok (.iconst 1, 1) := by decide +kernel
theorem dX8_init_260 : decode cX8_init 260 = .ok (.istore_n 3, 1) := by decide +kernel
theorem dX8_init_261 : decode cX8_init 261 = .ok (.iconst 2, 1) := by decide +kernel
theorem dX8_init_262 : decode cX8_init 262 = .ok (.istore 4, 2) := by decide +kernel
theorem dX8_init_264 : decode cX8_init 264 = .ok (.iload 4, 2) := by decide +kernel
theorem dX8_init_266 : decode cX8_init 266 = .ok (.iload 4, 2) := by decide +kernel
theorem dX8_init_268 : decode cX8_init 268 = .ok (.imul, 1) := by decide +kernel
theorem dX8_init_269 : decode cX8_init 269 = .ok (.iload_n 1, 1) := by decide +kernel
theorem dX8_init_270 : decode cX8_init 270 = .ok (.if_icmp .gt 26, 3) := by decide +kernel
theorem dX8_init_273 : decode cX8_init 273 = .ok (.iload_n 3, 1) := by decide +kernel
theorem dX8_init_274 : decode cX8_init 274 = .ok (.ifCond .eq 14, 3) := by decide +kernel
theorem dX8_init_277 : decode cX8_init 277 = .ok (.iload_n 1, 1) := by decide +kernel
theorem dX8_init_278 : decode cX8_init 278 = .ok (.iload 4, 2) := by decide +kernel
theorem dX8_init_280 : decode cX8_init 280 = .ok (.irem, 1) := by decide +kernel
theorem dX8_init_281 : decode cX8_init 281 = .ok (.ifCond .eq 7, 3) := by decide +kernel
theorem dX8_init_284 : decode cX8_init 284 = .ok (.iconst 1, 1) := by decide +kernel
theorem dX8_init_285 : decode cX8_init 285 = .ok (.goto 4, 3) := by decide +kernel
theorem dX8_init_288 : decode cX8_init 288 = .ok (.iconst 0, 1) := by decide +kernel
theorem dX8_init_289 : decode cX8_init 289 = .ok (.istore_n 3, 1) := by decide +kernel
theorem dX8_init_290 : decode cX8_init 290 = .ok (.iinc 4 1, 3) := by decide +kernel
theorem dX8_init_293 : decode cX8_init 293 = .ok (.goto (-29), 3) := by decide +kernel
theorem dX8_init_296 : decode cX8_init 296 = .ok (.iload_n 3, 1) := by decide +kernel
theorem dX8_init_297 : decode cX8_init 297 = .ok (.ifCond .eq 61, 3) := by decide +kernel
theorem dX8_init_300 : decode cX8_init 300 = .ok (.aload_n 0, 1) := by decide +kernel
theorem dX8_init_301 : decode cX8_init 301 = .ok (.getfield 7, 3) := by decide +kernel
theorem dX8_init_304 : decode cX8_init 304 = .ok (.iload_n 2, 1) := by decide +kernel
theorem dX8_init_305 : decode cX8_init 305 = .ok (.aload_n 0, 1) := by decide +kernel
theorem dX8_init_306 : decode cX8_init 306 = .ok (.iload_n 1, 1) := by decide +kernel
theorem dX8_init_307 : decode cX8_init 307 = .ok (.invokevirtual 101, 3) := by decide +kernel
theorem dX8_init_310 : decode cX8_init 310 = .ok (.iastore, 1) := by decide +kernel
theorem dX8_init_311 : decode cX8_init 311 = .ok (.iload_n 2, 1) := by decide +kernel
theorem dX8_init_312 : decode cX8_init 312 = .ok (.bipush 8, 2) := by decide +kernel
theorem dX8_init_314 : decode cX8_init 314 = .ok (.if_icmp .ge 19, 3) := by decide +kernel
theorem dX8_init_317 : decode cX8_init 317 = .ok (.aload_n 0, 1) := by decide +kernel
theorem dX8_init_318 : decode cX8_init 318 = .ok (.getfield 13, 3) := by decide +kernel
theorem dX8_init_321 : decode cX8_init 321 = .ok (.iload_n 2, 1) := by decide +kernel
theorem dX8_init_322 : decode cX8_init 322 = .ok (.aload_n 0, 1) := by decide +kernel
theorem dX8_init_323 : decode cX8_init 323 = .ok (.iload_n 1, 1) := by decide +kernel
theorem dX8_init_324 : decode cX8_init 324 = .ok (.bipush 32, 2) := by decide +kernel
theorem dX8_init_326 : decode cX8_init 326 = .ok (.invokevirtual 105, 3) := by decide +kernel
theorem dX8_init_329 : decode cX8_init 329 = .ok (.iastore, 1) := by decide +kernel
theorem dX8_init_330 : decode cX8_init 330 = .ok (.goto 25, 3) := by decide +kernel
theorem dX8_init_333 : decode cX8_init 333 = .ok (.iload_n 2, 1) := by decide +kernel
theorem dX8_init_334 : decode cX8_init 334 = .ok (.bipush 16, 2) := by decide +kernel
theorem dX8_init_336 : decode cX8_init 336 = .ok (.if_icmp .ge 19, 3) := by decide +kernel
theorem dX8_init_339 : decode cX8_init 339 = .ok (.aload_n 0, 1) := by decide +kernel
theorem dX8_init_340 : decode cX8_init 340 = .ok (.getfield 16, 3) := by decide +kernel
theorem dX8_init_343 : decode cX8_init 343 = .ok (.iload_n 2, 1) := by decide +kernel
theorem dX8_init_344 : decode cX8_init 344 = .ok (.bipush 8, 2) := by decide +kernel
theorem dX8_init_346 : decode cX8_init 346 = .ok (.isub, 1) := by decide +kernel
theorem dX8_init_347 : decode cX8_init 347 = .ok (.aload_n 0, 1) := by decide +kernel
theorem dX8_init_348 : decode cX8_init 348 = .ok (.iload_n 1, 1) := by decide +kernel
theorem dX8_init_349 : decode cX8_init 349 = .ok (.bipush 64, 2) := by decide +kernel
theorem dX8_init_351 : decode cX8_init 351 = .ok (.invokevirtual 105, 3) := by decide +kernel
theorem dX8_init_354 : decode cX8_init 354 = .ok (.iastore, 1) := by decide +kernel
theorem dX8_init_355 : decode cX8_init 355 = .ok (.iinc 2 1, 3) := by decide +kernel
theorem dX8_init_358 : decode cX8_init 358 = .ok (.iinc 1 1, 3) := by decide +kernel
theorem dX8_init_361 : decode cX8_init 361 = .ok (.goto (-108), 3) := by decide +kernel
theorem dX8_init_364 : decode cX8_init 364 = .ok (.aload_n 0, 1) := by decide +kernel
theorem dX8_init_365 : decode cX8_init 365 = .ok (.invokevirtual 109, 3) := by decide +kernel
theorem dX8_init_368 : decode cX8_init 368 = .ok (.return_, 1) := by decide +kernel
theorem dX8_multiply_0 : decode cX8_multiply 0 = .ok (.iconst 0, 1) := by decide +kernel
theorem dX8_multiply_1 : decode cX8_multiply 1 = .ok (.istore 5, 2) := by decide +kernel
theorem dX8_multiply_3 : decode cX8_multiply 3 = .ok (.iload 5, 2) := by decide +kernel
theorem dX8_multiply_5 : decode cX8_multiply 5 = .ok (.bipush 16, 2) := by decide +kernel
theorem dX8_multiply_7 : decode cX8_multiply 7 = .ok (.if_icmp .ge 17, 3) := by decide +kernel
theorem dX8_multiply_10 : decode cX8_multiply 10 = .ok (.aload_n 0, 1) := by decide +kernel
theorem dX8_multiply_11 : decode cX8_multiply 11 = .ok (.getfield 23, 3) := by decide +kernel
theorem dX8_multiply_14 : decode cX8_multiply 14 = .ok (.iload 5, 2) := by decide +kernel
theorem dX8_multiply_16 : decode cX8_multiply 16 = .ok (.lconst 0, 1) := by decide +kernel
theorem dX8_multiply_17 : decode cX8_multiply 17 = .ok (.lastore, 1) := by decide +kernel
theorem dX8_multiply_18 : decode cX8_multiply 18 = .ok (.iinc 5 1, 3) := by decide +kernel
theorem dX8_multiply_21 : decode cX8_multiply 21 = .ok (.goto (-18), 3) := by decide +kernel
theorem dX8_multiply_24 : decode cX8_multiply 24 = .ok (.iconst 0, 1) := by decide +kernel
theorem dX8_multiply_25 : decode cX8_multiply 25 = .ok (.istore 5, 2) := by decide +kernel
theorem dX8_multiply_27 : decode cX8_multiply 27 = .ok (.iload 5, 2) := by decide +kernel
theorem dX8_multiply_29 : decode cX8_multiply 29 = .ok (.iload_n 3, 1) := by decide +kernel
theorem dX8_multiply_30 : decode cX8_multiply 30 = .ok (.if_icmp .ge 47, 3) := by decide +kernel
theorem dX8_multiply_33 : decode cX8_multiply 33 = .ok (.iconst 0, 1) := by decide +kernel
theorem dX8_multiply_34 : decode cX8_multiply 34 = .ok (.istore 6, 2) := by decide +kernel
theorem dX8_multiply_36 : decode cX8_multiply 36 = .ok (.iload 6, 2) := by decide +kernel
theorem dX8_multiply_38 : decode cX8_multiply 38 = .ok (.iload 4, 2) := by decide +kernel
theorem dX8_multiply_40 : decode cX8_multiply 40 = .ok (.if_icmp .ge 31, 3) := by decide +kernel
theorem dX8_multiply_43 : decode cX8_multiply 43 = .ok (.aload_n 0, 1) := by decide +kernel
theorem dX8_multiply_44 : decode cX8_multiply 44 = .ok (.getfield 23, 3) := by decide +kernel
theorem dX8_multiply_47 : decode cX8_multiply 47 = .ok (.iload 5, 2) := by decide +kernel
theorem dX8_multiply_49 : decode cX8_multiply 49 = .ok (.iload 6, 2) := by decide +kernel
theorem dX8_multiply_51 : decode cX8_multiply 51 = .ok (.iadd, 1) := by decide +kernel
theorem dX8_multiply_52 : decode cX8_multiply 52 = .ok (.dup2, 1) := by decide +kernel
theorem dX8_multiply_53 : decode cX8_multiply 53 = .ok (.laload, 1) := by decide +kernel
theorem dX8_multiply_54 : decode cX8_multiply 54 = .ok (.aload_n 1, 1) := by decide +kernel
theorem dX8_multiply_55 : decode cX8_multiply 55 = .ok (.iload 5, 2) := by decide +kernel
theorem dX8_multiply_57 : decode cX8_multiply 57 = .ok (.laload, 1) := by decide +kernel
theorem dX8_multiply_58 : decode cX8_multiply 58 = .ok (.aload_n 2, 1) := by decide +kernel
theorem dX8_multiply_59 : decode cX8_multiply 59 = .ok (.iload 6, 2) := by decide +kernel
theorem dX8_multiply_61 : decode cX8_multiply 61 = .ok (.laload, 1) := by decide +kernel
theorem dX8_multiply_62 : decode cX8_multiply 62 = .ok (.lmul, 1) := by decide +kernel
theorem dX8_multiply_63 : decode cX8_multiply 63 = .ok (.ladd, 1) := by decide +kernel
theorem dX8_multiply_64 : decode cX8_multiply 64 = .ok (.lastore, 1) := by decide +kernel
theorem dX8_multiply_65 : decode cX8_multiply 65 = .ok (.iinc 6 1, 3) := by decide +kernel
theorem dX8_multiply_68 : decode cX8_multiply 68 = .ok (.goto (-32), 3) := by decide +kernel
theorem dX8_multiply_71 : decode cX8_multiply 71 = .ok (.iinc 5 1, 3) := by decide +kernel
theorem dX8_multiply_74 : decode cX8_multiply 74 = .ok (.goto (-47), 3) := by decide +kernel
theorem dX8_multiply_77 : decode cX8_multiply 77 = .ok (.iconst 0, 1) := by decide +kernel
theorem dX8_multiply_78 : decode cX8_multiply 78 = .ok (.istore 5, 2) := by decide +kernel
theorem dX8_multiply_80 : decode cX8_multiply 80 = .ok (.iload 5, 2) := by decide +kernel
theorem dX8_multiply_82 : decode cX8_multiply 82 = .ok (.bipush 15, 2) := by decide +kernel
theorem dX8_multiply_84 : decode cX8_multiply 84 = .ok (.if_icmp .ge 44, 3) := by decide +kernel
theorem dX8_multiply_87 : decode cX8_multiply 87 = .ok (.aload_n 0, 1) := by decide +kernel
theorem dX8_multiply_88 : decode cX8_multiply 88 = .ok (.getfield 23, 3) := by decide +kernel
theorem dX8_multiply_91 : decode cX8_multiply 91 = .ok (.iload 5, 2) := by decide +kernel
theorem dX8_multiply_93 : decode cX8_multiply 93 = .ok (.iconst 1, 1) := by decide +kernel
theorem dX8_multiply_94 : decode cX8_multiply 94 = .ok (.iadd, 1) := by decide +kernel
theorem dX8_multiply_95 : decode cX8_multiply 95 = .ok (.dup2, 1) := by decide +kernel
theorem dX8_multiply_96 : decode cX8_multiply 96 = .ok (.laload, 1) := by decide +kernel
theorem dX8_multiply_97 : decode cX8_multiply 97 = .ok (.aload_n 0, 1) := by decide +kernel
theorem dX8_multiply_98 : decode cX8_multiply 98 = .ok (.getfield 23, 3) := by decide +kernel
theorem dX8_multiply_101 : decode cX8_multiply 101 = .ok (.iload 5, 2) := by decide +kernel
theorem dX8_multiply_103 : decode cX8_multiply 103 = .ok (.laload, 1) := by decide +kernel
theorem dX8_multiply_104 : decode cX8_multiply 104 = .ok (.bipush 16, 2) := by decide +kernel
theorem dX8_multiply_106 : decode cX8_multiply 106 = .ok (.lushr, 1) := by decide +kernel
theorem dX8_multiply_107 : decode cX8_multiply 107 = .ok (.ladd, 1) := by decide +kernel
theorem dX8_multiply_108 : decode cX8_multiply 108 = .ok (.lastore, 1) := by decide +kernel
theorem dX8_multiply_109 : decode cX8_multiply 109 = .ok (.aload_n 0, 1) := by decide +kernel
theorem dX8_multiply_110 : decode cX8_multiply 110 = .ok (.getfield 23, 3) := by decide +kernel
theorem dX8_multiply_113 : decode cX8_multiply 113 = .ok (.iload 5, 2) := by decide +kernel
theorem dX8_multiply_115 : decode cX8_multiply 115 = .ok (.dup2, 1) := by decide +kernel
theorem dX8_multiply_116 : decode cX8_multiply 116 = .ok (.laload, 1) := by decide +kernel
theorem dX8_multiply_117 : decode cX8_multiply 117 = .ok (.ldc2_w 112, 3) := by decide +kernel
theorem dX8_multiply_120 : decode cX8_multiply 120 = .ok (.land, 1) := by decide +kernel
theorem dX8_multiply_121 : decode cX8_multiply 121 = .ok (.lastore, 1) := by decide +kernel
theorem dX8_multiply_122 : decode cX8_multiply 122 = .ok (.iinc 5 1, 3) := by decide +kernel
theorem dX8_multiply_125 : decode cX8_multiply 125 = .ok (.goto (-45), 3) := by decide +kernel
theorem dX8_multiply_128 : decode cX8_multiply 128 = .ok (.return_, 1) := by decide +kernel
theorem dX8_squareBits_0 : decode cX8_squareBits 0 = .ok (.iconst 0, 1) := by decide +kernel
theorem dX8_squareBits_1 : decode cX8_squareBits 1 = .ok (.istore_n 3, 1) := by decide +kernel
theorem dX8_squareBits_2 : decode cX8_squareBits 2 = .ok (.iload_n 3, 1) := by decide +kernel
theorem dX8_squareBits_3 : decode cX8_squareBits 3 = .ok (.bipush 16, 2) := by decide +kernel
theorem dX8_squareBits_5 : decode cX8_squareBits 5 = .ok (.if_icmp .ge 16, 3) := by decide +kernel
theorem dX8_squareBits_8 : decode cX8_squareBits 8 = .ok (.aload_n 0, 1) := by decide +kernel
theorem dX8_squareBits_9 : decode cX8_squareBits 9 = .ok (.getfield 19, 3) := by decide +kernel
theorem dX8_squareBits_12 : decode cX8_squareBits 12 = .ok (.iload_n 3, 1) := by decide +kernel
theorem dX8_squareBits_13 : decode cX8_squareBits 13 = .ok (.lconst 0, 1) := by decide +kernel
theorem dX8_squareBits_14 : decode cX8_squareBits 14 = .ok (.lastore, 1) := by decide +kernel
theorem dX8_squareBits_15 : decode cX8_squareBits 15 = .ok (.iinc 3 1, 3) := by decide +kernel
theorem dX8_squareBits_18 : decode cX8_squareBits 18 = .ok (.goto (-16), 3) := by decide +kernel
theorem dX8_squareBits_21 : decode cX8_squareBits 21 = .ok (.iload_n 2, 1) := by decide +kernel
theorem dX8_squareBits_22 : decode cX8_squareBits 22 = .ok (.iconst 3, 1) := by decide +kernel
theorem dX8_squareBits_23 : decode cX8_squareBits 23 = .ok (.iadd, 1) := by decide +kernel
theorem dX8_squareBits_24 : decode cX8_squareBits 24 = .ok (.istore_n 3, 1) := by decide +kernel
theorem dX8_squareBits_25 : decode cX8_squareBits 25 = .ok (.iload_n 3, 1) := by decide +kernel
theorem dX8_squareBits_26 : decode cX8_squareBits 26 = .ok (.ifCond .lt 73, 3) := by decide +kernel
theorem dX8_squareBits_29 : decode cX8_squareBits 29 = .ok (.aload_n 0, 1) := by decide +kernel
theorem dX8_squareBits_30 : decode cX8_squareBits 30 = .ok (.getfield 19, 3) := by decide +kernel
theorem dX8_squareBits_33 : decode cX8_squareBits 33 = .ok (.iload_n 3, 1) := by decide +kernel
theorem dX8_squareBits_34 : decode cX8_squareBits 34 = .ok (.bipush 16, 2) := by decide +kernel
theorem dX8_squareBits_36 : decode cX8_squareBits 36 = .ok (.idiv, 1) := by decide +kernel
theorem dX8_squareBits_37 : decode cX8_squareBits 37 = .ok (.dup2, 1) := by decide +kernel
theorem dX8_squareBits_38 : decode cX8_squareBits 38 = .ok (.laload, 1) := by decide +kernel
theorem dX8_squareBits_39 : decode cX8_squareBits 39 = .ok (.lconst 1, 1) := by decide +kernel
theorem dX8_squareBits_40 : decode cX8_squareBits 40 = .ok (.iload_n 3, 1) := by decide +kernel
theorem dX8_squareBits_41 : decode cX8_squareBits 41 = .ok (.bipush 16, 2) := by decide +kernel
theorem dX8_squareBits_43 : decode cX8_squareBits 43 = .ok (.irem, 1) := by decide +kernel
theorem dX8_squareBits_44 : decode cX8_squareBits 44 = .ok (.lshl, 1) := by decide +kernel
theorem dX8_squareBits_45 : decode cX8_squareBits 45 = .ok (.ladd, 1) := by decide +kernel
theorem dX8_squareBits_46 : decode cX8_squareBits 46 = .ok (.lastore, 1) := by decide +kernel
theorem dX8_squareBits_47 : decode cX8_squareBits 47 = .ok (.aload_n 0, 1) := by decide +kernel
theorem dX8_squareBits_48 : decode cX8_squareBits 48 = .ok (.aload_n 0, 1) := by decide +kernel
theorem dX8_squareBits_49 : decode cX8_squareBits 49 = .ok (.getfield 19, 3) := by decide +kernel
theorem dX8_squareBits_52 : decode cX8_squareBits 52 = .ok (.aload_n 0, 1) := by decide +kernel
theorem dX8_squareBits_53 : decode cX8_squareBits 53 = .ok (.getfield 19, 3) := by decide +kernel
theorem dX8_squareBits_56 : decode cX8_squareBits 56 = .ok (.iconst 5, 1) := by decide +kernel
theorem dX8_squareBits_57 : decode cX8_squareBits 57 = .ok (.iconst 5, 1) := by decide +kernel
theorem dX8_squareBits_58 : decode cX8_squareBits 58 = .ok (.invokevirtual 114, 3) := by decide +kernel
theorem dX8_squareBits_61 : decode cX8_squareBits 61 = .ok (.aload_n 0, 1) := by decide +kernel
theorem dX8_squareBits_62 : decode cX8_squareBits 62 = .ok (.getfield 23, 3) := by decide +kernel
theorem dX8_squareBits_65 : decode cX8_squareBits 65 = .ok (.iload_n 1, 1) := by decide +kernel
theorem dX8_squareBits_66 : decode cX8_squareBits 66 = .ok (.iconst 2, 1) := by decide +kernel
theorem dX8_squareBits_67 : decode cX8_squareBits 67 = .ok (.iload_n 2, 1) := by decide +kernel
theorem dX8_squareBits_68 : decode cX8_squareBits 68 = .ok (.imul, 1) := by decide +kernel
theorem dX8_squareBits_69 : decode cX8_squareBits 69 = .ok (.invokestatic 118, 3) := by decide +kernel
theorem dX8_squareBits_72 : decode cX8_squareBits 72 = .ok (.ifCond .ne 21, 3) := by decide +kernel
theorem dX8_squareBits_75 : decode cX8_squareBits 75 = .ok (.aload_n 0, 1) := by decide +kernel
theorem dX8_squareBits_76 : decode cX8_squareBits 76 = .ok (.getfield 19, 3) := by decide +kernel
theorem dX8_squareBits_79 : decode cX8_squareBits 79 = .ok (.iload_n 3, 1) := by decide +kernel
theorem dX8_squareBits_80 : decode cX8_squareBits 80 = .ok (.bipush 16, 2) := by decide +kernel
theorem dX8_squareBits_82 : decode cX8_squareBits 82 = .ok (.idiv, 1) := by decide +kernel
theorem dX8_squareBits_83 : decode cX8_squareBits 83 = .ok (.dup2, 1) := by decide +kernel
theorem dX8_squareBits_84 : decode cX8_squareBits 84 = .ok (.laload, 1) := by decide +kernel
theorem dX8_squareBits_85 : decode cX8_squareBits 85 = .ok (.lconst 1, 1) := by decide +kernel
theorem dX8_squareBits_86 : decode cX8_squareBits 86 = .ok (.iload_n 3, 1) := by decide +kernel
theorem dX8_squareBits_87 : decode cX8_squareBits 87 = .ok (.bipush 16, 2) := by decide +kernel
theorem dX8_squareBits_89 : decode cX8_squareBits 89 = .ok (.irem, 1) := by decide +kernel
theorem dX8_squareBits_90 : decode cX8_squareBits 90 = .ok (.lshl, 1) := by decide +kernel
theorem dX8_squareBits_91 : decode cX8_squareBits 91 = .ok (.lsub, 1) := by decide +kernel
theorem dX8_squareBits_92 : decode cX8_squareBits 92 = .ok (.lastore, 1) := by decide +kernel
theorem dX8_squareBits_93 : decode cX8_squareBits 93 = .ok (.iinc 3 (-1), 3) := by decide +kernel
theorem dX8_squareBits_96 : decode cX8_squareBits 96 = .ok (.goto (-71), 3) := by decide +kernel
theorem dX8_squareBits_99 : decode cX8_squareBits 99 = .ok (.aload_n 0, 1) := by decide +kernel
theorem dX8_squareBits_100 : decode cX8_squareBits 100 = .ok (.getfield 19, 3) := by decide +kernel
theorem dX8_squareBits_103 : decode cX8_squareBits 103 = .ok (.iconst 1, 1) := by decide +kernel
theorem dX8_squareBits_104 : decode cX8_squareBits 104 = .ok (.laload, 1) := by decide +kernel
theorem dX8_squareBits_105 : decode cX8_squareBits 105 = .ok (.bipush 16, 2) := by decide +kernel
theorem dX8_squareBits_107 : decode cX8_squareBits 107 = .ok (.lshl, 1) := by decide +kernel
theorem dX8_squareBits_108 : decode cX8_squareBits 108 = .ok (.aload_n 0, 1) := by decide +kernel
theorem dX8_squareBits_109 : decode cX8_squareBits 109 = .ok (.getfield 19, 3) := by decide +kernel
theorem dX8_squareBits_112 : decode cX8_squareBits 112 = .ok (.iconst 0, 1) := by decide +kernel
theorem dX8_squareBits_113 : decode cX8_squareBits 113 = .ok (.laload, 1) := by decide +kernel
theorem dX8_squareBits_114 : decode cX8_squareBits 114 = .ok (.lor, 1) := by decide +kernel
theorem dX8_squareBits_115 : decode cX8_squareBits 115 = .ok (.l2i, 1) := by decide +kernel
theorem dX8_squareBits_116 : decode cX8_squareBits 116 = .ok (.ireturn, 1) := by decide +kernel
theorem dX8_cubeBits_0 : decode cX8_cubeBits 0 = .ok (.iconst 0, 1) := by decide +kernel
theorem dX8_cubeBits_1 : decode cX8_cubeBits 1 = .ok (.istore_n 2, 1) := by decide +kernel
theorem dX8_cubeBits_2 : decode cX8_cubeBits 2 = .ok (.iload_n 2, 1) := by decide +kernel
theorem dX8_cubeBits_3 : decode cX8_cubeBits 3 = .ok (.bipush 16, 2) := by decide +kernel
theorem dX8_cubeBits_5 : decode cX8_cubeBits 5 = .ok (.if_icmp .ge 16, 3) := by decide +kernel
theorem dX8_cubeBits_8 : decode cX8_cubeBits 8 = .ok (.aload_n 0, 1) := by decide +kernel
theorem dX8_cubeBits_9 : decode cX8_cubeBits 9 = .ok (.getfield 19, 3) := by decide +kernel
theorem dX8_cubeBits_12 : decode cX8_cubeBits 12 = .ok (.iload_n 2, 1) := by decide +kernel
theorem dX8_cubeBits_13 : decode cX8_cubeBits 13 = .ok (.lconst 0, 1) := by decide +kernel
theorem dX8_cubeBits_14 : decode cX8_cubeBits 14 = .ok (.lastore, 1) := by decide +kernel
theorem dX8_cubeBits_15 : decode cX8_cubeBits 15 = .ok (.iinc 2 1, 3) := by decide +kernel
theorem dX8_cubeBits_18 : decode cX8_cubeBits 18 = .ok (.goto (-16), 3) := by decide +kernel
theorem dX8_cubeBits_21 : decode cX8_cubeBits 21 = .ok (.bipush 35, 2) := by decide +kernel
theorem dX8_cubeBits_23 : decode cX8_cubeBits 23 = .ok (.istore_n 2, 1) := by decide +kernel
theorem dX8_cubeBits_24 : decode cX8_cubeBits 24 = .ok (.iload_n 2, 1) := by decide +kernel
theorem dX8_cubeBits_25 : decode cX8_cubeBits 25 = .ok (.ifCond .lt 113, 3) := by decide +kernel
theorem dX8_cubeBits_28 : decode cX8_cubeBits 28 = .ok (.aload_n 0, 1) := by decide +kernel
theorem dX8_cubeBits_29 : decode cX8_cubeBits 29 = .ok (.getfield 19, 3) := by decide +kernel
theorem dX8_cubeBits_32 : decode cX8_cubeBits 32 = .ok (.iload_n 2, 1) := by decide +kernel
theorem dX8_cubeBits_33 : decode cX8_cubeBits 33 = .ok (.bipush 16, 2) := by decide +kernel
theorem dX8_cubeBits_35 : decode cX8_cubeBits 35 = .ok (.idiv, 1) := by decide +kernel
theorem dX8_cubeBits_36 : decode cX8_cubeBits 36 = .ok (.dup2, 1) := by decide +kernel
theorem dX8_cubeBits_37 : decode cX8_cubeBits 37 = .ok (.laload, 1) := by decide +kernel
theorem dX8_cubeBits_38 : decode cX8_cubeBits 38 = .ok (.lconst 1, 1) := by decide +kernel
theorem dX8_cubeBits_39 : decode cX8_cubeBits 39 = .ok (.iload_n 2, 1) := by decide +kernel
theorem dX8_cubeBits_40 : decode cX8_cubeBits 40 = .ok (.bipush 16, 2) := by decide +kernel
theorem dX8_cubeBits_42 : decode cX8_cubeBits 42 = .ok (.irem, 1) := by decide +kernel
theorem dX8_cubeBits_43 : decode cX8_cubeBits 43 = .ok (.lshl, 1) := by decide +kernel
theorem dX8_cubeBits_44 : decode cX8_cubeBits 44 = .ok (.ladd, 1) := by decide +kernel
theorem dX8_cubeBits_45 : decode cX8_cubeBits 45 = .ok (.lastore, 1) := by decide +kernel
theorem dX8_cubeBits_46 : decode cX8_cubeBits 46 = .ok (.aload_n 0, 1) := by decide +kernel
theorem dX8_cubeBits_47 : decode cX8_cubeBits 47 = .ok (.aload_n 0, 1) := by decide +kernel
theorem dX8_cubeBits_48 : decode cX8_cubeBits 48 = .ok (.getfield 19, 3) := by decide +kernel
theorem dX8_cubeBits_51 : decode cX8_cubeBits 51 = .ok (.aload_n 0, 1) := by decide +kernel
theorem dX8_cubeBits_52 : decode cX8_cubeBits 52 = .ok (.getfield 19, 3) := by decide +kernel
theorem dX8_cubeBits_55 : decode cX8_cubeBits 55 = .ok (.iconst 3, 1) := by decide +kernel
theorem dX8_cubeBits_56 : decode cX8_cubeBits 56 = .ok (.iconst 3, 1) := by decide +kernel
theorem dX8_cubeBits_57 : decode cX8_cubeBits 57 = .ok (.invokevirtual 114, 3) := by decide +kernel
theorem dX8_cubeBits_60 : decode cX8_cubeBits 60 = .ok (.iconst 0, 1) := by decide +kernel
theorem dX8_cubeBits_61 : decode cX8_cubeBits 61 = .ok (.istore_n 3, 1) := by decide +kernel
theorem dX8_cubeBits_62 : decode cX8_cubeBits 62 = .ok (.iload_n 3, 1) := by decide +kernel
theorem dX8_cubeBits_63 : decode cX8_cubeBits 63 = .ok (.bipush 16, 2) := by decide +kernel
theorem dX8_cubeBits_65 : decode cX8_cubeBits 65 = .ok (.if_icmp .ge 21, 3) := by decide +kernel
theorem dX8_cubeBits_68 : decode cX8_cubeBits 68 = .ok (.aload_n 0, 1) := by decide +kernel
theorem dX8_cubeBits_69 : decode cX8_cubeBits 69 = .ok (.getfield 26, 3) := by decide +kernel
theorem dX8_cubeBits_72 : decode cX8_cubeBits 72 = .ok (.iload_n 3, 1) := by decide +kernel
theorem dX8_cubeBits_73 : decode cX8_cubeBits 73 = .ok (.aload_n 0, 1) := by decide +kernel
theorem dX8_cubeBits_74 : decode cX8_cubeBits 74 = .ok (.getfield 23, 3) := by decide +kernel
theorem dX8_cubeBits_77 : decode cX8_cubeBits 77 = .ok (.iload_n 3, 1) := by decide +kernel
theorem dX8_cubeBits_78 : decode cX8_cubeBits 78 = .ok (.laload, 1) := by decide +kernel
theorem dX8_cubeBits_79 : decode cX8_cubeBits 79 = .ok (.lastore, 1) := by decide +kernel
theorem dX8_cubeBits_80 : decode cX8_cubeBits 80 = .ok (.iinc 3 1, 3) := by decide +kernel
theorem dX8_cubeBits_83 : decode cX8_cubeBits 83 = .ok (.goto (-21), 3) := by decide +kernel
theorem dX8_cubeBits_86 : decode cX8_cubeBits 86 = .ok (.aload_n 0, 1) := by decide +kernel
theorem dX8_cubeBits_87 : decode cX8_cubeBits 87 = .ok (.aload_n 0, 1) := by decide +kernel
theorem dX8_cubeBits_88 : decode cX8_cubeBits 88 = .ok (.getfield 26, 3) := by decide +kernel
theorem dX8_cubeBits_91 : decode cX8_cubeBits 91 = .ok (.aload_n 0, 1) := by decide +kernel
theorem dX8_cubeBits_92 : decode cX8_cubeBits 92 = .ok (.getfield 19, 3) := by decide +kernel
theorem dX8_cubeBits_95 : decode cX8_cubeBits 95 = .ok (.bipush 6, 2) := by decide +kernel
theorem dX8_cubeBits_97 : decode cX8_cubeBits 97 = .ok (.iconst 3, 1) := by decide +kernel
theorem dX8_cubeBits_98 : decode cX8_cubeBits 98 = .ok (.invokevirtual 114, 3) := by decide +kernel
theorem dX8_cubeBits_101 : decode cX8_cubeBits 101 = .ok (.aload_n 0, 1) := by decide +kernel
theorem dX8_cubeBits_102 : decode cX8_cubeBits 102 = .ok (.getfield 23, 3) := by decide +kernel
theorem dX8_cubeBits_105 : decode cX8_cubeBits 105 = .ok (.iload_n 1, 1) := by decide +kernel
theorem dX8_cubeBits_106 : decode cX8_cubeBits 106 = .ok (.bipush 96, 2) := by decide +kernel
theorem dX8_cubeBits_108 : decode cX8_cubeBits 108 = .ok (.invokestatic 118, 3) := by decide +kernel
theorem dX8_cubeBits_111 : decode cX8_cubeBits 111 = .ok (.ifCond .ne 21, 3) := by decide +kernel
theorem dX8_cubeBits_114 : decode cX8_cubeBits 114 = .ok (.aload_n 0, 1) := by decide +kernel
theorem dX8_cubeBits_115 : decode cX8_cubeBits 115 = .ok (.getfield 19, 3) := by decide +kernel
theorem dX8_cubeBits_118 : decode cX8_cubeBits 118 = .ok (.iload_n 2, 1) := by decide +kernel
theorem dX8_cubeBits_119 : decode cX8_cubeBits 119 = .ok (.bipush 16, 2) := by decide +kernel
theorem dX8_cubeBits_121 : decode cX8_cubeBits 121 = .ok (.idiv, 1) := by decide +kernel
theorem dX8_cubeBits_122 : decode cX8_cubeBits 122 = .ok (.dup2, 1) := by decide +kernel
theorem dX8_cubeBits_123 : decode cX8_cubeBits 123 = .ok (.laload, 1) := by decide +kernel
theorem dX8_cubeBits_124 : decode cX8_cubeBits 124 = .ok (.lconst 1, 1) := by decide +kernel
theorem dX8_cubeBits_125 : decode cX8_cubeBits 125 = .ok (.iload_n 2, 1) := by decide +kernel
theorem dX8_cubeBits_126 : decode cX8_cubeBits 126 = .ok (.bipush 16, 2) := by decide +kernel
theorem dX8_cubeBits_128 : decode cX8_cubeBits 128 = .ok (.irem, 1) := by decide +kernel
theorem dX8_cubeBits_129 : decode cX8_cubeBits 129 = .ok (.lshl, 1) := by decide +kernel
theorem dX8_cubeBits_130 : decode cX8_cubeBits 130 = .ok (.lsub, 1) := by decide +kernel
theorem dX8_cubeBits_131 : decode cX8_cubeBits 131 = .ok (.lastore, 1) := by decide +kernel
theorem dX8_cubeBits_132 : decode cX8_cubeBits 132 = .ok (.iinc 2 (-1), 3) := by decide +kernel
theorem dX8_cubeBits_135 : decode cX8_cubeBits 135 = .ok (.goto (-111), 3) := by decide +kernel
theorem dX8_cubeBits_138 : decode cX8_cubeBits 138 = .ok (.aload_n 0, 1) := by decide +kernel
theorem dX8_cubeBits_139 : decode cX8_cubeBits 139 = .ok (.getfield 19, 3) := by decide +kernel
theorem dX8_cubeBits_142 : decode cX8_cubeBits 142 = .ok (.iconst 1, 1) := by decide +kernel
theorem dX8_cubeBits_143 : decode cX8_cubeBits 143 = .ok (.laload, 1) := by decide +kernel
theorem dX8_cubeBits_144 : decode cX8_cubeBits 144 = .ok (.bipush 16, 2) := by decide +kernel
theorem dX8_cubeBits_146 : decode cX8_cubeBits 146 = .ok (.lshl, 1) := by decide +kernel
theorem dX8_cubeBits_147 : decode cX8_cubeBits 147 = .ok (.aload_n 0, 1) := by decide +kernel
theorem dX8_cubeBits_148 : decode cX8_cubeBits 148 = .ok (.getfield 19, 3) := by decide +kernel
theorem dX8_cubeBits_151 : decode cX8_cubeBits 151 = .ok (.iconst 0, 1) := by decide +kernel
theorem dX8_cubeBits_152 : decode cX8_cubeBits 152 = .ok (.laload, 1) := by decide +kernel
theorem dX8_cubeBits_153 : decode cX8_cubeBits 153 = .ok (.lor, 1) := by decide +kernel
theorem dX8_cubeBits_154 : decode cX8_cubeBits 154 = .ok (.l2i, 1) := by decide +kernel
theorem dX8_cubeBits_155 : decode cX8_cubeBits 155 = .ok (.ireturn, 1) := by decide +kernel
theorem dX8_isUpTo_0 : decode cX8_isUpTo 0 = .ok (.iload_n 2, 1) := by decide +kernel
theorem dX8_isUpTo_1 : decode cX8_isUpTo 1 = .ok (.bipush 16, 2) := by decide +kernel
theorem dX8_isUpTo_3 : decode cX8_isUpTo 3 = .ok (.idiv, 1) := by decide +kernel
theorem dX8_isUpTo_4 : decode cX8_isUpTo 4 = .ok (.istore_n 3, 1) := by decide +kernel
theorem dX8_isUpTo_5 : decode cX8_isUpTo 5 = .ok (.iconst 0, 1) := by decide +kernel
theorem dX8_isUpTo_6 : decode cX8_isUpTo 6 = .ok (.istore 4, 2) := by decide +kernel
theorem dX8_isUpTo_8 : decode cX8_isUpTo 8 = .ok (.iconst 0, 1) := by decide +kernel
theorem dX8_isUpTo_9 : decode cX8_isUpTo 9 = .ok (.istore 5, 2) := by decide +kernel
theorem dX8_isUpTo_11 : decode cX8_isUpTo 11 = .ok (.iload 5, 2) := by decide +kernel
theorem dX8_isUpTo_13 : decode cX8_isUpTo 13 = .ok (.iload_n 3, 1) := by decide +kernel
theorem dX8_isUpTo_14 : decode cX8_isUpTo 14 = .ok (.if_icmp .ge 30, 3) := by decide +kernel
theorem dX8_isUpTo_17 : decode cX8_isUpTo 17 = .ok (.iload 4, 2) := by decide +kernel
theorem dX8_isUpTo_19 : decode cX8_isUpTo 19 = .ok (.ifCond .ne 12, 3) := by decide +kernel
theorem dX8_isUpTo_22 : decode cX8_isUpTo 22 = .ok (.aload_n 0, 1) := by decide +kernel
theorem dX8_isUpTo_23 : decode cX8_isUpTo 23 = .ok (.iload 5, 2) := by decide +kernel
theorem dX8_isUpTo_25 : decode cX8_isUpTo 25 = .ok (.laload, 1) := by decide +kernel
theorem dX8_isUpTo_26 : decode cX8_isUpTo 26 = .ok (.lconst 0, 1) := by decide +kernel
theorem dX8_isUpTo_27 : decode cX8_isUpTo 27 = .ok (.lcmp, 1) := by decide +kernel
theorem dX8_isUpTo_28 : decode cX8_isUpTo 28 = .ok (.ifCond .eq 7, 3) := by decide +kernel
theorem dX8_isUpTo_31 : decode cX8_isUpTo 31 = .ok (.iconst 1, 1) := by decide +kernel
theorem dX8_isUpTo_32 : decode cX8_isUpTo 32 = .ok (.goto 4, 3) := by decide +kernel
theorem dX8_isUpTo_35 : decode cX8_isUpTo 35 = .ok (.iconst 0, 1) := by decide +kernel
theorem dX8_isUpTo_36 : decode cX8_isUpTo 36 = .ok (.istore 4, 2) := by decide +kernel
theorem dX8_isUpTo_38 : decode cX8_isUpTo 38 = .ok (.iinc 5 1, 3) := by decide +kernel
theorem dX8_isUpTo_41 : decode cX8_isUpTo 41 = .ok (.goto (-30), 3) := by decide +kernel
theorem dX8_isUpTo_44 : decode cX8_isUpTo 44 = .ok (.iconst 0, 1) := by decide +kernel
theorem dX8_isUpTo_45 : decode cX8_isUpTo 45 = .ok (.istore 5, 2) := by decide +kernel
theorem dX8_isUpTo_47 : decode cX8_isUpTo 47 = .ok (.iload_n 3, 1) := by decide +kernel
theorem dX8_isUpTo_48 : decode cX8_isUpTo 48 = .ok (.iconst 1, 1) := by decide +kernel
theorem dX8_isUpTo_49 : decode cX8_isUpTo 49 = .ok (.iadd, 1) := by decide +kernel
theorem dX8_isUpTo_50 : decode cX8_isUpTo 50 = .ok (.istore 6, 2) := by decide +kernel
theorem dX8_isUpTo_52 : decode cX8_isUpTo 52 = .ok (.iload 6, 2) := by decide +kernel
theorem dX8_isUpTo_54 : decode cX8_isUpTo 54 = .ok (.bipush 16, 2) := by decide +kernel
theorem dX8_isUpTo_56 : decode cX8_isUpTo 56 = .ok (.if_icmp .ge 30, 3) := by decide +kernel
theorem dX8_isUpTo_59 : decode cX8_isUpTo 59 = .ok (.iload 5, 2) := by decide +kernel
theorem dX8_isUpTo_61 : decode cX8_isUpTo 61 = .ok (.ifCond .ne 12, 3) := by decide +kernel
theorem dX8_isUpTo_64 : decode cX8_isUpTo 64 = .ok (.aload_n 0, 1) := by decide +kernel
theorem dX8_isUpTo_65 : decode cX8_isUpTo 65 = .ok (.iload 6, 2) := by decide +kernel
theorem dX8_isUpTo_67 : decode cX8_isUpTo 67 = .ok (.laload, 1) := by decide +kernel
theorem dX8_isUpTo_68 : decode cX8_isUpTo 68 = .ok (.lconst 0, 1) := by decide +kernel
theorem dX8_isUpTo_69 : decode cX8_isUpTo 69 = .ok (.lcmp, 1) := by decide +kernel
theorem dX8_isUpTo_70 : decode cX8_isUpTo 70 = .ok (.ifCond .eq 7, 3) := by decide +kernel
theorem dX8_isUpTo_73 : decode cX8_isUpTo 73 = .ok (.iconst 1, 1) := by decide +kernel
theorem dX8_isUpTo_74 : decode cX8_isUpTo 74 = .ok (.goto 4, 3) := by decide +kernel
theorem dX8_isUpTo_77 : decode cX8_isUpTo 77 = .ok (.iconst 0, 1) := by decide +kernel
theorem dX8_isUpTo_78 : decode cX8_isUpTo 78 = .ok (.istore 5, 2) := by decide +kernel
theorem dX8_isUpTo_80 : decode cX8_isUpTo 80 = .ok (.iinc 6 1, 3) := by decide +kernel
theorem dX8_isUpTo_83 : decode cX8_isUpTo 83 = .ok (.goto (-31), 3) := by decide +kernel
theorem dX8_isUpTo_86 : decode cX8_isUpTo 86 = .ok (.iload 5, 2) := by decide +kernel
theorem dX8_isUpTo_88 : decode cX8_isUpTo 88 = .ok (.ifCond .ne 30, 3) := by decide +kernel
theorem dX8_isUpTo_91 : decode cX8_isUpTo 91 = .ok (.aload_n 0, 1) := by decide +kernel
theorem dX8_isUpTo_92 : decode cX8_isUpTo 92 = .ok (.iload_n 3, 1) := by decide +kernel
theorem dX8_isUpTo_93 : decode cX8_isUpTo 93 = .ok (.laload, 1) := by decide +kernel
theorem dX8_isUpTo_94 : decode cX8_isUpTo 94 = .ok (.iload_n 1, 1) := by decide +kernel
theorem dX8_isUpTo_95 : decode cX8_isUpTo 95 = .ok (.i2l, 1) := by decide +kernel
theorem dX8_isUpTo_96 : decode cX8_isUpTo 96 = .ok (.lcmp, 1) := by decide +kernel
theorem dX8_isUpTo_97 : decode cX8_isUpTo 97 = .ok (.ifCond .lt 17, 3) := by decide +kernel
theorem dX8_isUpTo_100 : decode cX8_isUpTo 100 = .ok (.aload_n 0, 1) := by decide +kernel
theorem dX8_isUpTo_101 : decode cX8_isUpTo 101 = .ok (.iload_n 3, 1) := by decide +kernel
theorem dX8_isUpTo_102 : decode cX8_isUpTo 102 = .ok (.laload, 1) := by decide +kernel
theorem dX8_isUpTo_103 : decode cX8_isUpTo 103 = .ok (.iload_n 1, 1) := by decide +kernel
theorem dX8_isUpTo_104 : decode cX8_isUpTo 104 = .ok (.i2l, 1) := by decide +kernel
theorem dX8_isUpTo_105 : decode cX8_isUpTo 105 = .ok (.lcmp, 1) := by decide +kernel
theorem dX8_isUpTo_106 : decode cX8_isUpTo 106 = .ok (.ifCond .ne 12, 3) := by decide +kernel
theorem dX8_isUpTo_109 : decode cX8_isUpTo 109 = .ok (.iload 4, 2) := by decide +kernel
theorem dX8_isUpTo_111 : decode cX8_isUpTo 111 = .ok (.ifCond .ne 7, 3) := by decide +kernel
theorem dX8_isUpTo_114 : decode cX8_isUpTo 114 = .ok (.iconst 1, 1) := by decide +kernel
theorem dX8_isUpTo_115 : decode cX8_isUpTo 115 = .ok (.goto 4, 3) := by decide +kernel
theorem dX8_isUpTo_118 : decode cX8_isUpTo 118 = .ok (.iconst 0, 1) := by decide +kernel
theorem dX8_isUpTo_119 : decode cX8_isUpTo 119 = .ok (.ireturn, 1) := by decide +kernel
theorem dX8_right_0 : decode cX8_right 0 = .ok (.iload_n 0, 1) := by decide +kernel
theorem dX8_right_1 : decode cX8_right 1 = .ok (.iload_n 1, 1) := by decide +kernel
theorem dX8_right_2 : decode cX8_right 2 = .ok (.iushr, 1) := by decide +kernel
theorem dX8_right_3 : decode cX8_right 3 = .ok (.iload_n 0, 1) := by decide +kernel
theorem dX8_right_4 : decode cX8_right 4 = .ok (.bipush 32, 2) := by decide +kernel
theorem dX8_right_6 : decode cX8_right 6 = .ok (.iload_n 1, 1) := by decide +kernel
theorem dX8_right_7 : decode cX8_right 7 = .ok (.isub, 1) := by decide +kernel
theorem dX8_right_8 : decode cX8_right 8 = .ok (.ishl, 1) := by decide +kernel
theorem dX8_right_9 : decode cX8_right 9 = .ok (.ior, 1) := by decide +kernel
theorem dX8_right_10 : decode cX8_right 10 = .ok (.ireturn, 1) := by decide +kernel
theorem dX8_put_0 : decode cX8_put 0 = .ok (.aload_n 0, 1) := by decide +kernel
theorem dX8_put_1 : decode cX8_put 1 = .ok (.getfield 29, 3) := by decide +kernel
theorem dX8_put_4 : decode cX8_put 4 = .ok (.aload_n 0, 1) := by decide +kernel
theorem dX8_put_5 : decode cX8_put 5 = .ok (.getfield 122, 3) := by decide +kernel
theorem dX8_put_8 : decode cX8_put 8 = .ok (.iload_n 1, 1) := by decide +kernel
theorem dX8_put_9 : decode cX8_put 9 = .ok (.iastore, 1) := by decide +kernel
theorem dX8_put_10 : decode cX8_put 10 = .ok (.aload_n 0, 1) := by decide +kernel
theorem dX8_put_11 : decode cX8_put 11 = .ok (.dup, 1) := by decide +kernel
theorem dX8_put_12 : decode cX8_put 12 = .ok (.getfield 122, 3) := by decide +kernel
theorem dX8_put_15 : decode cX8_put 15 = .ok (.iconst 1, 1) := by decide +kernel
theorem dX8_put_16 : decode cX8_put 16 = .ok (.iadd, 1) := by decide +kernel
theorem dX8_put_17 : decode cX8_put 17 = .ok (.putfield 122, 3) := by decide +kernel
theorem dX8_put_20 : decode cX8_put 20 = .ok (.return_, 1) := by decide +kernel
theorem dX8_work_0 : decode cX8_work 0 = .ok (.ldc2_w 126, 3) := by decide +kernel
theorem dX8_work_3 : decode cX8_work 3 = .ok (.aload_n 0, 1) := by decide +kernel
theorem dX8_work_4 : decode cX8_work 4 = .ok (.getfield 122, 3) := by decide +kernel
theorem dX8_work_7 : decode cX8_work 7 = .ok (.i2l, 1) := by decide +kernel
theorem dX8_work_8 : decode cX8_work 8 = .ok (.lmul, 1) := by decide +kernel
theorem dX8_work_9 : decode cX8_work 9 = .ok (.lstore_n 2, 1) := by decide +kernel
theorem dX8_work_10 : decode cX8_work 10 = .ok (.aload_n 0, 1) := by decide +kernel
theorem dX8_work_11 : decode cX8_work 11 = .ok (.sipush 128, 3) := by decide +kernel
theorem dX8_work_14 : decode cX8_work 14 = .ok (.invokevirtual 128, 3) := by decide +kernel
theorem dX8_work_17 : decode cX8_work 17 = .ok (.aload_n 0, 1) := by decide +kernel
theorem dX8_work_18 : decode cX8_work 18 = .ok (.getfield 122, 3) := by decide +kernel
theorem dX8_work_21 : decode cX8_work 21 = .ok (.bipush 64, 2) := by decide +kernel
theorem dX8_work_23 : decode cX8_work 23 = .ok (.irem, 1) := by decide +kernel
theorem dX8_work_24 : decode cX8_work 24 = .ok (.bipush 56, 2) := by decide +kernel
theorem dX8_work_26 : decode cX8_work 26 = .ok (.if_icmp .eq 11, 3) := by decide +kernel
theorem dX8_work_29 : decode cX8_work 29 = .ok (.aload_n 0, 1) := by decide +kernel
theorem dX8_work_30 : decode cX8_work 30 = .ok (.iconst 0, 1) := by decide +kernel
theorem dX8_work_31 : decode cX8_work 31 = .ok (.invokevirtual 128, 3) := by decide +kernel
theorem dX8_work_34 : decode cX8_work 34 = .ok (.goto (-17), 3) := by decide +kernel
theorem dX8_work_37 : decode cX8_work 37 = .ok (.bipush 56, 2) := by decide +kernel
theorem dX8_work_39 : decode cX8_work 39 = .ok (.istore 4, 2) := by decide +kernel
theorem dX8_work_41 : decode cX8_work 41 = .ok (.iload 4, 2) := by decide +kernel
theorem dX8_work_43 : decode cX8_work 43 = .ok (.ifCond .lt 22, 3) := by decide +kernel
theorem dX8_work_46 : decode cX8_work 46 = .ok (.aload_n 0, 1) := by decide +kernel
theorem dX8_work_47 : decode cX8_work 47 = .ok (.lload_n 2, 1) := by decide +kernel
theorem dX8_work_48 : decode cX8_work 48 = .ok (.iload 4, 2) := by decide +kernel
theorem dX8_work_50 : decode cX8_work 50 = .ok (.lushr, 1) := by decide +kernel
theorem dX8_work_51 : decode cX8_work 51 = .ok (.ldc2_w 132, 3) := by decide +kernel
theorem dX8_work_54 : decode cX8_work 54 = .ok (.land, 1) := by decide +kernel
theorem dX8_work_55 : decode cX8_work 55 = .ok (.l2i, 1) := by decide +kernel
theorem dX8_work_56 : decode cX8_work 56 = .ok (.invokevirtual 128, 3) := by decide +kernel
theorem dX8_work_59 : decode cX8_work 59 = .ok (.iinc 4 (-8), 3) := by decide +kernel
theorem dX8_work_62 : decode cX8_work 62 = .ok (.goto (-21), 3) := by decide +kernel
theorem dX8_work_65 : decode cX8_work 65 = .ok (.iconst 0, 1) := by decide +kernel
theorem dX8_work_66 : decode cX8_work 66 = .ok (.istore 4, 2) := by decide +kernel
theorem dX8_work_68 : decode cX8_work 68 = .ok (.iload 4, 2) := by decide +kernel
theorem dX8_work_70 : decode cX8_work 70 = .ok (.bipush 8, 2) := by decide +kernel
theorem dX8_work_72 : decode cX8_work 72 = .ok (.if_icmp .ge 37, 3) := by decide +kernel
theorem dX8_work_75 : decode cX8_work 75 = .ok (.aload_n 0, 1) := by decide +kernel
theorem dX8_work_76 : decode cX8_work 76 = .ok (.getfield 32, 3) := by decide +kernel
theorem dX8_work_79 : decode cX8_work 79 = .ok (.iload 4, 2) := by decide +kernel
theorem dX8_work_81 : decode cX8_work 81 = .ok (.iload_n 1, 1) := by decide +kernel
theorem dX8_work_82 : decode cX8_work 82 = .ok (.ifCond .eq 13, 3) := by decide +kernel
theorem dX8_work_85 : decode cX8_work 85 = .ok (.aload_n 0, 1) := by decide +kernel
theorem dX8_work_86 : decode cX8_work 86 = .ok (.getfield 16, 3) := by decide +kernel
theorem dX8_work_89 : decode cX8_work 89 = .ok (.iload 4, 2) := by decide +kernel
theorem dX8_work_91 : decode cX8_work 91 = .ok (.iaload, 1) := by decide +kernel
theorem dX8_work_92 : decode cX8_work 92 = .ok (.goto 10, 3) := by decide +kernel
theorem dX8_work_95 : decode cX8_work 95 = .ok (.aload_n 0, 1) := by decide +kernel
theorem dX8_work_96 : decode cX8_work 96 = .ok (.getfield 13, 3) := by decide +kernel
theorem dX8_work_99 : decode cX8_work 99 = .ok (.iload 4, 2) := by decide +kernel
theorem dX8_work_101 : decode cX8_work 101 = .ok (.iaload, 1) := by decide +kernel
theorem dX8_work_102 : decode cX8_work 102 = .ok (.iastore, 1) := by decide +kernel
theorem dX8_work_103 : decode cX8_work 103 = .ok (.iinc 4 1, 3) := by decide +kernel
theorem dX8_work_106 : decode cX8_work 106 = .ok (.goto (-38), 3) := by decide +kernel
theorem dX8_work_109 : decode cX8_work 109 = .ok (.iconst 0, 1) := by decide +kernel
theorem dX8_work_110 : decode cX8_work 110 = .ok (.istore 4, 2) := by decide +kernel
theorem dX8_work_112 : decode cX8_work 112 = .ok (.iload 4, 2) := by decide +kernel
theorem dX8_work_114 : decode cX8_work 114 = .ok (.aload_n 0, 1) := by decide +kernel
theorem dX8_work_115 : decode cX8_work 115 = .ok (.getfield 122, 3) := by decide +kernel
theorem dX8_work_118 : decode cX8_work 118 = .ok (.if_icmp .ge 25, 3) := by decide +kernel
theorem dX8_work_121 : decode cX8_work 121 = .ok (.aload_n 0, 1) := by decide +kernel
theorem dX8_work_122 : decode cX8_work 122 = .ok (.iload 4, 2) := by decide +kernel
theorem dX8_work_124 : decode cX8_work 124 = .ok (.invokevirtual 134, 3) := by decide +kernel
theorem dX8_work_127 : decode cX8_work 127 = .ok (.aload_n 0, 1) := by decide +kernel
theorem dX8_work_128 : decode cX8_work 128 = .ok (.dup, 1) := by decide +kernel
theorem dX8_work_129 : decode cX8_work 129 = .ok (.getfield 137, 3) := by decide +kernel
theorem dX8_work_132 : decode cX8_work 132 = .ok (.iconst 1, 1) := by decide +kernel
theorem dX8_work_133 : decode cX8_work 133 = .ok (.iadd, 1) := by decide +kernel
theorem dX8_work_134 : decode cX8_work 134 = .ok (.putfield 137, 3) := by decide +kernel
theorem dX8_work_137 : decode cX8_work 137 = .ok (.iinc 4 64, 3) := by decide +kernel
theorem dX8_work_140 : decode cX8_work 140 = .ok (.goto (-28), 3) := by decide +kernel
theorem dX8_work_143 : decode cX8_work 143 = .ok (.aload_n 0, 1) := by decide +kernel
theorem dX8_work_144 : decode cX8_work 144 = .ok (.iconst 0, 1) := by decide +kernel
theorem dX8_work_145 : decode cX8_work 145 = .ok (.putfield 122, 3) := by decide +kernel
theorem dX8_work_148 : decode cX8_work 148 = .ok (.return_, 1) := by decide +kernel
theorem dX8_block_0 : decode cX8_block 0 = .ok (.iconst 0, 1) := by decide +kernel
theorem dX8_block_1 : decode cX8_block 1 = .ok (.istore_n 2, 1) := by decide +kernel
theorem dX8_block_2 : decode cX8_block 2 = .ok (.iload_n 2, 1) := by decide +kernel
theorem dX8_block_3 : decode cX8_block 3 = .ok (.bipush 16, 2) := by decide +kernel
theorem dX8_block_5 : decode cX8_block 5 = .ok (.if_icmp .ge 63, 3) := by decide +kernel
theorem dX8_block_8 : decode cX8_block 8 = .ok (.iload_n 1, 1) := by decide +kernel
theorem dX8_block_9 : decode cX8_block 9 = .ok (.iconst 4, 1) := by decide +kernel
theorem dX8_block_10 : decode cX8_block 10 = .ok (.iload_n 2, 1) := by decide +kernel
theorem dX8_block_11 : decode cX8_block 11 = .ok (.imul, 1) := by decide +kernel
theorem dX8_block_12 : decode cX8_block 12 = .ok (.iadd, 1) := by decide +kernel
theorem dX8_block_13 : decode cX8_block 13 = .ok (.istore_n 3, 1) := by decide +kernel
theorem dX8_block_14 : decode cX8_block 14 = .ok (.aload_n 0, 1) := by decide +kernel
theorem dX8_block_15 : decode cX8_block 15 = .ok (.getfield 35, 3) := by decide +kernel
theorem dX8_block_18 : decode cX8_block 18 = .ok (.iload_n 2, 1) := by decide +kernel
theorem dX8_block_19 : decode cX8_block 19 = .ok (.aload_n 0, 1) := by decide +kernel
theorem dX8_block_20 : decode cX8_block 20 = .ok (.getfield 29, 3) := by decide +kernel
theorem dX8_block_23 : decode cX8_block 23 = .ok (.iload_n 3, 1) := by decide +kernel
theorem dX8_block_24 : decode cX8_block 24 = .ok (.iaload, 1) := by decide +kernel
theorem dX8_block_25 : decode cX8_block 25 = .ok (.bipush 24, 2) := by decide +kernel
theorem dX8_block_27 : decode cX8_block 27 = .ok (.ishl, 1) := by decide +kernel
theorem dX8_block_28 : decode cX8_block 28 = .ok (.aload_n 0, 1) := by decide +kernel
theorem dX8_block_29 : decode cX8_block 29 = .ok (.getfield 29, 3) := by decide +kernel
theorem dX8_block_32 : decode cX8_block 32 = .ok (.iload_n 3, 1) := by decide +kernel
theorem dX8_block_33 : decode cX8_block 33 = .ok (.iconst 1, 1) := by decide +kernel
theorem dX8_block_34 : decode cX8_block 34 = .ok (.iadd, 1) := by decide +kernel
theorem dX8_block_35 : decode cX8_block 35 = .ok (.iaload, 1) := by decide +kernel
theorem dX8_block_36 : decode cX8_block 36 = .ok (.bipush 16, 2) := by decide +kernel
theorem dX8_block_38 : decode cX8_block 38 = .ok (.ishl, 1) := by decide +kernel
theorem dX8_block_39 : decode cX8_block 39 = .ok (.ior, 1) := by decide +kernel
theorem dX8_block_40 : decode cX8_block 40 = .ok (.aload_n 0, 1) := by decide +kernel
theorem dX8_block_41 : decode cX8_block 41 = .ok (.getfield 29, 3) := by decide +kernel
theorem dX8_block_44 : decode cX8_block 44 = .ok (.iload_n 3, 1) := by decide +kernel
theorem dX8_block_45 : decode cX8_block 45 = .ok (.iconst 2, 1) := by decide +kernel
theorem dX8_block_46 : decode cX8_block 46 = .ok (.iadd, 1) := by decide +kernel
theorem dX8_block_47 : decode cX8_block 47 = .ok (.iaload, 1) := by decide +kernel
theorem dX8_block_48 : decode cX8_block 48 = .ok (.bipush 8, 2) := by decide +kernel
theorem dX8_block_50 : decode cX8_block 50 = .ok (.ishl, 1) := by decide +kernel
theorem dX8_block_51 : decode cX8_block 51 = .ok (.ior, 1) := by decide +kernel
theorem dX8_block_52 : decode cX8_block 52 = .ok (.aload_n 0, 1) := by decide +kernel
theorem dX8_block_53 : decode cX8_block 53 = .ok (.getfield 29, 3) := by decide +kernel
theorem dX8_block_56 : decode cX8_block 56 = .ok (.iload_n 3, 1) := by decide +kernel
theorem dX8_block_57 : decode cX8_block 57 = .ok (.iconst 3, 1) := by decide +kernel
theorem dX8_block_58 : decode cX8_block 58 = .ok (.iadd, 1) := by decide +kernel
theorem dX8_block_59 : decode cX8_block 59 = .ok (.iaload, 1) := by decide +kernel
theorem dX8_block_60 : decode cX8_block 60 = .ok (.ior, 1) := by decide +kernel
theorem dX8_block_61 : decode cX8_block 61 = .ok (.iastore, 1) := by decide +kernel
theorem dX8_block_62 : decode cX8_block 62 = .ok (.iinc 2 1, 3) := by decide +kernel
theorem dX8_block_65 : decode cX8_block 65 = .ok (.goto (-63), 3) := by decide +kernel
theorem dX8_block_68 : decode cX8_block 68 = .ok (.bipush 16, 2) := by decide +kernel
theorem dX8_block_70 : decode cX8_block 70 = .ok (.istore_n 2, 1) := by decide +kernel
theorem dX8_block_71 : decode cX8_block 71 = .ok (.iload_n 2, 1) := by decide +kernel
theorem dX8_block_72 : decode cX8_block 72 = .ok (.bipush 64, 2) := by decide +kernel
theorem dX8_block_74 : decode cX8_block 74 = .ok (.if_icmp .ge 94, 3) := by decide +kernel
theorem dX8_block_77 : decode cX8_block 77 = .ok (.aload_n 0, 1) := by decide +kernel
theorem dX8_block_78 : decode cX8_block 78 = .ok (.getfield 35, 3) := by decide +kernel
theorem dX8_block_81 : decode cX8_block 81 = .ok (.iload_n 2, 1) := by decide +kernel
theorem dX8_block_82 : decode cX8_block 82 = .ok (.bipush 15, 2) := by decide +kernel
theorem dX8_block_84 : decode cX8_block 84 = .ok (.isub, 1) := by decide +kernel
theorem dX8_block_85 : decode cX8_block 85 = .ok (.iaload, 1) := by decide +kernel
theorem dX8_block_86 : decode cX8_block 86 = .ok (.istore_n 3, 1) := by decide +kernel
theorem dX8_block_87 : decode cX8_block 87 = .ok (.aload_n 0, 1) := by decide +kernel
theorem dX8_block_88 : decode cX8_block 88 = .ok (.getfield 35, 3) := by decide +kernel
theorem dX8_block_91 : decode cX8_block 91 = .ok (.iload_n 2, 1) := by decide +kernel
theorem dX8_block_92 : decode cX8_block 92 = .ok (.iconst 2, 1) := by decide +kernel
theorem dX8_block_93 : decode cX8_block 93 = .ok (.isub, 1) := by decide +kernel
theorem dX8_block_94 : decode cX8_block 94 = .ok (.iaload, 1) := by decide +kernel
theorem dX8_block_95 : decode cX8_block 95 = .ok (.istore 4, 2) := by decide +kernel
theorem dX8_block_97 : decode cX8_block 97 = .ok (.aload_n 0, 1) := by decide +kernel
theorem dX8_block_98 : decode cX8_block 98 = .ok (.getfield 35, 3) := by decide +kernel
theorem dX8_block_101 : decode cX8_block 101 = .ok (.iload_n 2, 1) := by decide +kernel
theorem dX8_block_102 : decode cX8_block 102 = .ok (.iload 4, 2) := by decide +kernel
theorem dX8_block_104 : decode cX8_block 104 = .ok (.bipush 17, 2) := by decide +kernel
theorem dX8_block_106 : decode cX8_block 106 = .ok (.invokestatic 140, 3) := by decide +kernel
theorem dX8_block_109 : decode cX8_block 109 = .ok (.iload 4, 2) := by decide +kernel
theorem dX8_block_111 : decode cX8_block 111 = .ok (.bipush 19, 2) := by decide +kernel
theorem dX8_block_113 : decode cX8_block 113 = .ok (.invokestatic 140, 3) := by decide +kernel
theorem dX8_block_116 : decode cX8_block 116 = .ok (.ixor, 1) := by decide +kernel
theorem dX8_block_117 : decode cX8_block 117 = .ok (.iload 4, 2) := by decide +kernel
theorem dX8_block_119 : decode cX8_block 119 = .ok (.bipush 10, 2) := by decide +kernel
theorem dX8_block_121 : decode cX8_block 121 = .ok (.iushr, 1) := by decide +kernel
theorem dX8_block_122 : decode cX8_block 122 = .ok (.ixor, 1) := by decide +kernel
theorem dX8_block_123 : decode cX8_block 123 = .ok (.aload_n 0, 1) := by decide +kernel
theorem dX8_block_124 : decode cX8_block 124 = .ok (.getfield 35, 3) := by decide +kernel
theorem dX8_block_127 : decode cX8_block 127 = .ok (.iload_n 2, 1) := by decide +kernel
theorem dX8_block_128 : decode cX8_block 128 = .ok (.bipush 7, 2) := by decide +kernel
theorem dX8_block_130 : decode cX8_block 130 = .ok (.isub, 1) := by decide +kernel
theorem dX8_block_131 : decode cX8_block 131 = .ok (.iaload, 1) := by decide +kernel
theorem dX8_block_132 : decode cX8_block 132 = .ok (.iadd, 1) := by decide +kernel
theorem dX8_block_133 : decode cX8_block 133 = .ok (.iload_n 3, 1) := by decide +kernel
theorem dX8_block_134 : decode cX8_block 134 = .ok (.bipush 7, 2) := by decide +kernel
theorem dX8_block_136 : decode cX8_block 136 = .ok (.invokestatic 140, 3) := by decide +kernel
theorem dX8_block_139 : decode cX8_block 139 = .ok (.iload_n 3, 1) := by decide +kernel
theorem dX8_block_140 : decode cX8_block 140 = .ok (.bipush 18, 2) := by decide +kernel
theorem dX8_block_142 : decode cX8_block 142 = .ok (.invokestatic 140, 3) := by decide +kernel
theorem dX8_block_145 : decode cX8_block 145 = .ok (.ixor, 1) := by decide +kernel
theorem dX8_block_146 : decode cX8_block 146 = .ok (.iload_n 3, 1) := by decide +kernel
theorem dX8_block_147 : decode cX8_block 147 = .ok (.iconst 3, 1) := by decide +kernel
theorem dX8_block_148 : decode cX8_block 148 = .ok (.iushr, 1) := by decide +kernel
theorem dX8_block_149 : decode cX8_block 149 = .ok (.ixor, 1) := by decide +kernel
theorem dX8_block_150 : decode cX8_block 150 = .ok (.iadd, 1) := by decide +kernel
theorem dX8_block_151 : decode cX8_block 151 = .ok (.aload_n 0, 1) := by decide +kernel
theorem dX8_block_152 : decode cX8_block 152 = .ok (.getfield 35, 3) := by decide +kernel
theorem dX8_block_155 : decode cX8_block 155 = .ok (.iload_n 2, 1) := by decide +kernel
theorem dX8_block_156 : decode cX8_block 156 = .ok (.bipush 16, 2) := by decide +kernel
theorem dX8_block_158 : decode cX8_block 158 = .ok (.isub, 1) := by decide +kernel
theorem dX8_block_159 : decode cX8_block 159 = .ok (.iaload, 1) := by decide +kernel
theorem dX8_block_160 : decode cX8_block 160 = .ok (.iadd, 1) := by decide +kernel
theorem dX8_block_161 : decode cX8_block 161 = .ok (.iastore, 1) := by decide +kernel
theorem dX8_block_162 : decode cX8_block 162 = .ok (.iinc 2 1, 3) := by decide +kernel
theorem dX8_block_165 : decode cX8_block 165 = .ok (.goto (-94), 3) := by decide +kernel
theorem dX8_block_168 : decode cX8_block 168 = .ok (.aload_n 0, 1) := by decide +kernel
theorem dX8_block_169 : decode cX8_block 169 = .ok (.getfield 32, 3) := by decide +kernel
theorem dX8_block_172 : decode cX8_block 172 = .ok (.iconst 0, 1) := by decide +kernel
theorem dX8_block_173 : decode cX8_block 173 = .ok (.iaload, 1) := by decide +kernel
theorem dX8_block_174 : decode cX8_block 174 = .ok (.istore_n 2, 1) := by decide +kernel
theorem dX8_block_175 : decode cX8_block 175 = .ok (.aload_n 0, 1) := by decide +kernel
theorem dX8_block_176 : decode cX8_block 176 = .ok (.getfield 32, 3) := by decide +kernel
theorem dX8_block_179 : decode cX8_block 179 = .ok (.iconst 1, 1) := by decide +kernel
theorem dX8_block_180 : decode cX8_block 180 = .ok (.iaload, 1) := by decide +kernel
theorem dX8_block_181 : decode cX8_block 181 = .ok (.istore_n 3, 1) := by decide +kernel
theorem dX8_block_182 : decode cX8_block 182 = .ok (.aload_n 0, 1) := by decide +kernel
theorem dX8_block_183 : decode cX8_block 183 = .ok (.getfield 32, 3) := by decide +kernel
theorem dX8_block_186 : decode cX8_block 186 = .ok (.iconst 2, 1) := by decide +kernel
theorem dX8_block_187 : decode cX8_block 187 = .ok (.iaload, 1) := by decide +kernel
theorem dX8_block_188 : decode cX8_block 188 = .ok (.istore 4, 2) := by decide +kernel
theorem dX8_block_190 : decode cX8_block 190 = .ok (.aload_n 0, 1) := by decide +kernel
theorem dX8_block_191 : decode cX8_block 191 = .ok (.getfield 32, 3) := by decide +kernel
theorem dX8_block_194 : decode cX8_block 194 = .ok (.iconst 3, 1) := by decide +kernel
theorem dX8_block_195 : decode cX8_block 195 = .ok (.iaload, 1) := by decide +kernel
theorem dX8_block_196 : decode cX8_block 196 = .ok (.istore 5, 2) := by decide +kernel
theorem dX8_block_198 : decode cX8_block 198 = .ok (.aload_n 0, 1) := by decide +kernel
theorem dX8_block_199 : decode cX8_block 199 = .ok (.getfield 32, 3) := by decide +kernel
theorem dX8_block_202 : decode cX8_block 202 = .ok (.iconst 4, 1) := by decide +kernel
theorem dX8_block_203 : decode cX8_block 203 = .ok (.iaload, 1) := by decide +kernel
end
section
theorem dX8_block_204 : decode cX8_block 204 = .ok (.istore 6, 2) := by decide +kernel
theorem dX8_block_206 : decode cX8_block 206 = .ok (.aload_n 0, 1) := by decide +kernel
theorem dX8_block_207 : decode cX8_block 207 = .ok (.getfield 32, 3) := by decide +kernel
theorem dX8_block_210 : decode cX8_block 210 = .ok (.iconst 5, 1) := by decide +kernel
theorem dX8_block_211 : decode cX8_block 211 = .ok (.iaload, 1) := by decide +kernel
theorem dX8_block_212 : decode cX8_block 212 = .ok (.istore 7, 2) := by decide +kernel
theorem dX8_block_214 : decode cX8_block 214 = .ok (.aload_n 0, 1) := by decide +kernel
theorem dX8_block_215 : decode cX8_block 215 = .ok (.getfield 32, 3) := by decide +kernel
theorem dX8_block_218 : decode cX8_block 218 = .ok (.bipush 6, 2) := by decide +kernel
theorem dX8_block_220 : decode cX8_block 220 = .ok (.iaload, 1) := by decide +kernel
theorem dX8_block_221 : decode cX8_block 221 = .ok (.istore 8, 2) := by decide +kernel
theorem dX8_block_223 : decode cX8_block 223 = .ok (.aload_n 0, 1) := by decide +kernel
theorem dX8_block_224 : decode cX8_block 224 = .ok (.getfield 32, 3) := by decide +kernel
theorem dX8_block_227 : decode cX8_block 227 = .ok (.bipush 7, 2) := by decide +kernel
theorem dX8_block_229 : decode cX8_block 229 = .ok (.iaload, 1) := by decide +kernel
theorem dX8_block_230 : decode cX8_block 230 = .ok (.istore 9, 2) := by decide +kernel
theorem dX8_block_232 : decode cX8_block 232 = .ok (.iconst 0, 1) := by decide +kernel
theorem dX8_block_233 : decode cX8_block 233 = .ok (.istore 10, 2) := by decide +kernel
theorem dX8_block_235 : decode cX8_block 235 = .ok (.iload 10, 2) := by decide +kernel
theorem dX8_block_237 : decode cX8_block 237 = .ok (.bipush 64, 2) := by decide +kernel
theorem dX8_block_239 : decode cX8_block 239 = .ok (.if_icmp .ge 136, 3) := by decide +kernel
theorem dX8_block_242 : decode cX8_block 242 = .ok (.iload 9, 2) := by decide +kernel
theorem dX8_block_244 : decode cX8_block 244 = .ok (.iload 6, 2) := by decide +kernel
theorem dX8_block_246 : decode cX8_block 246 = .ok (.bipush 6, 2) := by decide +kernel
theorem dX8_block_248 : decode cX8_block 248 = .ok (.invokestatic 140, 3) := by decide +kernel
theorem dX8_block_251 : decode cX8_block 251 = .ok (.iload 6, 2) := by decide +kernel
theorem dX8_block_253 : decode cX8_block 253 = .ok (.bipush 11, 2) := by decide +kernel
theorem dX8_block_255 : decode cX8_block 255 = .ok (.invokestatic 140, 3) := by decide +kernel
theorem dX8_block_258 : decode cX8_block 258 = .ok (.ixor, 1) := by decide +kernel
theorem dX8_block_259 : decode cX8_block 259 = .ok (.iload 6, 2) := by decide +kernel
theorem dX8_block_261 : decode cX8_block 261 = .ok (.bipush 25, 2) := by decide +kernel
theorem dX8_block_263 : decode cX8_block 263 = .ok (.invokestatic 140, 3) := by decide +kernel
theorem dX8_block_266 : decode cX8_block 266 = .ok (.ixor, 1) := by decide +kernel
theorem dX8_block_267 : decode cX8_block 267 = .ok (.iadd, 1) := by decide +kernel
theorem dX8_block_268 : decode cX8_block 268 = .ok (.iload 6, 2) := by decide +kernel
theorem dX8_block_270 : decode cX8_block 270 = .ok (.iload 7, 2) := by decide +kernel
theorem dX8_block_272 : decode cX8_block 272 = .ok (.iand, 1) := by decide +kernel
theorem dX8_block_273 : decode cX8_block 273 = .ok (.iload 6, 2) := by decide +kernel
theorem dX8_block_275 : decode cX8_block 275 = .ok (.iconst (-1), 1) := by decide +kernel
theorem dX8_block_276 : decode cX8_block 276 = .ok (.ixor, 1) := by decide +kernel
theorem dX8_block_277 : decode cX8_block 277 = .ok (.iload 8, 2) := by decide +kernel
theorem dX8_block_279 : decode cX8_block 279 = .ok (.iand, 1) := by decide +kernel
theorem dX8_block_280 : decode cX8_block 280 = .ok (.ixor, 1) := by decide +kernel
theorem dX8_block_281 : decode cX8_block 281 = .ok (.iadd, 1) := by decide +kernel
theorem dX8_block_282 : decode cX8_block 282 = .ok (.aload_n 0, 1) := by decide +kernel
theorem dX8_block_283 : decode cX8_block 283 = .ok (.getfield 7, 3) := by decide +kernel
theorem dX8_block_286 : decode cX8_block 286 = .ok (.iload 10, 2) := by decide +kernel
theorem dX8_block_288 : decode cX8_block 288 = .ok (.iaload, 1) := by decide +kernel
theorem dX8_block_289 : decode cX8_block 289 = .ok (.iadd, 1) := by decide +kernel
theorem dX8_block_290 : decode cX8_block 290 = .ok (.aload_n 0, 1) := by decide +kernel
theorem dX8_block_291 : decode cX8_block 291 = .ok (.getfield 35, 3) := by decide +kernel
theorem dX8_block_294 : decode cX8_block 294 = .ok (.iload 10, 2) := by decide +kernel
theorem dX8_block_296 : decode cX8_block 296 = .ok (.iaload, 1) := by decide +kernel
theorem dX8_block_297 : decode cX8_block 297 = .ok (.iadd, 1) := by decide +kernel
theorem dX8_block_298 : decode cX8_block 298 = .ok (.istore 11, 2) := by decide +kernel
theorem dX8_block_300 : decode cX8_block 300 = .ok (.iload_n 2, 1) := by decide +kernel
theorem dX8_block_301 : decode cX8_block 301 = .ok (.iconst 2, 1) := by decide +kernel
theorem dX8_block_302 : decode cX8_block 302 = .ok (.invokestatic 140, 3) := by decide +kernel
theorem dX8_block_305 : decode cX8_block 305 = .ok (.iload_n 2, 1) := by decide +kernel
theorem dX8_block_306 : decode cX8_block 306 = .ok (.bipush 13, 2) := by decide +kernel
theorem dX8_block_308 : decode cX8_block 308 = .ok (.invokestatic 140, 3) := by decide +kernel
theorem dX8_block_311 : decode cX8_block 311 = .ok (.ixor, 1) := by decide +kernel
theorem dX8_block_312 : decode cX8_block 312 = .ok (.iload_n 2, 1) := by decide +kernel
theorem dX8_block_313 : decode cX8_block 313 = .ok (.bipush 22, 2) := by decide +kernel
theorem dX8_block_315 : decode cX8_block 315 = .ok (.invokestatic 140, 3) := by decide +kernel
theorem dX8_block_318 : decode cX8_block 318 = .ok (.ixor, 1) := by decide +kernel
theorem dX8_block_319 : decode cX8_block 319 = .ok (.iload_n 2, 1) := by decide +kernel
theorem dX8_block_320 : decode cX8_block 320 = .ok (.iload_n 3, 1) := by decide +kernel
theorem dX8_block_321 : decode cX8_block 321 = .ok (.iand, 1) := by decide +kernel
theorem dX8_block_322 : decode cX8_block 322 = .ok (.iload_n 2, 1) := by decide +kernel
theorem dX8_block_323 : decode cX8_block 323 = .ok (.iload 4, 2) := by decide +kernel
theorem dX8_block_325 : decode cX8_block 325 = .ok (.iand, 1) := by decide +kernel
theorem dX8_block_326 : decode cX8_block 326 = .ok (.ixor, 1) := by decide +kernel
theorem dX8_block_327 : decode cX8_block 327 = .ok (.iload_n 3, 1) := by decide +kernel
theorem dX8_block_328 : decode cX8_block 328 = .ok (.iload 4, 2) := by decide +kernel
theorem dX8_block_330 : decode cX8_block 330 = .ok (.iand, 1) := by decide +kernel
theorem dX8_block_331 : decode cX8_block 331 = .ok (.ixor, 1) := by decide +kernel
theorem dX8_block_332 : decode cX8_block 332 = .ok (.iadd, 1) := by decide +kernel
theorem dX8_block_333 : decode cX8_block 333 = .ok (.istore 12, 2) := by decide +kernel
theorem dX8_block_335 : decode cX8_block 335 = .ok (.iload 8, 2) := by decide +kernel
theorem dX8_block_337 : decode cX8_block 337 = .ok (.istore 9, 2) := by decide +kernel
theorem dX8_block_339 : decode cX8_block 339 = .ok (.iload 7, 2) := by decide +kernel
theorem dX8_block_341 : decode cX8_block 341 = .ok (.istore 8, 2) := by decide +kernel
theorem dX8_block_343 : decode cX8_block 343 = .ok (.iload 6, 2) := by decide +kernel
theorem dX8_block_345 : decode cX8_block 345 = .ok (.istore 7, 2) := by decide +kernel
theorem dX8_block_347 : decode cX8_block 347 = .ok (.iload 5, 2) := by decide +kernel
theorem dX8_block_349 : decode cX8_block 349 = .ok (.iload 11, 2) := by decide +kernel
theorem dX8_block_351 : decode cX8_block 351 = .ok (.iadd, 1) := by decide +kernel
theorem dX8_block_352 : decode cX8_block 352 = .ok (.istore 6, 2) := by decide +kernel
theorem dX8_block_354 : decode cX8_block 354 = .ok (.iload 4, 2) := by decide +kernel
theorem dX8_block_356 : decode cX8_block 356 = .ok (.istore 5, 2) := by decide +kernel
theorem dX8_block_358 : decode cX8_block 358 = .ok (.iload_n 3, 1) := by decide +kernel
theorem dX8_block_359 : decode cX8_block 359 = .ok (.istore 4, 2) := by decide +kernel
theorem dX8_block_361 : decode cX8_block 361 = .ok (.iload_n 2, 1) := by decide +kernel
theorem dX8_block_362 : decode cX8_block 362 = .ok (.istore_n 3, 1) := by decide +kernel
theorem dX8_block_363 : decode cX8_block 363 = .ok (.iload 11, 2) := by decide +kernel
theorem dX8_block_365 : decode cX8_block 365 = .ok (.iload 12, 2) := by decide +kernel
theorem dX8_block_367 : decode cX8_block 367 = .ok (.iadd, 1) := by decide +kernel
theorem dX8_block_368 : decode cX8_block 368 = .ok (.istore_n 2, 1) := by decide +kernel
theorem dX8_block_369 : decode cX8_block 369 = .ok (.iinc 10 1, 3) := by decide +kernel
theorem dX8_block_372 : decode cX8_block 372 = .ok (.goto (-137), 3) := by decide +kernel
theorem dX8_block_375 : decode cX8_block 375 = .ok (.aload_n 0, 1) := by decide +kernel
theorem dX8_block_376 : decode cX8_block 376 = .ok (.getfield 32, 3) := by decide +kernel
theorem dX8_block_379 : decode cX8_block 379 = .ok (.iconst 0, 1) := by decide +kernel
theorem dX8_block_380 : decode cX8_block 380 = .ok (.dup2, 1) := by decide +kernel
theorem dX8_block_381 : decode cX8_block 381 = .ok (.iaload, 1) := by decide +kernel
theorem dX8_block_382 : decode cX8_block 382 = .ok (.iload_n 2, 1) := by decide +kernel
theorem dX8_block_383 : decode cX8_block 383 = .ok (.iadd, 1) := by decide +kernel
theorem dX8_block_384 : decode cX8_block 384 = .ok (.iastore, 1) := by decide +kernel
theorem dX8_block_385 : decode cX8_block 385 = .ok (.aload_n 0, 1) := by decide +kernel
theorem dX8_block_386 : decode cX8_block 386 = .ok (.getfield 32, 3) := by decide +kernel
theorem dX8_block_389 : decode cX8_block 389 = .ok (.iconst 1, 1) := by decide +kernel
theorem dX8_block_390 : decode cX8_block 390 = .ok (.dup2, 1) := by decide +kernel
theorem dX8_block_391 : decode cX8_block 391 = .ok (.iaload, 1) := by decide +kernel
theorem dX8_block_392 : decode cX8_block 392 = .ok (.iload_n 3, 1) := by decide +kernel
theorem dX8_block_393 : decode cX8_block 393 = .ok (.iadd, 1) := by decide +kernel
theorem dX8_block_394 : decode cX8_block 394 = .ok (.iastore, 1) := by decide +kernel
theorem dX8_block_395 : decode cX8_block 395 = .ok (.aload_n 0, 1) := by decide +kernel
theorem dX8_block_396 : decode cX8_block 396 = .ok (.getfield 32, 3) := by decide +kernel
theorem dX8_block_399 : decode cX8_block 399 = .ok (.iconst 2, 1) := by decide +kernel
theorem dX8_block_400 : decode cX8_block 400 = .ok (.dup2, 1) := by decide +kernel
theorem dX8_block_401 : decode cX8_block 401 = .ok (.iaload, 1) := by decide +kernel
theorem dX8_block_402 : decode cX8_block 402 = .ok (.iload 4, 2) := by decide +kernel
theorem dX8_block_404 : decode cX8_block 404 = .ok (.iadd, 1) := by decide +kernel
theorem dX8_block_405 : decode cX8_block 405 = .ok (.iastore, 1) := by decide +kernel
theorem dX8_block_406 : decode cX8_block 406 = .ok (.aload_n 0, 1) := by decide +kernel
theorem dX8_block_407 : decode cX8_block 407 = .ok (.getfield 32, 3) := by decide +kernel
theorem dX8_block_410 : decode cX8_block 410 = .ok (.iconst 3, 1) := by decide +kernel
theorem dX8_block_411 : decode cX8_block 411 = .ok (.dup2, 1) := by decide +kernel
theorem dX8_block_412 : decode cX8_block 412 = .ok (.iaload, 1) := by decide +kernel
theorem dX8_block_413 : decode cX8_block 413 = .ok (.iload 5, 2) := by decide +kernel
theorem dX8_block_415 : decode cX8_block 415 = .ok (.iadd, 1) := by decide +kernel
theorem dX8_block_416 : decode cX8_block 416 = .ok (.iastore, 1) := by decide +kernel
theorem dX8_block_417 : decode cX8_block 417 = .ok (.aload_n 0, 1) := by decide +kernel
theorem dX8_block_418 : decode cX8_block 418 = .ok (.getfield 32, 3) := by decide +kernel
theorem dX8_block_421 : decode cX8_block 421 = .ok (.iconst 4, 1) := by decide +kernel
theorem dX8_block_422 : decode cX8_block 422 = .ok (.dup2, 1) := by decide +kernel
theorem dX8_block_423 : decode cX8_block 423 = .ok (.iaload, 1) := by decide +kernel
theorem dX8_block_424 : decode cX8_block 424 = .ok (.iload 6, 2) := by decide +kernel
theorem dX8_block_426 : decode cX8_block 426 = .ok (.iadd, 1) := by decide +kernel
theorem dX8_block_427 : decode cX8_block 427 = .ok (.iastore, 1) := by decide +kernel
theorem dX8_block_428 : decode cX8_block 428 = .ok (.aload_n 0, 1) := by decide +kernel
theorem dX8_block_429 : decode cX8_block 429 = .ok (.getfield 32, 3) := by decide +kernel
theorem dX8_block_432 : decode cX8_block 432 = .ok (.iconst 5, 1) := by decide +kernel
theorem dX8_block_433 : decode cX8_block 433 = .ok (.dup2, 1) := by decide +kernel
theorem dX8_block_434 : decode cX8_block 434 = .ok (.iaload, 1) := by decide +kernel
theorem dX8_block_435 : decode cX8_block 435 = .ok (.iload 7, 2) := by decide +kernel
theorem dX8_block_437 : decode cX8_block 437 = .ok (.iadd, 1) := by decide +kernel
theorem dX8_block_438 : decode cX8_block 438 = .ok (.iastore, 1) := by decide +kernel
theorem dX8_block_439 : decode cX8_block 439 = .ok (.aload_n 0, 1) := by decide +kernel
theorem dX8_block_440 : decode cX8_block 440 = .ok (.getfield 32, 3) := by decide +kernel
theorem dX8_block_443 : decode cX8_block 443 = .ok (.bipush 6, 2) := by decide +kernel
theorem dX8_block_445 : decode cX8_block 445 = .ok (.dup2, 1) := by decide +kernel
theorem dX8_block_446 : decode cX8_block 446 = .ok (.iaload, 1) := by decide +kernel
theorem dX8_block_447 : decode cX8_block 447 = .ok (.iload 8, 2) := by decide +kernel
theorem dX8_block_449 : decode cX8_block 449 = .ok (.iadd, 1) := by decide +kernel
theorem dX8_block_450 : decode cX8_block 450 = .ok (.iastore, 1) := by decide +kernel
theorem dX8_block_451 : decode cX8_block 451 = .ok (.aload_n 0, 1) := by decide +kernel
theorem dX8_block_452 : decode cX8_block 452 = .ok (.getfield 32, 3) := by decide +kernel
theorem dX8_block_455 : decode cX8_block 455 = .ok (.bipush 7, 2) := by decide +kernel
theorem dX8_block_457 : decode cX8_block 457 = .ok (.dup2, 1) := by decide +kernel
theorem dX8_block_458 : decode cX8_block 458 = .ok (.iaload, 1) := by decide +kernel
theorem dX8_block_459 : decode cX8_block 459 = .ok (.iload 9, 2) := by decide +kernel
theorem dX8_block_461 : decode cX8_block 461 = .ok (.iadd, 1) := by decide +kernel
theorem dX8_block_462 : decode cX8_block 462 = .ok (.iastore, 1) := by decide +kernel
theorem dX8_block_463 : decode cX8_block 463 = .ok (.return_, 1) := by decide +kernel
theorem dX8_byteOfH_0 : decode cX8_byteOfH 0 = .ok (.aload_n 0, 1) := by decide +kernel
theorem dX8_byteOfH_1 : decode cX8_byteOfH 1 = .ok (.getfield 32, 3) := by decide +kernel
theorem dX8_byteOfH_4 : decode cX8_byteOfH 4 = .ok (.iload_n 1, 1) := by decide +kernel
theorem dX8_byteOfH_5 : decode cX8_byteOfH 5 = .ok (.iconst 4, 1) := by decide +kernel
theorem dX8_byteOfH_6 : decode cX8_byteOfH 6 = .ok (.idiv, 1) := by decide +kernel
theorem dX8_byteOfH_7 : decode cX8_byteOfH 7 = .ok (.iaload, 1) := by decide +kernel
theorem dX8_byteOfH_8 : decode cX8_byteOfH 8 = .ok (.bipush 24, 2) := by decide +kernel
theorem dX8_byteOfH_10 : decode cX8_byteOfH 10 = .ok (.bipush 8, 2) := by decide +kernel
theorem dX8_byteOfH_12 : decode cX8_byteOfH 12 = .ok (.iload_n 1, 1) := by decide +kernel
theorem dX8_byteOfH_13 : decode cX8_byteOfH 13 = .ok (.iconst 4, 1) := by decide +kernel
theorem dX8_byteOfH_14 : decode cX8_byteOfH 14 = .ok (.irem, 1) := by decide +kernel
theorem dX8_byteOfH_15 : decode cX8_byteOfH 15 = .ok (.imul, 1) := by decide +kernel
theorem dX8_byteOfH_16 : decode cX8_byteOfH 16 = .ok (.isub, 1) := by decide +kernel
theorem dX8_byteOfH_17 : decode cX8_byteOfH 17 = .ok (.iushr, 1) := by decide +kernel
theorem dX8_byteOfH_18 : decode cX8_byteOfH 18 = .ok (.sipush 255, 3) := by decide +kernel
theorem dX8_byteOfH_21 : decode cX8_byteOfH 21 = .ok (.iand, 1) := by decide +kernel
theorem dX8_byteOfH_22 : decode cX8_byteOfH 22 = .ok (.ireturn, 1) := by decide +kernel
theorem dX8_thrown_0 : decode cX8_thrown 0 = .ok (.aload_n 0, 1) := by decide +kernel
theorem dX8_thrown_1 : decode cX8_thrown 1 = .ok (.getfield 143, 3) := by decide +kernel
theorem dX8_thrown_4 : decode cX8_thrown 4 = .ok (.ireturn, 1) := by decide +kernel
theorem dX8_in_0 : decode cX8_in 0 = .ok (.iload_n 0, 1) := by decide +kernel
theorem dX8_in_1 : decode cX8_in 1 = .ok (.iload_n 1, 1) := by decide +kernel
theorem dX8_in_2 : decode cX8_in 2 = .ok (.if_icmp .lt 12, 3) := by decide +kernel
theorem dX8_in_5 : decode cX8_in 5 = .ok (.iload_n 0, 1) := by decide +kernel
theorem dX8_in_6 : decode cX8_in 6 = .ok (.iload_n 2, 1) := by decide +kernel
theorem dX8_in_7 : decode cX8_in 7 = .ok (.if_icmp .gt 7, 3) := by decide +kernel
theorem dX8_in_10 : decode cX8_in 10 = .ok (.iconst 1, 1) := by decide +kernel
theorem dX8_in_11 : decode cX8_in 11 = .ok (.goto 4, 3) := by decide +kernel
theorem dX8_in_14 : decode cX8_in 14 = .ok (.iconst 0, 1) := by decide +kernel
theorem dX8_in_15 : decode cX8_in 15 = .ok (.ireturn, 1) := by decide +kernel
theorem dX8_feed_0 : decode cX8_feed 0 = .ok (.aload_n 0, 1) := by decide +kernel
theorem dX8_feed_1 : decode cX8_feed 1 = .ok (.iconst 0, 1) := by decide +kernel
theorem dX8_feed_2 : decode cX8_feed 2 = .ok (.putfield 143, 3) := by decide +kernel
theorem dX8_feed_5 : decode cX8_feed 5 = .ok (.iload_n 1, 1) := by decide +kernel
theorem dX8_feed_6 : decode cX8_feed 6 = .ok (.iconst 1, 1) := by decide +kernel
theorem dX8_feed_7 : decode cX8_feed 7 = .ok (.bipush 8, 2) := by decide +kernel
theorem dX8_feed_9 : decode cX8_feed 9 = .ok (.invokestatic 146, 3) := by decide +kernel
theorem dX8_feed_12 : decode cX8_feed 12 = .ok (.ifCond .ne 6, 3) := by decide +kernel
theorem dX8_feed_15 : decode cX8_feed 15 = .ok (.bipush (-102), 2) := by decide +kernel
theorem dX8_feed_17 : decode cX8_feed 17 = .ok (.ireturn, 1) := by decide +kernel
theorem dX8_feed_18 : decode cX8_feed 18 = .ok (.aload_n 0, 1) := by decide +kernel
theorem dX8_feed_19 : decode cX8_feed 19 = .ok (.getfield 150, 3) := by decide +kernel
theorem dX8_feed_22 : decode cX8_feed 22 = .ok (.iload_n 1, 1) := by decide +kernel
theorem dX8_feed_23 : decode cX8_feed 23 = .ok (.iadd, 1) := by decide +kernel
theorem dX8_feed_24 : decode cX8_feed 24 = .ok (.sipush 200, 3) := by decide +kernel
theorem dX8_feed_27 : decode cX8_feed 27 = .ok (.if_icmp .le 6, 3) := by decide +kernel
theorem dX8_feed_30 : decode cX8_feed 30 = .ok (.bipush (-103), 2) := by decide +kernel
theorem dX8_feed_32 : decode cX8_feed 32 = .ok (.ireturn, 1) := by decide +kernel
theorem dX8_feed_33 : decode cX8_feed 33 = .ok (.iload_n 1, 1) := by decide +kernel
theorem dX8_feed_34 : decode cX8_feed 34 = .ok (.iconst 1, 1) := by decide +kernel
theorem dX8_feed_35 : decode cX8_feed 35 = .ok (.isub, 1) := by decide +kernel
theorem dX8_feed_36 : decode cX8_feed 36 = .ok (.istore 4, 2) := by decide +kernel
theorem dX8_feed_38 : decode cX8_feed 38 = .ok (.iload 4, 2) := by decide +kernel
theorem dX8_feed_40 : decode cX8_feed 40 = .ok (.ifCond .lt 40, 3) := by decide +kernel
theorem dX8_feed_43 : decode cX8_feed 43 = .ok (.aload_n 0, 1) := by decide +kernel
theorem dX8_feed_44 : decode cX8_feed 44 = .ok (.getfield 38, 3) := by decide +kernel
theorem dX8_feed_47 : decode cX8_feed 47 = .ok (.aload_n 0, 1) := by decide +kernel
theorem dX8_feed_48 : decode cX8_feed 48 = .ok (.getfield 150, 3) := by decide +kernel
theorem dX8_feed_51 : decode cX8_feed 51 = .ok (.lload_n 2, 1) := by decide +kernel
theorem dX8_feed_52 : decode cX8_feed 52 = .ok (.bipush 8, 2) := by decide +kernel
theorem dX8_feed_54 : decode cX8_feed 54 = .ok (.iload 4, 2) := by decide +kernel
theorem dX8_feed_56 : decode cX8_feed 56 = .ok (.imul, 1) := by decide +kernel
theorem dX8_feed_57 : decode cX8_feed 57 = .ok (.lushr, 1) := by decide +kernel
theorem dX8_feed_58 : decode cX8_feed 58 = .ok (.ldc2_w 132, 3) := by decide +kernel
theorem dX8_feed_61 : decode cX8_feed 61 = .ok (.land, 1) := by decide +kernel
theorem dX8_feed_62 : decode cX8_feed 62 = .ok (.l2i, 1) := by decide +kernel
theorem dX8_feed_63 : decode cX8_feed 63 = .ok (.iastore, 1) := by decide +kernel
theorem dX8_feed_64 : decode cX8_feed 64 = .ok (.aload_n 0, 1) := by decide +kernel
theorem dX8_feed_65 : decode cX8_feed 65 = .ok (.dup, 1) := by decide +kernel
theorem dX8_feed_66 : decode cX8_feed 66 = .ok (.getfield 150, 3) := by decide +kernel
theorem dX8_feed_69 : decode cX8_feed 69 = .ok (.iconst 1, 1) := by decide +kernel
theorem dX8_feed_70 : decode cX8_feed 70 = .ok (.iadd, 1) := by decide +kernel
theorem dX8_feed_71 : decode cX8_feed 71 = .ok (.putfield 150, 3) := by decide +kernel
theorem dX8_feed_74 : decode cX8_feed 74 = .ok (.iinc 4 (-1), 3) := by decide +kernel
theorem dX8_feed_77 : decode cX8_feed 77 = .ok (.goto (-39), 3) := by decide +kernel
theorem dX8_feed_80 : decode cX8_feed 80 = .ok (.aload_n 0, 1) := by decide +kernel
theorem dX8_feed_81 : decode cX8_feed 81 = .ok (.getfield 150, 3) := by decide +kernel
theorem dX8_feed_84 : decode cX8_feed 84 = .ok (.ireturn, 1) := by decide +kernel
theorem dX8_key_0 : decode cX8_key 0 = .ok (.aload_n 0, 1) := by decide +kernel
theorem dX8_key_1 : decode cX8_key 1 = .ok (.iconst 0, 1) := by decide +kernel
theorem dX8_key_2 : decode cX8_key 2 = .ok (.putfield 143, 3) := by decide +kernel
theorem dX8_key_5 : decode cX8_key 5 = .ok (.aload_n 0, 1) := by decide +kernel
theorem dX8_key_6 : decode cX8_key 6 = .ok (.aload_n 0, 1) := by decide +kernel
theorem dX8_key_7 : decode cX8_key 7 = .ok (.getfield 150, 3) := by decide +kernel
theorem dX8_key_10 : decode cX8_key 10 = .ok (.putfield 153, 3) := by decide +kernel
theorem dX8_key_13 : decode cX8_key 13 = .ok (.iconst 0, 1) := by decide +kernel
theorem dX8_key_14 : decode cX8_key 14 = .ok (.istore_n 1, 1) := by decide +kernel
theorem dX8_key_15 : decode cX8_key 15 = .ok (.iload_n 1, 1) := by decide +kernel
theorem dX8_key_16 : decode cX8_key 16 = .ok (.aload_n 0, 1) := by decide +kernel
theorem dX8_key_17 : decode cX8_key 17 = .ok (.getfield 150, 3) := by decide +kernel
theorem dX8_key_20 : decode cX8_key 20 = .ok (.if_icmp .ge 21, 3) := by decide +kernel
theorem dX8_key_23 : decode cX8_key 23 = .ok (.aload_n 0, 1) := by decide +kernel
theorem dX8_key_24 : decode cX8_key 24 = .ok (.getfield 41, 3) := by decide +kernel
theorem dX8_key_27 : decode cX8_key 27 = .ok (.iload_n 1, 1) := by decide +kernel
theorem dX8_key_28 : decode cX8_key 28 = .ok (.aload_n 0, 1) := by decide +kernel
theorem dX8_key_29 : decode cX8_key 29 = .ok (.getfield 38, 3) := by decide +kernel
theorem dX8_key_32 : decode cX8_key 32 = .ok (.iload_n 1, 1) := by decide +kernel
theorem dX8_key_33 : decode cX8_key 33 = .ok (.iaload, 1) := by decide +kernel
theorem dX8_key_34 : decode cX8_key 34 = .ok (.iastore, 1) := by decide +kernel
theorem dX8_key_35 : decode cX8_key 35 = .ok (.iinc 1 1, 3) := by decide +kernel
theorem dX8_key_38 : decode cX8_key 38 = .ok (.goto (-23), 3) := by decide +kernel
theorem dX8_key_41 : decode cX8_key 41 = .ok (.aload_n 0, 1) := by decide +kernel
theorem dX8_key_42 : decode cX8_key 42 = .ok (.iconst 0, 1) := by decide +kernel
theorem dX8_key_43 : decode cX8_key 43 = .ok (.putfield 150, 3) := by decide +kernel
theorem dX8_key_46 : decode cX8_key 46 = .ok (.aload_n 0, 1) := by decide +kernel
theorem dX8_key_47 : decode cX8_key 47 = .ok (.getfield 153, 3) := by decide +kernel
theorem dX8_key_50 : decode cX8_key 50 = .ok (.ireturn, 1) := by decide +kernel
theorem dX8_long32_0 : decode cX8_long32 0 = .ok (.iload_n 0, 1) := by decide +kernel
theorem dX8_long32_1 : decode cX8_long32 1 = .ok (.iconst 1, 1) := by decide +kernel
theorem dX8_long32_2 : decode cX8_long32 2 = .ok (.if_icmp .ne 8, 3) := by decide +kernel
theorem dX8_long32_5 : decode cX8_long32 5 = .ok (.bipush 28, 2) := by decide +kernel
theorem dX8_long32_7 : decode cX8_long32 7 = .ok (.goto 5, 3) := by decide +kernel
theorem dX8_long32_10 : decode cX8_long32 10 = .ok (.bipush 32, 2) := by decide +kernel
theorem dX8_long32_12 : decode cX8_long32 12 = .ok (.ireturn, 1) := by decide +kernel
theorem dX8_keepDigest_0 : decode cX8_keepDigest 0 = .ok (.aload_n 0, 1) := by decide +kernel
theorem dX8_keepDigest_1 : decode cX8_keepDigest 1 = .ok (.getfield 44, 3) := by decide +kernel
theorem dX8_keepDigest_4 : decode cX8_keepDigest 4 = .ok (.aload_n 0, 1) := by decide +kernel
theorem dX8_keepDigest_5 : decode cX8_keepDigest 5 = .ok (.getfield 156, 3) := by decide +kernel
theorem dX8_keepDigest_8 : decode cX8_keepDigest 8 = .ok (.iload_n 1, 1) := by decide +kernel
theorem dX8_keepDigest_9 : decode cX8_keepDigest 9 = .ok (.iastore, 1) := by decide +kernel
theorem dX8_keepDigest_10 : decode cX8_keepDigest 10 = .ok (.aload_n 0, 1) := by decide +kernel
theorem dX8_keepDigest_11 : decode cX8_keepDigest 11 = .ok (.getfield 47, 3) := by decide +kernel
theorem dX8_keepDigest_14 : decode cX8_keepDigest 14 = .ok (.aload_n 0, 1) := by decide +kernel
theorem dX8_keepDigest_15 : decode cX8_keepDigest 15 = .ok (.getfield 156, 3) := by decide +kernel
theorem dX8_keepDigest_18 : decode cX8_keepDigest 18 = .ok (.aload_n 0, 1) := by decide +kernel
theorem dX8_keepDigest_19 : decode cX8_keepDigest 19 = .ok (.getfield 137, 3) := by decide +kernel
theorem dX8_keepDigest_22 : decode cX8_keepDigest 22 = .ok (.iastore, 1) := by decide +kernel
theorem dX8_keepDigest_23 : decode cX8_keepDigest 23 = .ok (.iconst 0, 1) := by decide +kernel
theorem dX8_keepDigest_24 : decode cX8_keepDigest 24 = .ok (.istore_n 2, 1) := by decide +kernel
theorem dX8_keepDigest_25 : decode cX8_keepDigest 25 = .ok (.iload_n 2, 1) := by decide +kernel
theorem dX8_keepDigest_26 : decode cX8_keepDigest 26 = .ok (.bipush 32, 2) := by decide +kernel
theorem dX8_keepDigest_28 : decode cX8_keepDigest 28 = .ok (.if_icmp .ge 28, 3) := by decide +kernel
theorem dX8_keepDigest_31 : decode cX8_keepDigest 31 = .ok (.aload_n 0, 1) := by decide +kernel
theorem dX8_keepDigest_32 : decode cX8_keepDigest 32 = .ok (.getfield 50, 3) := by decide +kernel
theorem dX8_keepDigest_35 : decode cX8_keepDigest 35 = .ok (.bipush 32, 2) := by decide +kernel
theorem dX8_keepDigest_37 : decode cX8_keepDigest 37 = .ok (.aload_n 0, 1) := by decide +kernel
theorem dX8_keepDigest_38 : decode cX8_keepDigest 38 = .ok (.getfield 156, 3) := by decide +kernel
theorem dX8_keepDigest_41 : decode cX8_keepDigest 41 = .ok (.imul, 1) := by decide +kernel
theorem dX8_keepDigest_42 : decode cX8_keepDigest 42 = .ok (.iload_n 2, 1) := by decide +kernel
theorem dX8_keepDigest_43 : decode cX8_keepDigest 43 = .ok (.iadd, 1) := by decide +kernel
theorem dX8_keepDigest_44 : decode cX8_keepDigest 44 = .ok (.aload_n 0, 1) := by decide +kernel
theorem dX8_keepDigest_45 : decode cX8_keepDigest 45 = .ok (.iload_n 2, 1) := by decide +kernel
theorem dX8_keepDigest_46 : decode cX8_keepDigest 46 = .ok (.invokevirtual 159, 3) := by decide +kernel
theorem dX8_keepDigest_49 : decode cX8_keepDigest 49 = .ok (.iastore, 1) := by decide +kernel
theorem dX8_keepDigest_50 : decode cX8_keepDigest 50 = .ok (.iinc 2 1, 3) := by decide +kernel
theorem dX8_keepDigest_53 : decode cX8_keepDigest 53 = .ok (.goto (-28), 3) := by decide +kernel
theorem dX8_keepDigest_56 : decode cX8_keepDigest 56 = .ok (.iconst 0, 1) := by decide +kernel
theorem dX8_keepDigest_57 : decode cX8_keepDigest 57 = .ok (.istore_n 2, 1) := by decide +kernel
theorem dX8_keepDigest_58 : decode cX8_keepDigest 58 = .ok (.iload_n 2, 1) := by decide +kernel
theorem dX8_keepDigest_59 : decode cX8_keepDigest 59 = .ok (.bipush 64, 2) := by decide +kernel
theorem dX8_keepDigest_61 : decode cX8_keepDigest 61 = .ok (.if_icmp .ge 29, 3) := by decide +kernel
theorem dX8_keepDigest_64 : decode cX8_keepDigest 64 = .ok (.aload_n 0, 1) := by decide +kernel
theorem dX8_keepDigest_65 : decode cX8_keepDigest 65 = .ok (.getfield 53, 3) := by decide +kernel
theorem dX8_keepDigest_68 : decode cX8_keepDigest 68 = .ok (.bipush 64, 2) := by decide +kernel
theorem dX8_keepDigest_70 : decode cX8_keepDigest 70 = .ok (.aload_n 0, 1) := by decide +kernel
theorem dX8_keepDigest_71 : decode cX8_keepDigest 71 = .ok (.getfield 156, 3) := by decide +kernel
theorem dX8_keepDigest_74 : decode cX8_keepDigest 74 = .ok (.imul, 1) := by decide +kernel
theorem dX8_keepDigest_75 : decode cX8_keepDigest 75 = .ok (.iload_n 2, 1) := by decide +kernel
theorem dX8_keepDigest_76 : decode cX8_keepDigest 76 = .ok (.iadd, 1) := by decide +kernel
theorem dX8_keepDigest_77 : decode cX8_keepDigest 77 = .ok (.aload_n 0, 1) := by decide +kernel
theorem dX8_keepDigest_78 : decode cX8_keepDigest 78 = .ok (.getfield 35, 3) := by decide +kernel
theorem dX8_keepDigest_81 : decode cX8_keepDigest 81 = .ok (.iload_n 2, 1) := by decide +kernel
theorem dX8_keepDigest_82 : decode cX8_keepDigest 82 = .ok (.iaload, 1) := by decide +kernel
theorem dX8_keepDigest_83 : decode cX8_keepDigest 83 = .ok (.iastore, 1) := by decide +kernel
theorem dX8_keepDigest_84 : decode cX8_keepDigest 84 = .ok (.iinc 2 1, 3) := by decide +kernel
theorem dX8_keepDigest_87 : decode cX8_keepDigest 87 = .ok (.goto (-29), 3) := by decide +kernel
theorem dX8_keepDigest_90 : decode cX8_keepDigest 90 = .ok (.aload_n 0, 1) := by decide +kernel
theorem dX8_keepDigest_91 : decode cX8_keepDigest 91 = .ok (.dup, 1) := by decide +kernel
theorem dX8_keepDigest_92 : decode cX8_keepDigest 92 = .ok (.getfield 156, 3) := by decide +kernel
theorem dX8_keepDigest_95 : decode cX8_keepDigest 95 = .ok (.iconst 1, 1) := by decide +kernel
theorem dX8_keepDigest_96 : decode cX8_keepDigest 96 = .ok (.iadd, 1) := by decide +kernel
theorem dX8_keepDigest_97 : decode cX8_keepDigest 97 = .ok (.putfield 156, 3) := by decide +kernel
theorem dX8_keepDigest_100 : decode cX8_keepDigest 100 = .ok (.aload_n 0, 1) := by decide +kernel
theorem dX8_keepDigest_101 : decode cX8_keepDigest 101 = .ok (.getfield 156, 3) := by decide +kernel
theorem dX8_keepDigest_104 : decode cX8_keepDigest 104 = .ok (.iconst 1, 1) := by decide +kernel
theorem dX8_keepDigest_105 : decode cX8_keepDigest 105 = .ok (.isub, 1) := by decide +kernel
theorem dX8_keepDigest_106 : decode cX8_keepDigest 106 = .ok (.ireturn, 1) := by decide +kernel
theorem dX8_padKey_0 : decode cX8_padKey 0 = .ok (.aload_n 0, 1) := by decide +kernel
theorem dX8_padKey_1 : decode cX8_padKey 1 = .ok (.iconst 0, 1) := by decide +kernel
theorem dX8_padKey_2 : decode cX8_padKey 2 = .ok (.putfield 137, 3) := by decide +kernel
theorem dX8_padKey_5 : decode cX8_padKey 5 = .ok (.iconst 0, 1) := by decide +kernel
theorem dX8_padKey_6 : decode cX8_padKey 6 = .ok (.istore_n 2, 1) := by decide +kernel
theorem dX8_padKey_7 : decode cX8_padKey 7 = .ok (.iload_n 2, 1) := by decide +kernel
theorem dX8_padKey_8 : decode cX8_padKey 8 = .ok (.bipush 64, 2) := by decide +kernel
theorem dX8_padKey_10 : decode cX8_padKey 10 = .ok (.if_icmp .ge 47, 3) := by decide +kernel
theorem dX8_padKey_13 : decode cX8_padKey 13 = .ok (.aload_n 0, 1) := by decide +kernel
theorem dX8_padKey_14 : decode cX8_padKey 14 = .ok (.getfield 56, 3) := by decide +kernel
theorem dX8_padKey_17 : decode cX8_padKey 17 = .ok (.bipush 64, 2) := by decide +kernel
theorem dX8_padKey_19 : decode cX8_padKey 19 = .ok (.iload_n 1, 1) := by decide +kernel
theorem dX8_padKey_20 : decode cX8_padKey 20 = .ok (.imul, 1) := by decide +kernel
theorem dX8_padKey_21 : decode cX8_padKey 21 = .ok (.iload_n 2, 1) := by decide +kernel
theorem dX8_padKey_22 : decode cX8_padKey 22 = .ok (.iadd, 1) := by decide +kernel
theorem dX8_padKey_23 : decode cX8_padKey 23 = .ok (.aload_n 0, 1) := by decide +kernel
theorem dX8_padKey_24 : decode cX8_padKey 24 = .ok (.getfield 153, 3) := by decide +kernel
theorem dX8_padKey_27 : decode cX8_padKey 27 = .ok (.bipush 64, 2) := by decide +kernel
theorem dX8_padKey_29 : decode cX8_padKey 29 = .ok (.if_icmp .gt 20, 3) := by decide +kernel
theorem dX8_padKey_32 : decode cX8_padKey 32 = .ok (.iload_n 2, 1) := by decide +kernel
theorem dX8_padKey_33 : decode cX8_padKey 33 = .ok (.aload_n 0, 1) := by decide +kernel
theorem dX8_padKey_34 : decode cX8_padKey 34 = .ok (.getfield 153, 3) := by decide +kernel
theorem dX8_padKey_37 : decode cX8_padKey 37 = .ok (.if_icmp .ge 12, 3) := by decide +kernel
theorem dX8_padKey_40 : decode cX8_padKey 40 = .ok (.aload_n 0, 1) := by decide +kernel
theorem dX8_padKey_41 : decode cX8_padKey 41 = .ok (.getfield 41, 3) := by decide +kernel
theorem dX8_padKey_44 : decode cX8_padKey 44 = .ok (.iload_n 2, 1) := by decide +kernel
theorem dX8_padKey_45 : decode cX8_padKey 45 = .ok (.iaload, 1) := by decide +kernel
theorem dX8_padKey_46 : decode cX8_padKey 46 = .ok (.goto 4, 3) := by decide +kernel
theorem dX8_padKey_49 : decode cX8_padKey 49 = .ok (.iconst 0, 1) := by decide +kernel
theorem dX8_padKey_50 : decode cX8_padKey 50 = .ok (.iastore, 1) := by decide +kernel
theorem dX8_padKey_51 : decode cX8_padKey 51 = .ok (.iinc 2 1, 3) := by decide +kernel
theorem dX8_padKey_54 : decode cX8_padKey 54 = .ok (.goto (-47), 3) := by decide +kernel
theorem dX8_padKey_57 : decode cX8_padKey 57 = .ok (.aload_n 0, 1) := by decide +kernel
theorem dX8_padKey_58 : decode cX8_padKey 58 = .ok (.getfield 153, 3) := by decide +kernel
theorem dX8_padKey_61 : decode cX8_padKey 61 = .ok (.bipush 64, 2) := by decide +kernel
theorem dX8_padKey_63 : decode cX8_padKey 63 = .ok (.if_icmp .le 69, 3) := by decide +kernel
theorem dX8_padKey_66 : decode cX8_padKey 66 = .ok (.aload_n 0, 1) := by decide +kernel
theorem dX8_padKey_67 : decode cX8_padKey 67 = .ok (.iconst 0, 1) := by decide +kernel
theorem dX8_padKey_68 : decode cX8_padKey 68 = .ok (.putfield 122, 3) := by decide +kernel
theorem dX8_padKey_71 : decode cX8_padKey 71 = .ok (.iconst 0, 1) := by decide +kernel
theorem dX8_padKey_72 : decode cX8_padKey 72 = .ok (.istore_n 2, 1) := by decide +kernel
theorem dX8_padKey_73 : decode cX8_padKey 73 = .ok (.iload_n 2, 1) := by decide +kernel
theorem dX8_padKey_74 : decode cX8_padKey 74 = .ok (.aload_n 0, 1) := by decide +kernel
theorem dX8_padKey_75 : decode cX8_padKey 75 = .ok (.getfield 153, 3) := by decide +kernel
theorem dX8_padKey_78 : decode cX8_padKey 78 = .ok (.if_icmp .ge 19, 3) := by decide +kernel
theorem dX8_padKey_81 : decode cX8_padKey 81 = .ok (.aload_n 0, 1) := by decide +kernel
theorem dX8_padKey_82 : decode cX8_padKey 82 = .ok (.aload_n 0, 1) := by decide +kernel
theorem dX8_padKey_83 : decode cX8_padKey 83 = .ok (.getfield 41, 3) := by decide +kernel
theorem dX8_padKey_86 : decode cX8_padKey 86 = .ok (.iload_n 2, 1) := by decide +kernel
theorem dX8_padKey_87 : decode cX8_padKey 87 = .ok (.iaload, 1) := by decide +kernel
theorem dX8_padKey_88 : decode cX8_padKey 88 = .ok (.invokevirtual 128, 3) := by decide +kernel
theorem dX8_padKey_91 : decode cX8_padKey 91 = .ok (.iinc 2 1, 3) := by decide +kernel
theorem dX8_padKey_94 : decode cX8_padKey 94 = .ok (.goto (-21), 3) := by decide +kernel
theorem dX8_padKey_97 : decode cX8_padKey 97 = .ok (.aload_n 0, 1) := by decide +kernel
theorem dX8_padKey_98 : decode cX8_padKey 98 = .ok (.iconst 0, 1) := by decide +kernel
theorem dX8_padKey_99 : decode cX8_padKey 99 = .ok (.invokevirtual 162, 3) := by decide +kernel
theorem dX8_padKey_102 : decode cX8_padKey 102 = .ok (.iconst 0, 1) := by decide +kernel
theorem dX8_padKey_103 : decode cX8_padKey 103 = .ok (.istore_n 2, 1) := by decide +kernel
theorem dX8_padKey_104 : decode cX8_padKey 104 = .ok (.iload_n 2, 1) := by decide +kernel
theorem dX8_padKey_105 : decode cX8_padKey 105 = .ok (.bipush 32, 2) := by decide +kernel
theorem dX8_padKey_107 : decode cX8_padKey 107 = .ok (.if_icmp .ge 25, 3) := by decide +kernel
theorem dX8_padKey_110 : decode cX8_padKey 110 = .ok (.aload_n 0, 1) := by decide +kernel
theorem dX8_padKey_111 : decode cX8_padKey 111 = .ok (.getfield 56, 3) := by decide +kernel
theorem dX8_padKey_114 : decode cX8_padKey 114 = .ok (.bipush 64, 2) := by decide +kernel
theorem dX8_padKey_116 : decode cX8_padKey 116 = .ok (.iload_n 1, 1) := by decide +kernel
theorem dX8_padKey_117 : decode cX8_padKey 117 = .ok (.imul, 1) := by decide +kernel
theorem dX8_padKey_118 : decode cX8_padKey 118 = .ok (.iload_n 2, 1) := by decide +kernel
theorem dX8_padKey_119 : decode cX8_padKey 119 = .ok (.iadd, 1) := by decide +kernel
theorem dX8_padKey_120 : decode cX8_padKey 120 = .ok (.aload_n 0, 1) := by decide +kernel
theorem dX8_padKey_121 : decode cX8_padKey 121 = .ok (.iload_n 2, 1) := by decide +kernel
theorem dX8_padKey_122 : decode cX8_padKey 122 = .ok (.invokevirtual 159, 3) := by decide +kernel
theorem dX8_padKey_125 : decode cX8_padKey 125 = .ok (.iastore, 1) := by decide +kernel
theorem dX8_padKey_126 : decode cX8_padKey 126 = .ok (.iinc 2 1, 3) := by decide +kernel
theorem dX8_padKey_129 : decode cX8_padKey 129 = .ok (.goto (-25), 3) := by decide +kernel
theorem dX8_padKey_132 : decode cX8_padKey 132 = .ok (.aload_n 0, 1) := by decide +kernel
theorem dX8_padKey_133 : decode cX8_padKey 133 = .ok (.getfield 59, 3) := by decide +kernel
theorem dX8_padKey_136 : decode cX8_padKey 136 = .ok (.iload_n 1, 1) := by decide +kernel
theorem dX8_padKey_137 : decode cX8_padKey 137 = .ok (.aload_n 0, 1) := by decide +kernel
theorem dX8_padKey_138 : decode cX8_padKey 138 = .ok (.getfield 137, 3) := by decide +kernel
theorem dX8_padKey_141 : decode cX8_padKey 141 = .ok (.iastore, 1) := by decide +kernel
theorem dX8_padKey_142 : decode cX8_padKey 142 = .ok (.return_, 1) := by decide +kernel
theorem dX8_made_0 : decode cX8_made 0 = .ok (.iload_n 2, 1) := by decide +kernel
theorem dX8_made_1 : decode cX8_made 1 = .ok (.iconst 1, 1) := by decide +kernel
theorem dX8_made_2 : decode cX8_made 2 = .ok (.iadd, 1) := by decide +kernel
theorem dX8_made_3 : decode cX8_made 3 = .ok (.istore_n 3, 1) := by decide +kernel
theorem dX8_made_4 : decode cX8_made 4 = .ok (.iload_n 2, 1) := by decide +kernel
theorem dX8_made_5 : decode cX8_made 5 = .ok (.ifCond .ge 10, 3) := by decide +kernel
theorem dX8_made_8 : decode cX8_made 8 = .ok (.aload_n 0, 1) := by decide +kernel
theorem dX8_made_9 : decode cX8_made 9 = .ok (.getfield 150, 3) := by decide +kernel
theorem dX8_made_12 : decode cX8_made 12 = .ok (.goto 9, 3) := by decide +kernel
theorem dX8_made_15 : decode cX8_made 15 = .ok (.aload_n 0, 1) := by decide +kernel
theorem dX8_made_16 : decode cX8_made 16 = .ok (.getfield 65, 3) := by decide +kernel
theorem dX8_made_19 : decode cX8_made 19 = .ok (.iload_n 2, 1) := by decide +kernel
theorem dX8_made_20 : decode cX8_made 20 = .ok (.iaload, 1) := by decide +kernel
theorem dX8_made_21 : decode cX8_made 21 = .ok (.istore 4, 2) := by decide +kernel
theorem dX8_made_23 : decode cX8_made 23 = .ok (.aload_n 0, 1) := by decide +kernel
theorem dX8_made_24 : decode cX8_made 24 = .ok (.iload_n 1, 1) := by decide +kernel
theorem dX8_made_25 : decode cX8_made 25 = .ok (.iconst 2, 1) := by decide +kernel
theorem dX8_made_26 : decode cX8_made 26 = .ok (.if_icmp .ne 12, 3) := by decide +kernel
theorem dX8_made_29 : decode cX8_made 29 = .ok (.aload_n 0, 1) := by decide +kernel
theorem dX8_made_30 : decode cX8_made 30 = .ok (.getfield 59, 3) := by decide +kernel
theorem dX8_made_33 : decode cX8_made 33 = .ok (.iload_n 3, 1) := by decide +kernel
theorem dX8_made_34 : decode cX8_made 34 = .ok (.iaload, 1) := by decide +kernel
theorem dX8_made_35 : decode cX8_made 35 = .ok (.goto 4, 3) := by decide +kernel
theorem dX8_made_38 : decode cX8_made 38 = .ok (.iconst 0, 1) := by decide +kernel
theorem dX8_made_39 : decode cX8_made 39 = .ok (.putfield 137, 3) := by decide +kernel
theorem dX8_made_42 : decode cX8_made 42 = .ok (.aload_n 0, 1) := by decide +kernel
theorem dX8_made_43 : decode cX8_made 43 = .ok (.iconst 0, 1) := by decide +kernel
theorem dX8_made_44 : decode cX8_made 44 = .ok (.putfield 122, 3) := by decide +kernel
theorem dX8_made_47 : decode cX8_made 47 = .ok (.iconst 0, 1) := by decide +kernel
theorem dX8_made_48 : decode cX8_made 48 = .ok (.istore 5, 2) := by decide +kernel
theorem dX8_made_50 : decode cX8_made 50 = .ok (.iload_n 1, 1) := by decide +kernel
theorem dX8_made_51 : decode cX8_made 51 = .ok (.iconst 2, 1) := by decide +kernel
theorem dX8_made_52 : decode cX8_made 52 = .ok (.if_icmp .ne 35, 3) := by decide +kernel
theorem dX8_made_55 : decode cX8_made 55 = .ok (.iload 5, 2) := by decide +kernel
theorem dX8_made_57 : decode cX8_made 57 = .ok (.bipush 64, 2) := by decide +kernel
theorem dX8_made_59 : decode cX8_made 59 = .ok (.if_icmp .ge 28, 3) := by decide +kernel
theorem dX8_made_62 : decode cX8_made 62 = .ok (.aload_n 0, 1) := by decide +kernel
theorem dX8_made_63 : decode cX8_made 63 = .ok (.aload_n 0, 1) := by decide +kernel
theorem dX8_made_64 : decode cX8_made 64 = .ok (.getfield 56, 3) := by decide +kernel
theorem dX8_made_67 : decode cX8_made 67 = .ok (.bipush 64, 2) := by decide +kernel
theorem dX8_made_69 : decode cX8_made 69 = .ok (.iload_n 3, 1) := by decide +kernel
theorem dX8_made_70 : decode cX8_made 70 = .ok (.imul, 1) := by decide +kernel
theorem dX8_made_71 : decode cX8_made 71 = .ok (.iload 5, 2) := by decide +kernel
theorem dX8_made_73 : decode cX8_made 73 = .ok (.iadd, 1) := by decide +kernel
theorem dX8_made_74 : decode cX8_made 74 = .ok (.iaload, 1) := by decide +kernel
theorem dX8_made_75 : decode cX8_made 75 = .ok (.bipush 54, 2) := by decide +kernel
theorem dX8_made_77 : decode cX8_made 77 = .ok (.ixor, 1) := by decide +kernel
theorem dX8_made_78 : decode cX8_made 78 = .ok (.invokevirtual 128, 3) := by decide +kernel
theorem dX8_made_81 : decode cX8_made 81 = .ok (.iinc 5 1, 3) := by decide +kernel
theorem dX8_made_84 : decode cX8_made 84 = .ok (.goto (-34), 3) := by decide +kernel
theorem dX8_made_87 : decode cX8_made 87 = .ok (.iconst 0, 1) := by decide +kernel
theorem dX8_made_88 : decode cX8_made 88 = .ok (.istore 5, 2) := by decide +kernel
theorem dX8_made_90 : decode cX8_made 90 = .ok (.iload 5, 2) := by decide +kernel
theorem dX8_made_92 : decode cX8_made 92 = .ok (.iload 4, 2) := by decide +kernel
theorem dX8_made_94 : decode cX8_made 94 = .ok (.if_icmp .ge 40, 3) := by decide +kernel
theorem dX8_made_97 : decode cX8_made 97 = .ok (.aload_n 0, 1) := by decide +kernel
theorem dX8_made_98 : decode cX8_made 98 = .ok (.iload_n 2, 1) := by decide +kernel
theorem dX8_made_99 : decode cX8_made 99 = .ok (.ifCond .ge 13, 3) := by decide +kernel
theorem dX8_made_102 : decode cX8_made 102 = .ok (.aload_n 0, 1) := by decide +kernel
theorem dX8_made_103 : decode cX8_made 103 = .ok (.getfield 38, 3) := by decide +kernel
theorem dX8_made_106 : decode cX8_made 106 = .ok (.iload 5, 2) := by decide +kernel
theorem dX8_made_108 : decode cX8_made 108 = .ok (.iaload, 1) := by decide +kernel
theorem dX8_made_109 : decode cX8_made 109 = .ok (.goto 16, 3) := by decide +kernel
theorem dX8_made_112 : decode cX8_made 112 = .ok (.aload_n 0, 1) := by decide +kernel
theorem dX8_made_113 : decode cX8_made 113 = .ok (.getfield 62, 3) := by decide +kernel
theorem dX8_made_116 : decode cX8_made 116 = .ok (.sipush 2000, 3) := by decide +kernel
theorem dX8_made_119 : decode cX8_made 119 = .ok (.iload_n 2, 1) := by decide +kernel
theorem dX8_made_120 : decode cX8_made 120 = .ok (.imul, 1) := by decide +kernel
theorem dX8_made_121 : decode cX8_made 121 = .ok (.iload 5, 2) := by decide +kernel
theorem dX8_made_123 : decode cX8_made 123 = .ok (.iadd, 1) := by decide +kernel
theorem dX8_made_124 : decode cX8_made 124 = .ok (.iaload, 1) := by decide +kernel
theorem dX8_made_125 : decode cX8_made 125 = .ok (.invokevirtual 128, 3) := by decide +kernel
theorem dX8_made_128 : decode cX8_made 128 = .ok (.iinc 5 1, 3) := by decide +kernel
theorem dX8_made_131 : decode cX8_made 131 = .ok (.goto (-41), 3) := by decide +kernel
theorem dX8_made_134 : decode cX8_made 134 = .ok (.aload_n 0, 1) := by decide +kernel
theorem dX8_made_135 : decode cX8_made 135 = .ok (.iload_n 1, 1) := by decide +kernel
theorem dX8_made_136 : decode cX8_made 136 = .ok (.iconst 1, 1) := by decide +kernel
theorem dX8_made_137 : decode cX8_made 137 = .ok (.if_icmp .ne 7, 3) := by decide +kernel
theorem dX8_made_140 : decode cX8_made 140 = .ok (.iconst 1, 1) := by decide +kernel
theorem dX8_made_141 : decode cX8_made 141 = .ok (.goto 4, 3) := by decide +kernel
theorem dX8_made_144 : decode cX8_made 144 = .ok (.iconst 0, 1) := by decide +kernel
theorem dX8_made_145 : decode cX8_made 145 = .ok (.invokevirtual 162, 3) := by decide +kernel
theorem dX8_made_148 : decode cX8_made 148 = .ok (.iload_n 1, 1) := by decide +kernel
theorem dX8_made_149 : decode cX8_made 149 = .ok (.iconst 2, 1) := by decide +kernel
theorem dX8_made_150 : decode cX8_made 150 = .ok (.if_icmp .ne 117, 3) := by decide +kernel
theorem dX8_made_153 : decode cX8_made 153 = .ok (.iconst 0, 1) := by decide +kernel
theorem dX8_made_154 : decode cX8_made 154 = .ok (.istore 5, 2) := by decide +kernel
theorem dX8_made_156 : decode cX8_made 156 = .ok (.iload 5, 2) := by decide +kernel
theorem dX8_made_158 : decode cX8_made 158 = .ok (.bipush 8, 2) := by decide +kernel
theorem dX8_made_160 : decode cX8_made 160 = .ok (.if_icmp .ge 23, 3) := by decide +kernel
theorem dX8_made_163 : decode cX8_made 163 = .ok (.aload_n 0, 1) := by decide +kernel
theorem dX8_made_164 : decode cX8_made 164 = .ok (.getfield 71, 3) := by decide +kernel
theorem dX8_made_167 : decode cX8_made 167 = .ok (.iload 5, 2) := by decide +kernel
theorem dX8_made_169 : decode cX8_made 169 = .ok (.aload_n 0, 1) := by decide +kernel
theorem dX8_made_170 : decode cX8_made 170 = .ok (.getfield 32, 3) := by decide +kernel
theorem dX8_made_173 : decode cX8_made 173 = .ok (.iload 5, 2) := by decide +kernel
theorem dX8_made_175 : decode cX8_made 175 = .ok (.iaload, 1) := by decide +kernel
theorem dX8_made_176 : decode cX8_made 176 = .ok (.iastore, 1) := by decide +kernel
theorem dX8_made_177 : decode cX8_made 177 = .ok (.iinc 5 1, 3) := by decide +kernel
theorem dX8_made_180 : decode cX8_made 180 = .ok (.goto (-24), 3) := by decide +kernel
theorem dX8_made_183 : decode cX8_made 183 = .ok (.iconst 0, 1) := by decide +kernel
theorem dX8_made_184 : decode cX8_made 184 = .ok (.istore 5, 2) := by decide +kernel
theorem dX8_made_186 : decode cX8_made 186 = .ok (.iload 5, 2) := by decide +kernel
theorem dX8_made_188 : decode cX8_made 188 = .ok (.bipush 64, 2) := by decide +kernel
theorem dX8_made_190 : decode cX8_made 190 = .ok (.if_icmp .ge 28, 3) := by decide +kernel
theorem dX8_made_193 : decode cX8_made 193 = .ok (.aload_n 0, 1) := by decide +kernel
theorem dX8_made_194 : decode cX8_made 194 = .ok (.aload_n 0, 1) := by decide +kernel
theorem dX8_made_195 : decode cX8_made 195 = .ok (.getfield 56, 3) := by decide +kernel
theorem dX8_made_198 : decode cX8_made 198 = .ok (.bipush 64, 2) := by decide +kernel
theorem dX8_made_200 : decode cX8_made 200 = .ok (.iload_n 3, 1) := by decide +kernel
theorem dX8_made_201 : decode cX8_made 201 = .ok (.imul, 1) := by decide +kernel
theorem dX8_made_202 : decode cX8_made 202 = .ok (.iload 5, 2) := by decide +kernel
theorem dX8_made_204 : decode cX8_made 204 = .ok (.iadd, 1) := by decide +kernel
theorem dX8_made_205 : decode cX8_made 205 = .ok (.iaload, 1) := by decide +kernel
theorem dX8_made_206 : decode cX8_made 206 = .ok (.bipush 92, 2) := by decide +kernel
theorem dX8_made_208 : decode cX8_made 208 = .ok (.ixor, 1) := by decide +kernel
theorem dX8_made_209 : decode cX8_made 209 = .ok (.invokevirtual 128, 3) := by decide +kernel
theorem dX8_made_212 : decode cX8_made 212 = .ok (.iinc 5 1, 3) := by decide +kernel
theorem dX8_made_215 : decode cX8_made 215 = .ok (.goto (-29), 3) := by decide +kernel
theorem dX8_made_218 : decode cX8_made 218 = .ok (.iconst 0, 1) := by decide +kernel
theorem dX8_made_219 : decode cX8_made 219 = .ok (.istore 5, 2) := by decide +kernel
theorem dX8_made_221 : decode cX8_made 221 = .ok (.iload 5, 2) := by decide +kernel
theorem dX8_made_223 : decode cX8_made 223 = .ok (.bipush 32, 2) := by decide +kernel
theorem dX8_made_225 : decode cX8_made 225 = .ok (.if_icmp .ge 37, 3) := by decide +kernel
theorem dX8_made_228 : decode cX8_made 228 = .ok (.aload_n 0, 1) := by decide +kernel
theorem dX8_made_229 : decode cX8_made 229 = .ok (.aload_n 0, 1) := by decide +kernel
theorem dX8_made_230 : decode cX8_made 230 = .ok (.getfield 71, 3) := by decide +kernel
theorem dX8_made_233 : decode cX8_made 233 = .ok (.iload 5, 2) := by decide +kernel
theorem dX8_made_235 : decode cX8_made 235 = .ok (.iconst 4, 1) := by decide +kernel
theorem dX8_made_236 : decode cX8_made 236 = .ok (.idiv, 1) := by decide +kernel
theorem dX8_made_237 : decode cX8_made 237 = .ok (.iaload, 1) := by decide +kernel
theorem dX8_made_238 : decode cX8_made 238 = .ok (.bipush 24, 2) := by decide +kernel
theorem dX8_made_240 : decode cX8_made 240 = .ok (.bipush 8, 2) := by decide +kernel
theorem dX8_made_242 : decode cX8_made 242 = .ok (.iload 5, 2) := by decide +kernel
theorem dX8_made_244 : decode cX8_made 244 = .ok (.iconst 4, 1) := by decide +kernel
theorem dX8_made_245 : decode cX8_made 245 = .ok (.irem, 1) := by decide +kernel
theorem dX8_made_246 : decode cX8_made 246 = .ok (.imul, 1) := by decide +kernel
theorem dX8_made_247 : decode cX8_made 247 = .ok (.isub, 1) := by decide +kernel
theorem dX8_made_248 : decode cX8_made 248 = .ok (.iushr, 1) := by decide +kernel
theorem dX8_made_249 : decode cX8_made 249 = .ok (.sipush 255, 3) := by decide +kernel
theorem dX8_made_252 : decode cX8_made 252 = .ok (.iand, 1) := by decide +kernel
theorem dX8_made_253 : decode cX8_made 253 = .ok (.invokevirtual 128, 3) := by decide +kernel
theorem dX8_made_256 : decode cX8_made 256 = .ok (.iinc 5 1, 3) := by decide +kernel
theorem dX8_made_259 : decode cX8_made 259 = .ok (.goto (-38), 3) := by decide +kernel
theorem dX8_made_262 : decode cX8_made 262 = .ok (.aload_n 0, 1) := by decide +kernel
theorem dX8_made_263 : decode cX8_made 263 = .ok (.iconst 0, 1) := by decide +kernel
theorem dX8_made_264 : decode cX8_made 264 = .ok (.invokevirtual 162, 3) := by decide +kernel
theorem dX8_made_267 : decode cX8_made 267 = .ok (.aload_n 0, 1) := by decide +kernel
theorem dX8_made_268 : decode cX8_made 268 = .ok (.iload_n 1, 1) := by decide +kernel
theorem dX8_made_269 : decode cX8_made 269 = .ok (.invokevirtual 166, 3) := by decide +kernel
theorem dX8_made_272 : decode cX8_made 272 = .ok (.ireturn, 1) := by decide +kernel
theorem dX8_digest_0 : decode cX8_digest 0 = .ok (.aload_n 0, 1) := by decide +kernel
theorem dX8_digest_1 : decode cX8_digest 1 = .ok (.iconst 0, 1) := by decide +kernel
theorem dX8_digest_2 : decode cX8_digest 2 = .ok (.putfield 143, 3) := by decide +kernel
theorem dX8_digest_5 : decode cX8_digest 5 = .ok (.iload_n 1, 1) := by decide +kernel
theorem dX8_digest_6 : decode cX8_digest 6 = .ok (.iconst 0, 1) := by decide +kernel
theorem dX8_digest_7 : decode cX8_digest 7 = .ok (.iconst 2, 1) := by decide +kernel
theorem dX8_digest_8 : decode cX8_digest 8 = .ok (.invokestatic 146, 3) := by decide +kernel
theorem dX8_digest_11 : decode cX8_digest 11 = .ok (.ifCond .ne 6, 3) := by decide +kernel
theorem dX8_digest_14 : decode cX8_digest 14 = .ok (.bipush (-102), 2) := by decide +kernel
theorem dX8_digest_16 : decode cX8_digest 16 = .ok (.ireturn, 1) := by decide +kernel
theorem dX8_digest_17 : decode cX8_digest 17 = .ok (.aload_n 0, 1) := by decide +kernel
theorem dX8_digest_18 : decode cX8_digest 18 = .ok (.getfield 156, 3) := by decide +kernel
theorem dX8_digest_21 : decode cX8_digest 21 = .ok (.bipush 60, 2) := by decide +kernel
theorem dX8_digest_23 : decode cX8_digest 23 = .ok (.if_icmp .ne 6, 3) := by decide +kernel
theorem dX8_digest_26 : decode cX8_digest 26 = .ok (.bipush (-103), 2) := by decide +kernel
theorem dX8_digest_28 : decode cX8_digest 28 = .ok (.ireturn, 1) := by decide +kernel
theorem dX8_digest_29 : decode cX8_digest 29 = .ok (.iload_n 1, 1) := by decide +kernel
theorem dX8_digest_30 : decode cX8_digest 30 = .ok (.iconst 2, 1) := by decide +kernel
theorem dX8_digest_31 : decode cX8_digest 31 = .ok (.if_icmp .ne 8, 3) := by decide +kernel
theorem dX8_digest_34 : decode cX8_digest 34 = .ok (.aload_n 0, 1) := by decide +kernel
theorem dX8_digest_35 : decode cX8_digest 35 = .ok (.iconst 0, 1) := by decide +kernel
theorem dX8_digest_36 : decode cX8_digest 36 = .ok (.invokevirtual 169, 3) := by decide +kernel
theorem dX8_digest_39 : decode cX8_digest 39 = .ok (.aload_n 0, 1) := by decide +kernel
theorem dX8_digest_40 : decode cX8_digest 40 = .ok (.iload_n 1, 1) := by decide +kernel
theorem dX8_digest_41 : decode cX8_digest 41 = .ok (.iconst (-1), 1) := by decide +kernel
theorem dX8_digest_42 : decode cX8_digest 42 = .ok (.invokevirtual 172, 3) := by decide +kernel
theorem dX8_digest_45 : decode cX8_digest 45 = .ok (.istore_n 2, 1) := by decide +kernel
theorem dX8_digest_46 : decode cX8_digest 46 = .ok (.aload_n 0, 1) := by decide +kernel
theorem dX8_digest_47 : decode cX8_digest 47 = .ok (.iconst 0, 1) := by decide +kernel
theorem dX8_digest_48 : decode cX8_digest 48 = .ok (.putfield 150, 3) := by decide +kernel
theorem dX8_digest_51 : decode cX8_digest 51 = .ok (.iload_n 2, 1) := by decide +kernel
theorem dX8_digest_52 : decode cX8_digest 52 = .ok (.ireturn, 1) := by decide +kernel
theorem dX8_open_0 : decode cX8_open 0 = .ok (.aload_n 0, 1) := by decide +kernel
theorem dX8_open_1 : decode cX8_open 1 = .ok (.iconst 0, 1) := by decide +kernel
theorem dX8_open_2 : decode cX8_open 2 = .ok (.putfield 143, 3) := by decide +kernel
theorem dX8_open_5 : decode cX8_open 5 = .ok (.iload_n 1, 1) := by decide +kernel
theorem dX8_open_6 : decode cX8_open 6 = .ok (.iconst 0, 1) := by decide +kernel
theorem dX8_open_7 : decode cX8_open 7 = .ok (.iconst 3, 1) := by decide +kernel
theorem dX8_open_8 : decode cX8_open 8 = .ok (.invokestatic 146, 3) := by decide +kernel
theorem dX8_open_11 : decode cX8_open 11 = .ok (.ifCond .eq 12, 3) := by decide +kernel
theorem dX8_open_14 : decode cX8_open 14 = .ok (.iload_n 2, 1) := by decide +kernel
theorem dX8_open_15 : decode cX8_open 15 = .ok (.iconst 0, 1) := by decide +kernel
theorem dX8_open_16 : decode cX8_open 16 = .ok (.iconst 2, 1) := by decide +kernel
theorem dX8_open_17 : decode cX8_open 17 = .ok (.invokestatic 146, 3) := by decide +kernel
theorem dX8_open_20 : decode cX8_open 20 = .ok (.ifCond .ne 6, 3) := by decide +kernel
theorem dX8_open_23 : decode cX8_open 23 = .ok (.bipush (-102), 2) := by decide +kernel
theorem dX8_open_25 : decode cX8_open 25 = .ok (.ireturn, 1) := by decide +kernel
theorem dX8_open_26 : decode cX8_open 26 = .ok (.aload_n 0, 1) := by decide +kernel
theorem dX8_open_27 : decode cX8_open 27 = .ok (.getfield 68, 3) := by decide +kernel
theorem dX8_open_30 : decode cX8_open 30 = .ok (.iload_n 1, 1) := by decide +kernel
theorem dX8_open_31 : decode cX8_open 31 = .ok (.iaload, 1) := by decide +kernel
theorem dX8_open_32 : decode cX8_open 32 = .ok (.ifCond .lt 6, 3) := by decide +kernel
theorem dX8_open_35 : decode cX8_open 35 = .ok (.bipush (-104), 2) := by decide +kernel
theorem dX8_open_37 : decode cX8_open 37 = .ok (.ireturn, 1) := by decide +kernel
theorem dX8_open_38 : decode cX8_open 38 = .ok (.aload_n 0, 1) := by decide +kernel
theorem dX8_open_39 : decode cX8_open 39 = .ok (.getfield 68, 3) := by decide +kernel
theorem dX8_open_42 : decode cX8_open 42 = .ok (.iload_n 1, 1) := by decide +kernel
theorem dX8_open_43 : decode cX8_open 43 = .ok (.iload_n 2, 1) := by decide +kernel
theorem dX8_open_44 : decode cX8_open 44 = .ok (.iastore, 1) := by decide +kernel
theorem dX8_open_45 : decode cX8_open 45 = .ok (.aload_n 0, 1) := by decide +kernel
theorem dX8_open_46 : decode cX8_open 46 = .ok (.getfield 65, 3) := by decide +kernel
theorem dX8_open_49 : decode cX8_open 49 = .ok (.iload_n 1, 1) := by decide +kernel
theorem dX8_open_50 : decode cX8_open 50 = .ok (.iconst 0, 1) := by decide +kernel
theorem dX8_open_51 : decode cX8_open 51 = .ok (.iastore, 1) := by decide +kernel
theorem dX8_open_52 : decode cX8_open 52 = .ok (.iload_n 2, 1) := by decide +kernel
theorem dX8_open_53 : decode cX8_open 53 = .ok (.iconst 2, 1) := by decide +kernel
theorem dX8_open_54 : decode cX8_open 54 = .ok (.if_icmp .ne 10, 3) := by decide +kernel
theorem dX8_open_57 : decode cX8_open 57 = .ok (.aload_n 0, 1) := by decide +kernel
theorem dX8_open_58 : decode cX8_open 58 = .ok (.iload_n 1, 1) := by decide +kernel
theorem dX8_open_59 : decode cX8_open 59 = .ok (.iconst 1, 1) := by decide +kernel
theorem dX8_open_60 : decode cX8_open 60 = .ok (.iadd, 1) := by decide +kernel
theorem dX8_open_61 : decode cX8_open 61 = .ok (.invokevirtual 169, 3) := by decide +kernel
theorem dX8_open_64 : decode cX8_open 64 = .ok (.iconst 1, 1) := by decide +kernel
theorem dX8_open_65 : decode cX8_open 65 = .ok (.ireturn, 1) := by decide +kernel
theorem dX8_more_0 : decode cX8_more 0 = .ok (.aload_n 0, 1) := by decide +kernel
theorem dX8_more_1 : decode cX8_more 1 = .ok (.iconst 0, 1) := by decide +kernel
theorem dX8_more_2 : decode cX8_more 2 = .ok (.putfield 143, 3) := by decide +kernel
theorem dX8_more_5 : decode cX8_more 5 = .ok (.iload_n 1, 1) := by decide +kernel
theorem dX8_more_6 : decode cX8_more 6 = .ok (.iconst 0, 1) := by decide +kernel
theorem dX8_more_7 : decode cX8_more 7 = .ok (.iconst 3, 1) := by decide +kernel
theorem dX8_more_8 : decode cX8_more 8 = .ok (.invokestatic 146, 3) := by decide +kernel
theorem dX8_more_11 : decode cX8_more 11 = .ok (.ifCond .ne 6, 3) := by decide +kernel
theorem dX8_more_14 : decode cX8_more 14 = .ok (.bipush (-102), 2) := by decide +kernel
theorem dX8_more_16 : decode cX8_more 16 = .ok (.ireturn, 1) := by decide +kernel
theorem dX8_more_17 : decode cX8_more 17 = .ok (.aload_n 0, 1) := by decide +kernel
theorem dX8_more_18 : decode cX8_more 18 = .ok (.getfield 68, 3) := by decide +kernel
theorem dX8_more_21 : decode cX8_more 21 = .ok (.iload_n 1, 1) := by decide +kernel
theorem dX8_more_22 : decode cX8_more 22 = .ok (.iaload, 1) := by decide +kernel
theorem dX8_more_23 : decode cX8_more 23 = .ok (.ifCond .ge 6, 3) := by decide +kernel
theorem dX8_more_26 : decode cX8_more 26 = .ok (.bipush (-104), 2) := by decide +kernel
theorem dX8_more_28 : decode cX8_more 28 = .ok (.ireturn, 1) := by decide +kernel
theorem dX8_more_29 : decode cX8_more 29 = .ok (.aload_n 0, 1) := by decide +kernel
theorem dX8_more_30 : decode cX8_more 30 = .ok (.getfield 65, 3) := by decide +kernel
theorem dX8_more_33 : decode cX8_more 33 = .ok (.iload_n 1, 1) := by decide +kernel
theorem dX8_more_34 : decode cX8_more 34 = .ok (.iaload, 1) := by decide +kernel
theorem dX8_more_35 : decode cX8_more 35 = .ok (.aload_n 0, 1) := by decide +kernel
theorem dX8_more_36 : decode cX8_more 36 = .ok (.getfield 150, 3) := by decide +kernel
theorem dX8_more_39 : decode cX8_more 39 = .ok (.iadd, 1) := by decide +kernel
theorem dX8_more_40 : decode cX8_more 40 = .ok (.sipush 2000, 3) := by decide +kernel
theorem dX8_more_43 : decode cX8_more 43 = .ok (.if_icmp .le 6, 3) := by decide +kernel
theorem dX8_more_46 : decode cX8_more 46 = .ok (.bipush (-103), 2) := by decide +kernel
theorem dX8_more_48 : decode cX8_more 48 = .ok (.ireturn, 1) := by decide +kernel
theorem dX8_more_49 : decode cX8_more 49 = .ok (.iconst 0, 1) := by decide +kernel
theorem dX8_more_50 : decode cX8_more 50 = .ok (.istore_n 2, 1) := by decide +kernel
theorem dX8_more_51 : decode cX8_more 51 = .ok (.iload_n 2, 1) := by decide +kernel
theorem dX8_more_52 : decode cX8_more 52 = .ok (.aload_n 0, 1) := by decide +kernel
theorem dX8_more_53 : decode cX8_more 53 = .ok (.getfield 150, 3) := by decide +kernel
theorem dX8_more_56 : decode cX8_more 56 = .ok (.if_icmp .ge 34, 3) := by decide +kernel
theorem dX8_more_59 : decode cX8_more 59 = .ok (.aload_n 0, 1) := by decide +kernel
theorem dX8_more_60 : decode cX8_more 60 = .ok (.getfield 62, 3) := by decide +kernel
theorem dX8_more_63 : decode cX8_more 63 = .ok (.sipush 2000, 3) := by decide +kernel
theorem dX8_more_66 : decode cX8_more 66 = .ok (.iload_n 1, 1) := by decide +kernel
theorem dX8_more_67 : decode cX8_more 67 = .ok (.imul, 1) := by decide +kernel
theorem dX8_more_68 : decode cX8_more 68 = .ok (.aload_n 0, 1) := by decide +kernel
theorem dX8_more_69 : decode cX8_more 69 = .ok (.getfield 65, 3) := by decide +kernel
theorem dX8_more_72 : decode cX8_more 72 = .ok (.iload_n 1, 1) := by decide +kernel
theorem dX8_more_73 : decode cX8_more 73 = .ok (.iaload, 1) := by decide +kernel
theorem dX8_more_74 : decode cX8_more 74 = .ok (.iadd, 1) := by decide +kernel
theorem dX8_more_75 : decode cX8_more 75 = .ok (.iload_n 2, 1) := by decide +kernel
theorem dX8_more_76 : decode cX8_more 76 = .ok (.iadd, 1) := by decide +kernel
theorem dX8_more_77 : decode cX8_more 77 = .ok (.aload_n 0, 1) := by decide +kernel
theorem dX8_more_78 : decode cX8_more 78 = .ok (.getfield 38, 3) := by decide +kernel
theorem dX8_more_81 : decode cX8_more 81 = .ok (.iload_n 2, 1) := by decide +kernel
theorem dX8_more_82 : decode cX8_more 82 = .ok (.iaload, 1) := by decide +kernel
theorem dX8_more_83 : decode cX8_more 83 = .ok (.iastore, 1) := by decide +kernel
theorem dX8_more_84 : decode cX8_more 84 = .ok (.iinc 2 1, 3) := by decide +kernel
theorem dX8_more_87 : decode cX8_more 87 = .ok (.goto (-36), 3) := by decide +kernel
theorem dX8_more_90 : decode cX8_more 90 = .ok (.aload_n 0, 1) := by decide +kernel
theorem dX8_more_91 : decode cX8_more 91 = .ok (.getfield 65, 3) := by decide +kernel
theorem dX8_more_94 : decode cX8_more 94 = .ok (.iload_n 1, 1) := by decide +kernel
theorem dX8_more_95 : decode cX8_more 95 = .ok (.dup2, 1) := by decide +kernel
theorem dX8_more_96 : decode cX8_more 96 = .ok (.iaload, 1) := by decide +kernel
theorem dX8_more_97 : decode cX8_more 97 = .ok (.aload_n 0, 1) := by decide +kernel
theorem dX8_more_98 : decode cX8_more 98 = .ok (.getfield 150, 3) := by decide +kernel
theorem dX8_more_101 : decode cX8_more 101 = .ok (.iadd, 1) := by decide +kernel
theorem dX8_more_102 : decode cX8_more 102 = .ok (.iastore, 1) := by decide +kernel
theorem dX8_more_103 : decode cX8_more 103 = .ok (.aload_n 0, 1) := by decide +kernel
theorem dX8_more_104 : decode cX8_more 104 = .ok (.iconst 0, 1) := by decide +kernel
theorem dX8_more_105 : decode cX8_more 105 = .ok (.putfield 150, 3) := by decide +kernel
theorem dX8_more_108 : decode cX8_more 108 = .ok (.aload_n 0, 1) := by decide +kernel
theorem dX8_more_109 : decode cX8_more 109 = .ok (.getfield 65, 3) := by decide +kernel
theorem dX8_more_112 : decode cX8_more 112 = .ok (.iload_n 1, 1) := by decide +kernel
theorem dX8_more_113 : decode cX8_more 113 = .ok (.iaload, 1) := by decide +kernel
theorem dX8_more_114 : decode cX8_more 114 = .ok (.ireturn, 1) := by decide +kernel
theorem dX8_end_0 : decode cX8_end 0 = .ok (.aload_n 0, 1) := by decide +kernel
theorem dX8_end_1 : decode cX8_end 1 = .ok (.iconst 0, 1) := by decide +kernel
theorem dX8_end_2 : decode cX8_end 2 = .ok (.putfield 143, 3) := by decide +kernel
theorem dX8_end_5 : decode cX8_end 5 = .ok (.iload_n 1, 1) := by decide +kernel
theorem dX8_end_6 : decode cX8_end 6 = .ok (.iconst 0, 1) := by decide +kernel
theorem dX8_end_7 : decode cX8_end 7 = .ok (.iconst 3, 1) := by decide +kernel
theorem dX8_end_8 : decode cX8_end 8 = .ok (.invokestatic 146, 3) := by decide +kernel
theorem dX8_end_11 : decode cX8_end 11 = .ok (.ifCond .ne 6, 3) := by decide +kernel
theorem dX8_end_14 : decode cX8_end 14 = .ok (.bipush (-102), 2) := by decide +kernel
theorem dX8_end_16 : decode cX8_end 16 = .ok (.ireturn, 1) := by decide +kernel
theorem dX8_end_17 : decode cX8_end 17 = .ok (.aload_n 0, 1) := by decide +kernel
theorem dX8_end_18 : decode cX8_end 18 = .ok (.getfield 68, 3) := by decide +kernel
theorem dX8_end_21 : decode cX8_end 21 = .ok (.iload_n 1, 1) := by decide +kernel
theorem dX8_end_22 : decode cX8_end 22 = .ok (.iaload, 1) := by decide +kernel
theorem dX8_end_23 : decode cX8_end 23 = .ok (.ifCond .ge 6, 3) := by decide +kernel
theorem dX8_end_26 : decode cX8_end 26 = .ok (.bipush (-104), 2) := by decide +kernel
theorem dX8_end_28 : decode cX8_end 28 = .ok (.ireturn, 1) := by decide +kernel
theorem dX8_end_29 : decode cX8_end 29 = .ok (.aload_n 0, 1) := by decide +kernel
theorem dX8_end_30 : decode cX8_end 30 = .ok (.getfield 156, 3) := by decide +kernel
theorem dX8_end_33 : decode cX8_end 33 = .ok (.bipush 60, 2) := by decide +kernel
theorem dX8_end_35 : decode cX8_end 35 = .ok (.if_icmp .ne 6, 3) := by decide +kernel
theorem dX8_end_38 : decode cX8_end 38 = .ok (.bipush (-103), 2) := by decide +kernel
theorem dX8_end_40 : decode cX8_end 40 = .ok (.ireturn, 1) := by decide +kernel
theorem dX8_end_41 : decode cX8_end 41 = .ok (.aload_n 0, 1) := by decide +kernel
theorem dX8_end_42 : decode cX8_end 42 = .ok (.aload_n 0, 1) := by decide +kernel
theorem dX8_end_43 : decode cX8_end 43 = .ok (.getfield 68, 3) := by decide +kernel
theorem dX8_end_46 : decode cX8_end 46 = .ok (.iload_n 1, 1) := by decide +kernel
theorem dX8_end_47 : decode cX8_end 47 = .ok (.iaload, 1) := by decide +kernel
theorem dX8_end_48 : decode cX8_end 48 = .ok (.iload_n 1, 1) := by decide +kernel
theorem dX8_end_49 : decode cX8_end 49 = .ok (.invokevirtual 172, 3) := by decide +kernel
theorem dX8_end_52 : decode cX8_end 52 = .ok (.istore_n 2, 1) := by decide +kernel
theorem dX8_end_53 : decode cX8_end 53 = .ok (.aload_n 0, 1) := by decide +kernel
theorem dX8_end_54 : decode cX8_end 54 = .ok (.getfield 68, 3) := by decide +kernel
theorem dX8_end_57 : decode cX8_end 57 = .ok (.iload_n 1, 1) := by decide +kernel
theorem dX8_end_58 : decode cX8_end 58 = .ok (.iconst (-1), 1) := by decide +kernel
theorem dX8_end_59 : decode cX8_end 59 = .ok (.iastore, 1) := by decide +kernel
theorem dX8_end_60 : decode cX8_end 60 = .ok (.iload_n 2, 1) := by decide +kernel
theorem dX8_end_61 : decode cX8_end 61 = .ok (.ireturn, 1) := by decide +kernel
theorem dX8_isDigest_0 : decode cX8_isDigest 0 = .ok (.iload_n 1, 1) := by decide +kernel
theorem dX8_isDigest_1 : decode cX8_isDigest 1 = .ok (.iconst 0, 1) := by decide +kernel
theorem dX8_isDigest_2 : decode cX8_isDigest 2 = .ok (.aload_n 0, 1) := by decide +kernel
theorem dX8_isDigest_3 : decode cX8_isDigest 3 = .ok (.getfield 156, 3) := by decide +kernel
theorem dX8_isDigest_6 : decode cX8_isDigest 6 = .ok (.iconst 1, 1) := by decide +kernel
theorem dX8_isDigest_7 : decode cX8_isDigest 7 = .ok (.isub, 1) := by decide +kernel
theorem dX8_isDigest_8 : decode cX8_isDigest 8 = .ok (.invokestatic 146, 3) := by decide +kernel
theorem dX8_isDigest_11 : decode cX8_isDigest 11 = .ok (.ireturn, 1) := by decide +kernel
theorem dX8_told_0 : decode cX8_told 0 = .ok (.aload_n 0, 1) := by decide +kernel
theorem dX8_told_1 : decode cX8_told 1 = .ok (.iconst 0, 1) := by decide +kernel
theorem dX8_told_2 : decode cX8_told 2 = .ok (.putfield 143, 3) := by decide +kernel
theorem dX8_told_5 : decode cX8_told 5 = .ok (.aload_n 0, 1) := by decide +kernel
theorem dX8_told_6 : decode cX8_told 6 = .ok (.iload_n 1, 1) := by decide +kernel
theorem dX8_told_7 : decode cX8_told 7 = .ok (.invokevirtual 175, 3) := by decide +kernel
theorem dX8_told_10 : decode cX8_told 10 = .ok (.ifCond .ne 6, 3) := by decide +kernel
theorem dX8_told_13 : decode cX8_told 13 = .ok (.bipush (-101), 2) := by decide +kernel
theorem dX8_told_15 : decode cX8_told 15 = .ok (.ireturn, 1) := by decide +kernel
theorem dX8_told_16 : decode cX8_told 16 = .ok (.iload_n 2, 1) := by decide +kernel
theorem dX8_told_17 : decode cX8_told 17 = .ok (.ifCond .ne 12, 3) := by decide +kernel
theorem dX8_told_20 : decode cX8_told 20 = .ok (.aload_n 0, 1) := by decide +kernel
theorem dX8_told_21 : decode cX8_told 21 = .ok (.getfield 44, 3) := by decide +kernel
theorem dX8_told_24 : decode cX8_told 24 = .ok (.iload_n 1, 1) := by decide +kernel
theorem dX8_told_25 : decode cX8_told 25 = .ok (.iaload, 1) := by decide +kernel
theorem dX8_told_26 : decode cX8_told 26 = .ok (.goto 36, 3) := by decide +kernel
theorem dX8_told_29 : decode cX8_told 29 = .ok (.iload_n 2, 1) := by decide +kernel
theorem dX8_told_30 : decode cX8_told 30 = .ok (.iconst 1, 1) := by decide +kernel
theorem dX8_told_31 : decode cX8_told 31 = .ok (.if_icmp .ne 15, 3) := by decide +kernel
theorem dX8_told_34 : decode cX8_told 34 = .ok (.aload_n 0, 1) := by decide +kernel
theorem dX8_told_35 : decode cX8_told 35 = .ok (.getfield 44, 3) := by decide +kernel
theorem dX8_told_38 : decode cX8_told 38 = .ok (.iload_n 1, 1) := by decide +kernel
theorem dX8_told_39 : decode cX8_told 39 = .ok (.iaload, 1) := by decide +kernel
theorem dX8_told_40 : decode cX8_told 40 = .ok (.invokestatic 179, 3) := by decide +kernel
theorem dX8_told_43 : decode cX8_told 43 = .ok (.goto 19, 3) := by decide +kernel
theorem dX8_told_46 : decode cX8_told 46 = .ok (.iload_n 2, 1) := by decide +kernel
theorem dX8_told_47 : decode cX8_told 47 = .ok (.iconst 2, 1) := by decide +kernel
theorem dX8_told_48 : decode cX8_told 48 = .ok (.if_icmp .ne 12, 3) := by decide +kernel
theorem dX8_told_51 : decode cX8_told 51 = .ok (.aload_n 0, 1) := by decide +kernel
theorem dX8_told_52 : decode cX8_told 52 = .ok (.getfield 47, 3) := by decide +kernel
theorem dX8_told_55 : decode cX8_told 55 = .ok (.iload_n 1, 1) := by decide +kernel
theorem dX8_told_56 : decode cX8_told 56 = .ok (.iaload, 1) := by decide +kernel
theorem dX8_told_57 : decode cX8_told 57 = .ok (.goto 5, 3) := by decide +kernel
theorem dX8_told_60 : decode cX8_told 60 = .ok (.bipush (-102), 2) := by decide +kernel
theorem dX8_told_62 : decode cX8_told 62 = .ok (.ireturn, 1) := by decide +kernel
theorem dX8_read_0 : decode cX8_read 0 = .ok (.aload_n 0, 1) := by decide +kernel
theorem dX8_read_1 : decode cX8_read 1 = .ok (.iconst 0, 1) := by decide +kernel
theorem dX8_read_2 : decode cX8_read 2 = .ok (.putfield 143, 3) := by decide +kernel
theorem dX8_read_5 : decode cX8_read 5 = .ok (.aload_n 0, 1) := by decide +kernel
theorem dX8_read_6 : decode cX8_read 6 = .ok (.iload_n 1, 1) := by decide +kernel
theorem dX8_read_7 : decode cX8_read 7 = .ok (.invokevirtual 175, 3) := by decide +kernel
theorem dX8_read_10 : decode cX8_read 10 = .ok (.ifCond .ne 7, 3) := by decide +kernel
theorem dX8_read_13 : decode cX8_read 13 = .ok (.ldc2_w 182, 3) := by decide +kernel
theorem dX8_read_16 : decode cX8_read 16 = .ok (.lreturn, 1) := by decide +kernel
theorem dX8_read_17 : decode cX8_read 17 = .ok (.iload_n 2, 1) := by decide +kernel
theorem dX8_read_18 : decode cX8_read 18 = .ok (.iconst 0, 1) := by decide +kernel
theorem dX8_read_19 : decode cX8_read 19 = .ok (.iconst 4, 1) := by decide +kernel
theorem dX8_read_20 : decode cX8_read 20 = .ok (.invokestatic 146, 3) := by decide +kernel
theorem dX8_read_23 : decode cX8_read 23 = .ok (.ifCond .ne 7, 3) := by decide +kernel
theorem dX8_read_26 : decode cX8_read 26 = .ok (.ldc2_w 184, 3) := by decide +kernel
theorem dX8_read_29 : decode cX8_read 29 = .ok (.lreturn, 1) := by decide +kernel
theorem dX8_read_30 : decode cX8_read 30 = .ok (.iload_n 2, 1) := by decide +kernel
theorem dX8_read_31 : decode cX8_read 31 = .ok (.ifCond .ne 7, 3) := by decide +kernel
theorem dX8_read_34 : decode cX8_read 34 = .ok (.iconst 1, 1) := by decide +kernel
theorem dX8_read_35 : decode cX8_read 35 = .ok (.goto 23, 3) := by decide +kernel
theorem dX8_read_38 : decode cX8_read 38 = .ok (.iload_n 2, 1) := by decide +kernel
theorem dX8_read_39 : decode cX8_read 39 = .ok (.iconst 3, 1) := by decide +kernel
theorem dX8_read_40 : decode cX8_read 40 = .ok (.if_icmp .ge 7, 3) := by decide +kernel
theorem dX8_read_43 : decode cX8_read 43 = .ok (.iconst 2, 1) := by decide +kernel
theorem dX8_read_44 : decode cX8_read 44 = .ok (.goto 14, 3) := by decide +kernel
theorem dX8_read_47 : decode cX8_read 47 = .ok (.iload_n 2, 1) := by decide +kernel
theorem dX8_read_48 : decode cX8_read 48 = .ok (.iconst 3, 1) := by decide +kernel
theorem dX8_read_49 : decode cX8_read 49 = .ok (.if_icmp .ne 7, 3) := by decide +kernel
theorem dX8_read_52 : decode cX8_read 52 = .ok (.iconst 4, 1) := by decide +kernel
theorem dX8_read_53 : decode cX8_read 53 = .ok (.goto 5, 3) := by decide +kernel
theorem dX8_read_56 : decode cX8_read 56 = .ok (.bipush 8, 2) := by decide +kernel
theorem dX8_read_58 : decode cX8_read 58 = .ok (.istore 4, 2) := by decide +kernel
theorem dX8_read_60 : decode cX8_read 60 = .ok (.iload_n 3, 1) := by decide +kernel
theorem dX8_read_61 : decode cX8_read 61 = .ok (.iconst 0, 1) := by decide +kernel
theorem dX8_read_62 : decode cX8_read 62 = .ok (.aload_n 0, 1) := by decide +kernel
theorem dX8_read_63 : decode cX8_read 63 = .ok (.getfield 44, 3) := by decide +kernel
theorem dX8_read_66 : decode cX8_read 66 = .ok (.iload_n 1, 1) := by decide +kernel
theorem dX8_read_67 : decode cX8_read 67 = .ok (.iaload, 1) := by decide +kernel
theorem dX8_read_68 : decode cX8_read 68 = .ok (.invokestatic 179, 3) := by decide +kernel
theorem dX8_read_71 : decode cX8_read 71 = .ok (.iload 4, 2) := by decide +kernel
theorem dX8_read_73 : decode cX8_read 73 = .ok (.isub, 1) := by decide +kernel
theorem dX8_read_74 : decode cX8_read 74 = .ok (.invokestatic 146, 3) := by decide +kernel
theorem dX8_read_77 : decode cX8_read 77 = .ok (.ifCond .ne 10, 3) := by decide +kernel
theorem dX8_read_80 : decode cX8_read 80 = .ok (.aload_n 0, 1) := by decide +kernel
theorem dX8_read_81 : decode cX8_read 81 = .ok (.iconst 1, 1) := by decide +kernel
theorem dX8_read_82 : decode cX8_read 82 = .ok (.putfield 143, 3) := by decide +kernel
theorem dX8_read_85 : decode cX8_read 85 = .ok (.lconst 0, 1) := by decide +kernel
theorem dX8_read_86 : decode cX8_read 86 = .ok (.lreturn, 1) := by decide +kernel
theorem dX8_read_87 : decode cX8_read 87 = .ok (.lconst 0, 1) := by decide +kernel
theorem dX8_read_88 : decode cX8_read 88 = .ok (.lstore 5, 2) := by decide +kernel
theorem dX8_read_90 : decode cX8_read 90 = .ok (.iconst 0, 1) := by decide +kernel
theorem dX8_read_91 : decode cX8_read 91 = .ok (.istore 7, 2) := by decide +kernel
theorem dX8_read_93 : decode cX8_read 93 = .ok (.iload 7, 2) := by decide +kernel
theorem dX8_read_95 : decode cX8_read 95 = .ok (.iload 4, 2) := by decide +kernel
theorem dX8_read_97 : decode cX8_read 97 = .ok (.if_icmp .ge 32, 3) := by decide +kernel
theorem dX8_read_100 : decode cX8_read 100 = .ok (.lload 5, 2) := by decide +kernel
theorem dX8_read_102 : decode cX8_read 102 = .ok (.bipush 8, 2) := by decide +kernel
theorem dX8_read_104 : decode cX8_read 104 = .ok (.lshl, 1) := by decide +kernel
theorem dX8_read_105 : decode cX8_read 105 = .ok (.aload_n 0, 1) := by decide +kernel
theorem dX8_read_106 : decode cX8_read 106 = .ok (.getfield 50, 3) := by decide +kernel
theorem dX8_read_109 : decode cX8_read 109 = .ok (.bipush 32, 2) := by decide +kernel
theorem dX8_read_111 : decode cX8_read 111 = .ok (.iload_n 1, 1) := by decide +kernel
theorem dX8_read_112 : decode cX8_read 112 = .ok (.imul, 1) := by decide +kernel
theorem dX8_read_113 : decode cX8_read 113 = .ok (.iload_n 3, 1) := by decide +kernel
theorem dX8_read_114 : decode cX8_read 114 = .ok (.iadd, 1) := by decide +kernel
theorem dX8_read_115 : decode cX8_read 115 = .ok (.iload 7, 2) := by decide +kernel
theorem dX8_read_117 : decode cX8_read 117 = .ok (.iadd, 1) := by decide +kernel
theorem dX8_read_118 : decode cX8_read 118 = .ok (.iaload, 1) := by decide +kernel
theorem dX8_read_119 : decode cX8_read 119 = .ok (.i2l, 1) := by decide +kernel
theorem dX8_read_120 : decode cX8_read 120 = .ok (.lor, 1) := by decide +kernel
theorem dX8_read_121 : decode cX8_read 121 = .ok (.lstore 5, 2) := by decide +kernel
theorem dX8_read_123 : decode cX8_read 123 = .ok (.iinc 7 1, 3) := by decide +kernel
theorem dX8_read_126 : decode cX8_read 126 = .ok (.goto (-33), 3) := by decide +kernel
theorem dX8_read_129 : decode cX8_read 129 = .ok (.iload_n 2, 1) := by decide +kernel
theorem dX8_read_130 : decode cX8_read 130 = .ok (.ifCond .ne 11, 3) := by decide +kernel
theorem dX8_read_133 : decode cX8_read 133 = .ok (.lload 5, 2) := by decide +kernel
theorem dX8_read_135 : decode cX8_read 135 = .ok (.l2i, 1) := by decide +kernel
theorem dX8_read_136 : decode cX8_read 136 = .ok (.i2b, 1) := by decide +kernel
theorem dX8_read_137 : decode cX8_read 137 = .ok (.i2l, 1) := by decide +kernel
theorem dX8_read_138 : decode cX8_read 138 = .ok (.goto 30, 3) := by decide +kernel
theorem dX8_read_141 : decode cX8_read 141 = .ok (.iload_n 2, 1) := by decide +kernel
theorem dX8_read_142 : decode cX8_read 142 = .ok (.iconst 1, 1) := by decide +kernel
theorem dX8_read_143 : decode cX8_read 143 = .ok (.if_icmp .ne 11, 3) := by decide +kernel
theorem dX8_read_146 : decode cX8_read 146 = .ok (.lload 5, 2) := by decide +kernel
theorem dX8_read_148 : decode cX8_read 148 = .ok (.l2i, 1) := by decide +kernel
theorem dX8_read_149 : decode cX8_read 149 = .ok (.i2s, 1) := by decide +kernel
theorem dX8_read_150 : decode cX8_read 150 = .ok (.i2l, 1) := by decide +kernel
theorem dX8_read_151 : decode cX8_read 151 = .ok (.goto 17, 3) := by decide +kernel
theorem dX8_read_154 : decode cX8_read 154 = .ok (.iload_n 2, 1) := by decide +kernel
theorem dX8_read_155 : decode cX8_read 155 = .ok (.iconst 3, 1) := by decide +kernel
theorem dX8_read_156 : decode cX8_read 156 = .ok (.if_icmp .ne 10, 3) := by decide +kernel
theorem dX8_read_159 : decode cX8_read 159 = .ok (.lload 5, 2) := by decide +kernel
theorem dX8_read_161 : decode cX8_read 161 = .ok (.l2i, 1) := by decide +kernel
theorem dX8_read_162 : decode cX8_read 162 = .ok (.i2l, 1) := by decide +kernel
theorem dX8_read_163 : decode cX8_read 163 = .ok (.goto 5, 3) := by decide +kernel
theorem dX8_read_166 : decode cX8_read 166 = .ok (.lload 5, 2) := by decide +kernel
theorem dX8_read_168 : decode cX8_read 168 = .ok (.lreturn, 1) := by decide +kernel
theorem dX8_plan_0 : decode cX8_plan 0 = .ok (.aload_n 0, 1) := by decide +kernel
theorem dX8_plan_1 : decode cX8_plan 1 = .ok (.iconst 0, 1) := by decide +kernel
theorem dX8_plan_2 : decode cX8_plan 2 = .ok (.putfield 143, 3) := by decide +kernel
theorem dX8_plan_5 : decode cX8_plan 5 = .ok (.aload_n 0, 1) := by decide +kernel
theorem dX8_plan_6 : decode cX8_plan 6 = .ok (.iload_n 1, 1) := by decide +kernel
theorem dX8_plan_7 : decode cX8_plan 7 = .ok (.invokevirtual 175, 3) := by decide +kernel
theorem dX8_plan_10 : decode cX8_plan 10 = .ok (.ifCond .ne 7, 3) := by decide +kernel
theorem dX8_plan_13 : decode cX8_plan 13 = .ok (.ldc2_w 182, 3) := by decide +kernel
theorem dX8_plan_16 : decode cX8_plan 16 = .ok (.lreturn, 1) := by decide +kernel
theorem dX8_plan_17 : decode cX8_plan 17 = .ok (.aload_n 0, 1) := by decide +kernel
theorem dX8_plan_18 : decode cX8_plan 18 = .ok (.iload_n 2, 1) := by decide +kernel
theorem dX8_plan_19 : decode cX8_plan 19 = .ok (.iconst 0, 1) := by decide +kernel
theorem dX8_plan_20 : decode cX8_plan 20 = .ok (.bipush 63, 2) := by decide +kernel
theorem dX8_plan_22 : decode cX8_plan 22 = .ok (.invokestatic 146, 3) := by decide +kernel
theorem dX8_plan_25 : decode cX8_plan 25 = .ok (.ifCond .eq 7, 3) := by decide +kernel
theorem dX8_plan_28 : decode cX8_plan 28 = .ok (.iconst 0, 1) := by decide +kernel
theorem dX8_plan_29 : decode cX8_plan 29 = .ok (.goto 4, 3) := by decide +kernel
theorem dX8_plan_32 : decode cX8_plan 32 = .ok (.iconst 1, 1) := by decide +kernel
theorem dX8_plan_33 : decode cX8_plan 33 = .ok (.putfield 143, 3) := by decide +kernel
theorem dX8_plan_36 : decode cX8_plan 36 = .ok (.aload_n 0, 1) := by decide +kernel
theorem dX8_plan_37 : decode cX8_plan 37 = .ok (.getfield 143, 3) := by decide +kernel
theorem dX8_plan_40 : decode cX8_plan 40 = .ok (.iconst 1, 1) := by decide +kernel
theorem dX8_plan_41 : decode cX8_plan 41 = .ok (.if_icmp .ne 7, 3) := by decide +kernel
theorem dX8_plan_44 : decode cX8_plan 44 = .ok (.lconst 0, 1) := by decide +kernel
theorem dX8_plan_45 : decode cX8_plan 45 = .ok (.goto 15, 3) := by decide +kernel
theorem dX8_plan_48 : decode cX8_plan 48 = .ok (.aload_n 0, 1) := by decide +kernel
theorem dX8_plan_49 : decode cX8_plan 49 = .ok (.getfield 53, 3) := by decide +kernel
theorem dX8_plan_52 : decode cX8_plan 52 = .ok (.bipush 64, 2) := by decide +kernel
theorem dX8_plan_54 : decode cX8_plan 54 = .ok (.iload_n 1, 1) := by decide +kernel
theorem dX8_plan_55 : decode cX8_plan 55 = .ok (.imul, 1) := by decide +kernel
theorem dX8_plan_56 : decode cX8_plan 56 = .ok (.iload_n 2, 1) := by decide +kernel
theorem dX8_plan_57 : decode cX8_plan 57 = .ok (.iadd, 1) := by decide +kernel
theorem dX8_plan_58 : decode cX8_plan 58 = .ok (.iaload, 1) := by decide +kernel
theorem dX8_plan_59 : decode cX8_plan 59 = .ok (.i2l, 1) := by decide +kernel
theorem dX8_plan_60 : decode cX8_plan 60 = .ok (.lreturn, 1) := by decide +kernel
theorem dX8_same_0 : decode cX8_same 0 = .ok (.aload_n 0, 1) := by decide +kernel
theorem dX8_same_1 : decode cX8_same 1 = .ok (.iconst 0, 1) := by decide +kernel
theorem dX8_same_2 : decode cX8_same 2 = .ok (.putfield 143, 3) := by decide +kernel
theorem dX8_same_5 : decode cX8_same 5 = .ok (.aload_n 0, 1) := by decide +kernel
theorem dX8_same_6 : decode cX8_same 6 = .ok (.iload_n 1, 1) := by decide +kernel
theorem dX8_same_7 : decode cX8_same 7 = .ok (.invokevirtual 175, 3) := by decide +kernel
theorem dX8_same_10 : decode cX8_same 10 = .ok (.ifCond .eq 11, 3) := by decide +kernel
theorem dX8_same_13 : decode cX8_same 13 = .ok (.aload_n 0, 1) := by decide +kernel
theorem dX8_same_14 : decode cX8_same 14 = .ok (.iload_n 2, 1) := by decide +kernel
theorem dX8_same_15 : decode cX8_same 15 = .ok (.invokevirtual 175, 3) := by decide +kernel
theorem dX8_same_18 : decode cX8_same 18 = .ok (.ifCond .ne 6, 3) := by decide +kernel
theorem dX8_same_21 : decode cX8_same 21 = .ok (.bipush (-101), 2) := by decide +kernel
theorem dX8_same_23 : decode cX8_same 23 = .ok (.ireturn, 1) := by decide +kernel
theorem dX8_same_24 : decode cX8_same 24 = .ok (.aload_n 0, 1) := by decide +kernel
theorem dX8_same_25 : decode cX8_same 25 = .ok (.getfield 44, 3) := by decide +kernel
theorem dX8_same_28 : decode cX8_same 28 = .ok (.iload_n 1, 1) := by decide +kernel
theorem dX8_same_29 : decode cX8_same 29 = .ok (.iaload, 1) := by decide +kernel
theorem dX8_same_30 : decode cX8_same 30 = .ok (.invokestatic 179, 3) := by decide +kernel
theorem dX8_same_33 : decode cX8_same 33 = .ok (.aload_n 0, 1) := by decide +kernel
theorem dX8_same_34 : decode cX8_same 34 = .ok (.getfield 44, 3) := by decide +kernel
theorem dX8_same_37 : decode cX8_same 37 = .ok (.iload_n 2, 1) := by decide +kernel
theorem dX8_same_38 : decode cX8_same 38 = .ok (.iaload, 1) := by decide +kernel
theorem dX8_same_39 : decode cX8_same 39 = .ok (.invokestatic 179, 3) := by decide +kernel
theorem dX8_same_42 : decode cX8_same 42 = .ok (.if_icmp .ne 7, 3) := by decide +kernel
theorem dX8_same_45 : decode cX8_same 45 = .ok (.iconst 1, 1) := by decide +kernel
theorem dX8_same_46 : decode cX8_same 46 = .ok (.goto 4, 3) := by decide +kernel
theorem dX8_same_49 : decode cX8_same 49 = .ok (.iconst 0, 1) := by decide +kernel
theorem dX8_same_50 : decode cX8_same 50 = .ok (.istore_n 3, 1) := by decide +kernel
theorem dX8_same_51 : decode cX8_same 51 = .ok (.iconst 0, 1) := by decide +kernel
theorem dX8_same_52 : decode cX8_same 52 = .ok (.istore 4, 2) := by decide +kernel
theorem dX8_same_54 : decode cX8_same 54 = .ok (.iload 4, 2) := by decide +kernel
theorem dX8_same_56 : decode cX8_same 56 = .ok (.aload_n 0, 1) := by decide +kernel
theorem dX8_same_57 : decode cX8_same 57 = .ok (.getfield 44, 3) := by decide +kernel
theorem dX8_same_60 : decode cX8_same 60 = .ok (.iload_n 1, 1) := by decide +kernel
theorem dX8_same_61 : decode cX8_same 61 = .ok (.iaload, 1) := by decide +kernel
theorem dX8_same_62 : decode cX8_same 62 = .ok (.invokestatic 179, 3) := by decide +kernel
theorem dX8_same_65 : decode cX8_same 65 = .ok (.if_icmp .ge 46, 3) := by decide +kernel
theorem dX8_same_68 : decode cX8_same 68 = .ok (.iload_n 3, 1) := by decide +kernel
theorem dX8_same_69 : decode cX8_same 69 = .ok (.ifCond .eq 42, 3) := by decide +kernel
theorem dX8_same_72 : decode cX8_same 72 = .ok (.aload_n 0, 1) := by decide +kernel
theorem dX8_same_73 : decode cX8_same 73 = .ok (.getfield 50, 3) := by decide +kernel
theorem dX8_same_76 : decode cX8_same 76 = .ok (.bipush 32, 2) := by decide +kernel
theorem dX8_same_78 : decode cX8_same 78 = .ok (.iload_n 1, 1) := by decide +kernel
theorem dX8_same_79 : decode cX8_same 79 = .ok (.imul, 1) := by decide +kernel
theorem dX8_same_80 : decode cX8_same 80 = .ok (.iload 4, 2) := by decide +kernel
theorem dX8_same_82 : decode cX8_same 82 = .ok (.iadd, 1) := by decide +kernel
theorem dX8_same_83 : decode cX8_same 83 = .ok (.iaload, 1) := by decide +kernel
theorem dX8_same_84 : decode cX8_same 84 = .ok (.aload_n 0, 1) := by decide +kernel
theorem dX8_same_85 : decode cX8_same 85 = .ok (.getfield 50, 3) := by decide +kernel
theorem dX8_same_88 : decode cX8_same 88 = .ok (.bipush 32, 2) := by decide +kernel
theorem dX8_same_90 : decode cX8_same 90 = .ok (.iload_n 2, 1) := by decide +kernel
theorem dX8_same_91 : decode cX8_same 91 = .ok (.imul, 1) := by decide +kernel
theorem dX8_same_92 : decode cX8_same 92 = .ok (.iload 4, 2) := by decide +kernel
theorem dX8_same_94 : decode cX8_same 94 = .ok (.iadd, 1) := by decide +kernel
theorem dX8_same_95 : decode cX8_same 95 = .ok (.iaload, 1) := by decide +kernel
theorem dX8_same_96 : decode cX8_same 96 = .ok (.if_icmp .ne 7, 3) := by decide +kernel
theorem dX8_same_99 : decode cX8_same 99 = .ok (.iconst 1, 1) := by decide +kernel
theorem dX8_same_100 : decode cX8_same 100 = .ok (.goto 4, 3) := by decide +kernel
theorem dX8_same_103 : decode cX8_same 103 = .ok (.iconst 0, 1) := by decide +kernel
theorem dX8_same_104 : decode cX8_same 104 = .ok (.istore_n 3, 1) := by decide +kernel
theorem dX8_same_105 : decode cX8_same 105 = .ok (.iinc 4 1, 3) := by decide +kernel
theorem dX8_same_108 : decode cX8_same 108 = .ok (.goto (-54), 3) := by decide +kernel
theorem dX8_same_111 : decode cX8_same 111 = .ok (.iload_n 3, 1) := by decide +kernel
theorem dX8_same_112 : decode cX8_same 112 = .ok (.ifCond .eq 7, 3) := by decide +kernel
theorem dX8_same_115 : decode cX8_same 115 = .ok (.iconst 1, 1) := by decide +kernel
theorem dX8_same_116 : decode cX8_same 116 = .ok (.goto 4, 3) := by decide +kernel
theorem dX8_same_119 : decode cX8_same 119 = .ok (.iconst 0, 1) := by decide +kernel
theorem dX8_same_120 : decode cX8_same 120 = .ok (.ireturn, 1) := by decide +kernel
end
section
theorem dX8_table_0 : decode cX8_table 0 = .ok (.aload_n 0, 1) := by decide +kernel
theorem dX8_table_1 : decode cX8_table 1 = .ok (.iload_n 1, 1) := by decide +kernel
theorem dX8_table_2 : decode cX8_table 2 = .ok (.iconst 0, 1) := by decide +kernel
theorem dX8_table_3 : decode cX8_table 3 = .ok (.bipush 63, 2) := by decide +kernel
theorem dX8_table_5 : decode cX8_table 5 = .ok (.invokestatic 146, 3) := by decide +kernel
theorem dX8_table_8 : decode cX8_table 8 = .ok (.ifCond .eq 7, 3) := by decide +kernel
theorem dX8_table_11 : decode cX8_table 11 = .ok (.iconst 0, 1) := by decide +kernel
theorem dX8_table_12 : decode cX8_table 12 = .ok (.goto 4, 3) := by decide +kernel
theorem dX8_table_15 : decode cX8_table 15 = .ok (.iconst 1, 1) := by decide +kernel
theorem dX8_table_16 : decode cX8_table 16 = .ok (.putfield 143, 3) := by decide +kernel
theorem dX8_table_19 : decode cX8_table 19 = .ok (.aload_n 0, 1) := by decide +kernel
theorem dX8_table_20 : decode cX8_table 20 = .ok (.getfield 143, 3) := by decide +kernel
theorem dX8_table_23 : decode cX8_table 23 = .ok (.iconst 1, 1) := by decide +kernel
theorem dX8_table_24 : decode cX8_table 24 = .ok (.if_icmp .ne 7, 3) := by decide +kernel
theorem dX8_table_27 : decode cX8_table 27 = .ok (.iconst 0, 1) := by decide +kernel
theorem dX8_table_28 : decode cX8_table 28 = .ok (.goto 9, 3) := by decide +kernel
theorem dX8_table_31 : decode cX8_table 31 = .ok (.aload_n 0, 1) := by decide +kernel
theorem dX8_table_32 : decode cX8_table 32 = .ok (.getfield 7, 3) := by decide +kernel
theorem dX8_table_35 : decode cX8_table 35 = .ok (.iload_n 1, 1) := by decide +kernel
theorem dX8_table_36 : decode cX8_table 36 = .ok (.iaload, 1) := by decide +kernel
theorem dX8_table_37 : decode cX8_table 37 = .ok (.ireturn, 1) := by decide +kernel
theorem dX8_isTree_0 : decode cX8_isTree 0 = .ok (.iload_n 0, 1) := by decide +kernel
theorem dX8_isTree_1 : decode cX8_isTree 1 = .ok (.iconst 0, 1) := by decide +kernel
theorem dX8_isTree_2 : decode cX8_isTree 2 = .ok (.iconst 3, 1) := by decide +kernel
theorem dX8_isTree_3 : decode cX8_isTree 3 = .ok (.invokestatic 146, 3) := by decide +kernel
theorem dX8_isTree_6 : decode cX8_isTree 6 = .ok (.ireturn, 1) := by decide +kernel
theorem dX8_layLeaf_0 : decode cX8_layLeaf 0 = .ok (.bipush 12, 2) := by decide +kernel
theorem dX8_layLeaf_2 : decode cX8_layLeaf 2 = .ok (.iload_n 1, 1) := by decide +kernel
theorem dX8_layLeaf_3 : decode cX8_layLeaf 3 = .ok (.imul, 1) := by decide +kernel
theorem dX8_layLeaf_4 : decode cX8_layLeaf 4 = .ok (.iload_n 2, 1) := by decide +kernel
theorem dX8_layLeaf_5 : decode cX8_layLeaf 5 = .ok (.iadd, 1) := by decide +kernel
theorem dX8_layLeaf_6 : decode cX8_layLeaf 6 = .ok (.istore 4, 2) := by decide +kernel
theorem dX8_layLeaf_8 : decode cX8_layLeaf 8 = .ok (.aload_n 0, 1) := by decide +kernel
theorem dX8_layLeaf_9 : decode cX8_layLeaf 9 = .ok (.getfield 77, 3) := by decide +kernel
theorem dX8_layLeaf_12 : decode cX8_layLeaf 12 = .ok (.iload 4, 2) := by decide +kernel
theorem dX8_layLeaf_14 : decode cX8_layLeaf 14 = .ok (.iload_n 3, 1) := by decide +kernel
theorem dX8_layLeaf_15 : decode cX8_layLeaf 15 = .ok (.iastore, 1) := by decide +kernel
theorem dX8_layLeaf_16 : decode cX8_layLeaf 16 = .ok (.aload_n 0, 1) := by decide +kernel
theorem dX8_layLeaf_17 : decode cX8_layLeaf 17 = .ok (.getfield 80, 3) := by decide +kernel
theorem dX8_layLeaf_20 : decode cX8_layLeaf 20 = .ok (.iload 4, 2) := by decide +kernel
theorem dX8_layLeaf_22 : decode cX8_layLeaf 22 = .ok (.aload_n 0, 1) := by decide +kernel
theorem dX8_layLeaf_23 : decode cX8_layLeaf 23 = .ok (.getfield 150, 3) := by decide +kernel
theorem dX8_layLeaf_26 : decode cX8_layLeaf 26 = .ok (.iastore, 1) := by decide +kernel
theorem dX8_layLeaf_27 : decode cX8_layLeaf 27 = .ok (.iconst 0, 1) := by decide +kernel
theorem dX8_layLeaf_28 : decode cX8_layLeaf 28 = .ok (.istore 5, 2) := by decide +kernel
theorem dX8_layLeaf_30 : decode cX8_layLeaf 30 = .ok (.iload 5, 2) := by decide +kernel
theorem dX8_layLeaf_32 : decode cX8_layLeaf 32 = .ok (.aload_n 0, 1) := by decide +kernel
theorem dX8_layLeaf_33 : decode cX8_layLeaf 33 = .ok (.getfield 150, 3) := by decide +kernel
theorem dX8_layLeaf_36 : decode cX8_layLeaf 36 = .ok (.if_icmp .ge 29, 3) := by decide +kernel
theorem dX8_layLeaf_39 : decode cX8_layLeaf 39 = .ok (.aload_n 0, 1) := by decide +kernel
theorem dX8_layLeaf_40 : decode cX8_layLeaf 40 = .ok (.getfield 83, 3) := by decide +kernel
theorem dX8_layLeaf_43 : decode cX8_layLeaf 43 = .ok (.bipush 40, 2) := by decide +kernel
theorem dX8_layLeaf_45 : decode cX8_layLeaf 45 = .ok (.iload 4, 2) := by decide +kernel
theorem dX8_layLeaf_47 : decode cX8_layLeaf 47 = .ok (.imul, 1) := by decide +kernel
theorem dX8_layLeaf_48 : decode cX8_layLeaf 48 = .ok (.iload 5, 2) := by decide +kernel
theorem dX8_layLeaf_50 : decode cX8_layLeaf 50 = .ok (.iadd, 1) := by decide +kernel
theorem dX8_layLeaf_51 : decode cX8_layLeaf 51 = .ok (.aload_n 0, 1) := by decide +kernel
theorem dX8_layLeaf_52 : decode cX8_layLeaf 52 = .ok (.getfield 38, 3) := by decide +kernel
theorem dX8_layLeaf_55 : decode cX8_layLeaf 55 = .ok (.iload 5, 2) := by decide +kernel
theorem dX8_layLeaf_57 : decode cX8_layLeaf 57 = .ok (.iaload, 1) := by decide +kernel
theorem dX8_layLeaf_58 : decode cX8_layLeaf 58 = .ok (.iastore, 1) := by decide +kernel
theorem dX8_layLeaf_59 : decode cX8_layLeaf 59 = .ok (.iinc 5 1, 3) := by decide +kernel
theorem dX8_layLeaf_62 : decode cX8_layLeaf 62 = .ok (.goto (-32), 3) := by decide +kernel
theorem dX8_layLeaf_65 : decode cX8_layLeaf 65 = .ok (.aload_n 0, 1) := by decide +kernel
theorem dX8_layLeaf_66 : decode cX8_layLeaf 66 = .ok (.iconst 0, 1) := by decide +kernel
theorem dX8_layLeaf_67 : decode cX8_layLeaf 67 = .ok (.putfield 150, 3) := by decide +kernel
theorem dX8_layLeaf_70 : decode cX8_layLeaf 70 = .ok (.return_, 1) := by decide +kernel
theorem dX8_leaf_0 : decode cX8_leaf 0 = .ok (.aload_n 0, 1) := by decide +kernel
theorem dX8_leaf_1 : decode cX8_leaf 1 = .ok (.iconst 0, 1) := by decide +kernel
theorem dX8_leaf_2 : decode cX8_leaf 2 = .ok (.putfield 143, 3) := by decide +kernel
theorem dX8_leaf_5 : decode cX8_leaf 5 = .ok (.iload_n 1, 1) := by decide +kernel
theorem dX8_leaf_6 : decode cX8_leaf 6 = .ok (.invokestatic 186, 3) := by decide +kernel
theorem dX8_leaf_9 : decode cX8_leaf 9 = .ok (.ifCond .eq 22, 3) := by decide +kernel
theorem dX8_leaf_12 : decode cX8_leaf 12 = .ok (.iload_n 2, 1) := by decide +kernel
theorem dX8_leaf_13 : decode cX8_leaf 13 = .ok (.iconst 0, 1) := by decide +kernel
theorem dX8_leaf_14 : decode cX8_leaf 14 = .ok (.bipush 7, 2) := by decide +kernel
theorem dX8_leaf_16 : decode cX8_leaf 16 = .ok (.invokestatic 146, 3) := by decide +kernel
theorem dX8_leaf_19 : decode cX8_leaf 19 = .ok (.ifCond .eq 12, 3) := by decide +kernel
theorem dX8_leaf_22 : decode cX8_leaf 22 = .ok (.aload_n 0, 1) := by decide +kernel
theorem dX8_leaf_23 : decode cX8_leaf 23 = .ok (.getfield 150, 3) := by decide +kernel
theorem dX8_leaf_26 : decode cX8_leaf 26 = .ok (.bipush 40, 2) := by decide +kernel
theorem dX8_leaf_28 : decode cX8_leaf 28 = .ok (.if_icmp .le 6, 3) := by decide +kernel
theorem dX8_leaf_31 : decode cX8_leaf 31 = .ok (.bipush (-102), 2) := by decide +kernel
theorem dX8_leaf_33 : decode cX8_leaf 33 = .ok (.ireturn, 1) := by decide +kernel
theorem dX8_leaf_34 : decode cX8_leaf 34 = .ok (.aload_n 0, 1) := by decide +kernel
theorem dX8_leaf_35 : decode cX8_leaf 35 = .ok (.getfield 74, 3) := by decide +kernel
theorem dX8_leaf_38 : decode cX8_leaf 38 = .ok (.iload_n 1, 1) := by decide +kernel
theorem dX8_leaf_39 : decode cX8_leaf 39 = .ok (.iaload, 1) := by decide +kernel
theorem dX8_leaf_40 : decode cX8_leaf 40 = .ok (.bipush 12, 2) := by decide +kernel
theorem dX8_leaf_42 : decode cX8_leaf 42 = .ok (.if_icmp .ne 6, 3) := by decide +kernel
theorem dX8_leaf_45 : decode cX8_leaf 45 = .ok (.bipush (-103), 2) := by decide +kernel
theorem dX8_leaf_47 : decode cX8_leaf 47 = .ok (.ireturn, 1) := by decide +kernel
theorem dX8_leaf_48 : decode cX8_leaf 48 = .ok (.aload_n 0, 1) := by decide +kernel
theorem dX8_leaf_49 : decode cX8_leaf 49 = .ok (.iload_n 1, 1) := by decide +kernel
theorem dX8_leaf_50 : decode cX8_leaf 50 = .ok (.aload_n 0, 1) := by decide +kernel
theorem dX8_leaf_51 : decode cX8_leaf 51 = .ok (.getfield 74, 3) := by decide +kernel
theorem dX8_leaf_54 : decode cX8_leaf 54 = .ok (.iload_n 1, 1) := by decide +kernel
theorem dX8_leaf_55 : decode cX8_leaf 55 = .ok (.iaload, 1) := by decide +kernel
theorem dX8_leaf_56 : decode cX8_leaf 56 = .ok (.iload_n 2, 1) := by decide +kernel
theorem dX8_leaf_57 : decode cX8_leaf 57 = .ok (.invokevirtual 189, 3) := by decide +kernel
theorem dX8_leaf_60 : decode cX8_leaf 60 = .ok (.aload_n 0, 1) := by decide +kernel
theorem dX8_leaf_61 : decode cX8_leaf 61 = .ok (.getfield 74, 3) := by decide +kernel
theorem dX8_leaf_64 : decode cX8_leaf 64 = .ok (.iload_n 1, 1) := by decide +kernel
theorem dX8_leaf_65 : decode cX8_leaf 65 = .ok (.dup2, 1) := by decide +kernel
theorem dX8_leaf_66 : decode cX8_leaf 66 = .ok (.iaload, 1) := by decide +kernel
theorem dX8_leaf_67 : decode cX8_leaf 67 = .ok (.iconst 1, 1) := by decide +kernel
theorem dX8_leaf_68 : decode cX8_leaf 68 = .ok (.iadd, 1) := by decide +kernel
theorem dX8_leaf_69 : decode cX8_leaf 69 = .ok (.iastore, 1) := by decide +kernel
theorem dX8_leaf_70 : decode cX8_leaf 70 = .ok (.aload_n 0, 1) := by decide +kernel
theorem dX8_leaf_71 : decode cX8_leaf 71 = .ok (.getfield 74, 3) := by decide +kernel
theorem dX8_leaf_74 : decode cX8_leaf 74 = .ok (.iload_n 1, 1) := by decide +kernel
theorem dX8_leaf_75 : decode cX8_leaf 75 = .ok (.iaload, 1) := by decide +kernel
theorem dX8_leaf_76 : decode cX8_leaf 76 = .ok (.ireturn, 1) := by decide +kernel
theorem dX8_change_0 : decode cX8_change 0 = .ok (.aload_n 0, 1) := by decide +kernel
theorem dX8_change_1 : decode cX8_change 1 = .ok (.iconst 0, 1) := by decide +kernel
theorem dX8_change_2 : decode cX8_change 2 = .ok (.putfield 143, 3) := by decide +kernel
theorem dX8_change_5 : decode cX8_change 5 = .ok (.iload_n 1, 1) := by decide +kernel
theorem dX8_change_6 : decode cX8_change 6 = .ok (.invokestatic 186, 3) := by decide +kernel
theorem dX8_change_9 : decode cX8_change 9 = .ok (.ifCond .ne 6, 3) := by decide +kernel
theorem dX8_change_12 : decode cX8_change 12 = .ok (.bipush (-102), 2) := by decide +kernel
theorem dX8_change_14 : decode cX8_change 14 = .ok (.ireturn, 1) := by decide +kernel
theorem dX8_change_15 : decode cX8_change 15 = .ok (.iload_n 2, 1) := by decide +kernel
theorem dX8_change_16 : decode cX8_change 16 = .ok (.iconst 0, 1) := by decide +kernel
theorem dX8_change_17 : decode cX8_change 17 = .ok (.aload_n 0, 1) := by decide +kernel
theorem dX8_change_18 : decode cX8_change 18 = .ok (.getfield 74, 3) := by decide +kernel
theorem dX8_change_21 : decode cX8_change 21 = .ok (.iload_n 1, 1) := by decide +kernel
theorem dX8_change_22 : decode cX8_change 22 = .ok (.iaload, 1) := by decide +kernel
theorem dX8_change_23 : decode cX8_change 23 = .ok (.iconst 1, 1) := by decide +kernel
theorem dX8_change_24 : decode cX8_change 24 = .ok (.isub, 1) := by decide +kernel
theorem dX8_change_25 : decode cX8_change 25 = .ok (.invokestatic 146, 3) := by decide +kernel
theorem dX8_change_28 : decode cX8_change 28 = .ok (.ifCond .ne 6, 3) := by decide +kernel
theorem dX8_change_31 : decode cX8_change 31 = .ok (.bipush (-101), 2) := by decide +kernel
theorem dX8_change_33 : decode cX8_change 33 = .ok (.ireturn, 1) := by decide +kernel
theorem dX8_change_34 : decode cX8_change 34 = .ok (.iload_n 3, 1) := by decide +kernel
theorem dX8_change_35 : decode cX8_change 35 = .ok (.iconst 0, 1) := by decide +kernel
theorem dX8_change_36 : decode cX8_change 36 = .ok (.bipush 7, 2) := by decide +kernel
theorem dX8_change_38 : decode cX8_change 38 = .ok (.invokestatic 146, 3) := by decide +kernel
theorem dX8_change_41 : decode cX8_change 41 = .ok (.ifCond .eq 12, 3) := by decide +kernel
theorem dX8_change_44 : decode cX8_change 44 = .ok (.aload_n 0, 1) := by decide +kernel
theorem dX8_change_45 : decode cX8_change 45 = .ok (.getfield 150, 3) := by decide +kernel
theorem dX8_change_48 : decode cX8_change 48 = .ok (.bipush 40, 2) := by decide +kernel
theorem dX8_change_50 : decode cX8_change 50 = .ok (.if_icmp .le 6, 3) := by decide +kernel
theorem dX8_change_53 : decode cX8_change 53 = .ok (.bipush (-102), 2) := by decide +kernel
theorem dX8_change_55 : decode cX8_change 55 = .ok (.ireturn, 1) := by decide +kernel
theorem dX8_change_56 : decode cX8_change 56 = .ok (.aload_n 0, 1) := by decide +kernel
theorem dX8_change_57 : decode cX8_change 57 = .ok (.getfield 77, 3) := by decide +kernel
theorem dX8_change_60 : decode cX8_change 60 = .ok (.bipush 12, 2) := by decide +kernel
theorem dX8_change_62 : decode cX8_change 62 = .ok (.iload_n 1, 1) := by decide +kernel
theorem dX8_change_63 : decode cX8_change 63 = .ok (.imul, 1) := by decide +kernel
theorem dX8_change_64 : decode cX8_change 64 = .ok (.iload_n 2, 1) := by decide +kernel
theorem dX8_change_65 : decode cX8_change 65 = .ok (.iadd, 1) := by decide +kernel
theorem dX8_change_66 : decode cX8_change 66 = .ok (.iaload, 1) := by decide +kernel
theorem dX8_change_67 : decode cX8_change 67 = .ok (.istore 4, 2) := by decide +kernel
theorem dX8_change_69 : decode cX8_change 69 = .ok (.aload_n 0, 1) := by decide +kernel
theorem dX8_change_70 : decode cX8_change 70 = .ok (.iload_n 1, 1) := by decide +kernel
theorem dX8_change_71 : decode cX8_change 71 = .ok (.iload_n 2, 1) := by decide +kernel
theorem dX8_change_72 : decode cX8_change 72 = .ok (.iload_n 3, 1) := by decide +kernel
theorem dX8_change_73 : decode cX8_change 73 = .ok (.invokevirtual 189, 3) := by decide +kernel
theorem dX8_change_76 : decode cX8_change 76 = .ok (.iload 4, 2) := by decide +kernel
theorem dX8_change_78 : decode cX8_change 78 = .ok (.ireturn, 1) := by decide +kernel
theorem dX8_putWord_0 : decode cX8_putWord 0 = .ok (.aload_n 0, 1) := by decide +kernel
theorem dX8_putWord_1 : decode cX8_putWord 1 = .ok (.iload_n 1, 1) := by decide +kernel
theorem dX8_putWord_2 : decode cX8_putWord 2 = .ok (.bipush 24, 2) := by decide +kernel
theorem dX8_putWord_4 : decode cX8_putWord 4 = .ok (.iushr, 1) := by decide +kernel
theorem dX8_putWord_5 : decode cX8_putWord 5 = .ok (.invokevirtual 128, 3) := by decide +kernel
theorem dX8_putWord_8 : decode cX8_putWord 8 = .ok (.aload_n 0, 1) := by decide +kernel
theorem dX8_putWord_9 : decode cX8_putWord 9 = .ok (.iload_n 1, 1) := by decide +kernel
theorem dX8_putWord_10 : decode cX8_putWord 10 = .ok (.bipush 16, 2) := by decide +kernel
theorem dX8_putWord_12 : decode cX8_putWord 12 = .ok (.iushr, 1) := by decide +kernel
theorem dX8_putWord_13 : decode cX8_putWord 13 = .ok (.sipush 255, 3) := by decide +kernel
theorem dX8_putWord_16 : decode cX8_putWord 16 = .ok (.iand, 1) := by decide +kernel
theorem dX8_putWord_17 : decode cX8_putWord 17 = .ok (.invokevirtual 128, 3) := by decide +kernel
theorem dX8_putWord_20 : decode cX8_putWord 20 = .ok (.aload_n 0, 1) := by decide +kernel
theorem dX8_putWord_21 : decode cX8_putWord 21 = .ok (.iload_n 1, 1) := by decide +kernel
theorem dX8_putWord_22 : decode cX8_putWord 22 = .ok (.bipush 8, 2) := by decide +kernel
theorem dX8_putWord_24 : decode cX8_putWord 24 = .ok (.iushr, 1) := by decide +kernel
theorem dX8_putWord_25 : decode cX8_putWord 25 = .ok (.sipush 255, 3) := by decide +kernel
theorem dX8_putWord_28 : decode cX8_putWord 28 = .ok (.iand, 1) := by decide +kernel
theorem dX8_putWord_29 : decode cX8_putWord 29 = .ok (.invokevirtual 128, 3) := by decide +kernel
theorem dX8_putWord_32 : decode cX8_putWord 32 = .ok (.aload_n 0, 1) := by decide +kernel
theorem dX8_putWord_33 : decode cX8_putWord 33 = .ok (.iload_n 1, 1) := by decide +kernel
theorem dX8_putWord_34 : decode cX8_putWord 34 = .ok (.sipush 255, 3) := by decide +kernel
theorem dX8_putWord_37 : decode cX8_putWord 37 = .ok (.iand, 1) := by decide +kernel
theorem dX8_putWord_38 : decode cX8_putWord 38 = .ok (.invokevirtual 128, 3) := by decide +kernel
theorem dX8_putWord_41 : decode cX8_putWord 41 = .ok (.return_, 1) := by decide +kernel
theorem dX8_toLevel_0 : decode cX8_toLevel 0 = .ok (.iconst 0, 1) := by decide +kernel
theorem dX8_toLevel_1 : decode cX8_toLevel 1 = .ok (.istore_n 2, 1) := by decide +kernel
theorem dX8_toLevel_2 : decode cX8_toLevel 2 = .ok (.iload_n 2, 1) := by decide +kernel
theorem dX8_toLevel_3 : decode cX8_toLevel 3 = .ok (.bipush 8, 2) := by decide +kernel
theorem dX8_toLevel_5 : decode cX8_toLevel 5 = .ok (.if_icmp .ge 26, 3) := by decide +kernel
theorem dX8_toLevel_8 : decode cX8_toLevel 8 = .ok (.aload_n 0, 1) := by decide +kernel
theorem dX8_toLevel_9 : decode cX8_toLevel 9 = .ok (.getfield 86, 3) := by decide +kernel
theorem dX8_toLevel_12 : decode cX8_toLevel 12 = .ok (.bipush 8, 2) := by decide +kernel
theorem dX8_toLevel_14 : decode cX8_toLevel 14 = .ok (.iload_n 1, 1) := by decide +kernel
theorem dX8_toLevel_15 : decode cX8_toLevel 15 = .ok (.imul, 1) := by decide +kernel
theorem dX8_toLevel_16 : decode cX8_toLevel 16 = .ok (.iload_n 2, 1) := by decide +kernel
theorem dX8_toLevel_17 : decode cX8_toLevel 17 = .ok (.iadd, 1) := by decide +kernel
theorem dX8_toLevel_18 : decode cX8_toLevel 18 = .ok (.aload_n 0, 1) := by decide +kernel
theorem dX8_toLevel_19 : decode cX8_toLevel 19 = .ok (.getfield 32, 3) := by decide +kernel
theorem dX8_toLevel_22 : decode cX8_toLevel 22 = .ok (.iload_n 2, 1) := by decide +kernel
theorem dX8_toLevel_23 : decode cX8_toLevel 23 = .ok (.iaload, 1) := by decide +kernel
theorem dX8_toLevel_24 : decode cX8_toLevel 24 = .ok (.iastore, 1) := by decide +kernel
theorem dX8_toLevel_25 : decode cX8_toLevel 25 = .ok (.iinc 2 1, 3) := by decide +kernel
theorem dX8_toLevel_28 : decode cX8_toLevel 28 = .ok (.goto (-26), 3) := by decide +kernel
theorem dX8_toLevel_31 : decode cX8_toLevel 31 = .ok (.return_, 1) := by decide +kernel
theorem dX8_layLevel_0 : decode cX8_layLevel 0 = .ok (.iconst 0, 1) := by decide +kernel
theorem dX8_layLevel_1 : decode cX8_layLevel 1 = .ok (.istore_n 2, 1) := by decide +kernel
theorem dX8_layLevel_2 : decode cX8_layLevel 2 = .ok (.iload_n 2, 1) := by decide +kernel
theorem dX8_layLevel_3 : decode cX8_layLevel 3 = .ok (.aload_n 0, 1) := by decide +kernel
theorem dX8_layLevel_4 : decode cX8_layLevel 4 = .ok (.getfield 74, 3) := by decide +kernel
theorem dX8_layLevel_7 : decode cX8_layLevel 7 = .ok (.iload_n 1, 1) := by decide +kernel
theorem dX8_layLevel_8 : decode cX8_layLevel 8 = .ok (.iaload, 1) := by decide +kernel
theorem dX8_layLevel_9 : decode cX8_layLevel 9 = .ok (.if_icmp .ge 92, 3) := by decide +kernel
theorem dX8_layLevel_12 : decode cX8_layLevel 12 = .ok (.bipush 12, 2) := by decide +kernel
theorem dX8_layLevel_14 : decode cX8_layLevel 14 = .ok (.iload_n 1, 1) := by decide +kernel
theorem dX8_layLevel_15 : decode cX8_layLevel 15 = .ok (.imul, 1) := by decide +kernel
theorem dX8_layLevel_16 : decode cX8_layLevel 16 = .ok (.iload_n 2, 1) := by decide +kernel
theorem dX8_layLevel_17 : decode cX8_layLevel 17 = .ok (.iadd, 1) := by decide +kernel
theorem dX8_layLevel_18 : decode cX8_layLevel 18 = .ok (.istore_n 3, 1) := by decide +kernel
theorem dX8_layLevel_19 : decode cX8_layLevel 19 = .ok (.aload_n 0, 1) := by decide +kernel
theorem dX8_layLevel_20 : decode cX8_layLevel 20 = .ok (.iconst 0, 1) := by decide +kernel
theorem dX8_layLevel_21 : decode cX8_layLevel 21 = .ok (.putfield 122, 3) := by decide +kernel
theorem dX8_layLevel_24 : decode cX8_layLevel 24 = .ok (.aload_n 0, 1) := by decide +kernel
theorem dX8_layLevel_25 : decode cX8_layLevel 25 = .ok (.iconst 0, 1) := by decide +kernel
theorem dX8_layLevel_26 : decode cX8_layLevel 26 = .ok (.invokevirtual 128, 3) := by decide +kernel
theorem dX8_layLevel_29 : decode cX8_layLevel 29 = .ok (.aload_n 0, 1) := by decide +kernel
theorem dX8_layLevel_30 : decode cX8_layLevel 30 = .ok (.aload_n 0, 1) := by decide +kernel
theorem dX8_layLevel_31 : decode cX8_layLevel 31 = .ok (.getfield 77, 3) := by decide +kernel
theorem dX8_layLevel_34 : decode cX8_layLevel 34 = .ok (.iload_n 3, 1) := by decide +kernel
theorem dX8_layLevel_35 : decode cX8_layLevel 35 = .ok (.iaload, 1) := by decide +kernel
theorem dX8_layLevel_36 : decode cX8_layLevel 36 = .ok (.invokevirtual 128, 3) := by decide +kernel
theorem dX8_layLevel_39 : decode cX8_layLevel 39 = .ok (.aload_n 0, 1) := by decide +kernel
theorem dX8_layLevel_40 : decode cX8_layLevel 40 = .ok (.aload_n 0, 1) := by decide +kernel
theorem dX8_layLevel_41 : decode cX8_layLevel 41 = .ok (.getfield 80, 3) := by decide +kernel
theorem dX8_layLevel_44 : decode cX8_layLevel 44 = .ok (.iload_n 3, 1) := by decide +kernel
theorem dX8_layLevel_45 : decode cX8_layLevel 45 = .ok (.iaload, 1) := by decide +kernel
theorem dX8_layLevel_46 : decode cX8_layLevel 46 = .ok (.invokevirtual 128, 3) := by decide +kernel
theorem dX8_layLevel_49 : decode cX8_layLevel 49 = .ok (.iconst 0, 1) := by decide +kernel
theorem dX8_layLevel_50 : decode cX8_layLevel 50 = .ok (.istore 4, 2) := by decide +kernel
theorem dX8_layLevel_52 : decode cX8_layLevel 52 = .ok (.iload 4, 2) := by decide +kernel
theorem dX8_layLevel_54 : decode cX8_layLevel 54 = .ok (.aload_n 0, 1) := by decide +kernel
theorem dX8_layLevel_55 : decode cX8_layLevel 55 = .ok (.getfield 80, 3) := by decide +kernel
theorem dX8_layLevel_58 : decode cX8_layLevel 58 = .ok (.iload_n 3, 1) := by decide +kernel
theorem dX8_layLevel_59 : decode cX8_layLevel 59 = .ok (.iaload, 1) := by decide +kernel
theorem dX8_layLevel_60 : decode cX8_layLevel 60 = .ok (.if_icmp .ge 25, 3) := by decide +kernel
theorem dX8_layLevel_63 : decode cX8_layLevel 63 = .ok (.aload_n 0, 1) := by decide +kernel
theorem dX8_layLevel_64 : decode cX8_layLevel 64 = .ok (.aload_n 0, 1) := by decide +kernel
theorem dX8_layLevel_65 : decode cX8_layLevel 65 = .ok (.getfield 83, 3) := by decide +kernel
theorem dX8_layLevel_68 : decode cX8_layLevel 68 = .ok (.bipush 40, 2) := by decide +kernel
theorem dX8_layLevel_70 : decode cX8_layLevel 70 = .ok (.iload_n 3, 1) := by decide +kernel
theorem dX8_layLevel_71 : decode cX8_layLevel 71 = .ok (.imul, 1) := by decide +kernel
theorem dX8_layLevel_72 : decode cX8_layLevel 72 = .ok (.iload 4, 2) := by decide +kernel
theorem dX8_layLevel_74 : decode cX8_layLevel 74 = .ok (.iadd, 1) := by decide +kernel
theorem dX8_layLevel_75 : decode cX8_layLevel 75 = .ok (.iaload, 1) := by decide +kernel
theorem dX8_layLevel_76 : decode cX8_layLevel 76 = .ok (.invokevirtual 128, 3) := by decide +kernel
theorem dX8_layLevel_79 : decode cX8_layLevel 79 = .ok (.iinc 4 1, 3) := by decide +kernel
theorem dX8_layLevel_82 : decode cX8_layLevel 82 = .ok (.goto (-30), 3) := by decide +kernel
theorem dX8_layLevel_85 : decode cX8_layLevel 85 = .ok (.aload_n 0, 1) := by decide +kernel
theorem dX8_layLevel_86 : decode cX8_layLevel 86 = .ok (.iconst 0, 1) := by decide +kernel
theorem dX8_layLevel_87 : decode cX8_layLevel 87 = .ok (.invokevirtual 162, 3) := by decide +kernel
theorem dX8_layLevel_90 : decode cX8_layLevel 90 = .ok (.aload_n 0, 1) := by decide +kernel
theorem dX8_layLevel_91 : decode cX8_layLevel 91 = .ok (.iload_n 2, 1) := by decide +kernel
theorem dX8_layLevel_92 : decode cX8_layLevel 92 = .ok (.invokevirtual 193, 3) := by decide +kernel
theorem dX8_layLevel_95 : decode cX8_layLevel 95 = .ok (.iinc 2 1, 3) := by decide +kernel
theorem dX8_layLevel_98 : decode cX8_layLevel 98 = .ok (.goto (-96), 3) := by decide +kernel
theorem dX8_layLevel_101 : decode cX8_layLevel 101 = .ok (.return_, 1) := by decide +kernel
theorem dX8_rise_0 : decode cX8_rise 0 = .ok (.iconst 0, 1) := by decide +kernel
theorem dX8_rise_1 : decode cX8_rise 1 = .ok (.istore_n 2, 1) := by decide +kernel
theorem dX8_rise_2 : decode cX8_rise 2 = .ok (.iload_n 2, 1) := by decide +kernel
theorem dX8_rise_3 : decode cX8_rise 3 = .ok (.iconst 1, 1) := by decide +kernel
theorem dX8_rise_4 : decode cX8_rise 4 = .ok (.iadd, 1) := by decide +kernel
theorem dX8_rise_5 : decode cX8_rise 5 = .ok (.iload_n 1, 1) := by decide +kernel
theorem dX8_rise_6 : decode cX8_rise 6 = .ok (.if_icmp .ge 60, 3) := by decide +kernel
theorem dX8_rise_9 : decode cX8_rise 9 = .ok (.aload_n 0, 1) := by decide +kernel
theorem dX8_rise_10 : decode cX8_rise 10 = .ok (.iconst 0, 1) := by decide +kernel
theorem dX8_rise_11 : decode cX8_rise 11 = .ok (.putfield 122, 3) := by decide +kernel
theorem dX8_rise_14 : decode cX8_rise 14 = .ok (.aload_n 0, 1) := by decide +kernel
theorem dX8_rise_15 : decode cX8_rise 15 = .ok (.iconst 1, 1) := by decide +kernel
theorem dX8_rise_16 : decode cX8_rise 16 = .ok (.invokevirtual 128, 3) := by decide +kernel
theorem dX8_rise_19 : decode cX8_rise 19 = .ok (.iconst 0, 1) := by decide +kernel
theorem dX8_rise_20 : decode cX8_rise 20 = .ok (.istore_n 3, 1) := by decide +kernel
theorem dX8_rise_21 : decode cX8_rise 21 = .ok (.iload_n 3, 1) := by decide +kernel
theorem dX8_rise_22 : decode cX8_rise 22 = .ok (.bipush 16, 2) := by decide +kernel
theorem dX8_rise_24 : decode cX8_rise 24 = .ok (.if_icmp .ge 24, 3) := by decide +kernel
theorem dX8_rise_27 : decode cX8_rise 27 = .ok (.aload_n 0, 1) := by decide +kernel
theorem dX8_rise_28 : decode cX8_rise 28 = .ok (.aload_n 0, 1) := by decide +kernel
theorem dX8_rise_29 : decode cX8_rise 29 = .ok (.getfield 86, 3) := by decide +kernel
theorem dX8_rise_32 : decode cX8_rise 32 = .ok (.bipush 8, 2) := by decide +kernel
theorem dX8_rise_34 : decode cX8_rise 34 = .ok (.iload_n 2, 1) := by decide +kernel
theorem dX8_rise_35 : decode cX8_rise 35 = .ok (.imul, 1) := by decide +kernel
theorem dX8_rise_36 : decode cX8_rise 36 = .ok (.iload_n 3, 1) := by decide +kernel
theorem dX8_rise_37 : decode cX8_rise 37 = .ok (.iadd, 1) := by decide +kernel
theorem dX8_rise_38 : decode cX8_rise 38 = .ok (.iaload, 1) := by decide +kernel
theorem dX8_rise_39 : decode cX8_rise 39 = .ok (.invokevirtual 196, 3) := by decide +kernel
theorem dX8_rise_42 : decode cX8_rise 42 = .ok (.iinc 3 1, 3) := by decide +kernel
theorem dX8_rise_45 : decode cX8_rise 45 = .ok (.goto (-24), 3) := by decide +kernel
theorem dX8_rise_48 : decode cX8_rise 48 = .ok (.aload_n 0, 1) := by decide +kernel
theorem dX8_rise_49 : decode cX8_rise 49 = .ok (.iconst 0, 1) := by decide +kernel
theorem dX8_rise_50 : decode cX8_rise 50 = .ok (.invokevirtual 162, 3) := by decide +kernel
theorem dX8_rise_53 : decode cX8_rise 53 = .ok (.aload_n 0, 1) := by decide +kernel
theorem dX8_rise_54 : decode cX8_rise 54 = .ok (.iload_n 2, 1) := by decide +kernel
theorem dX8_rise_55 : decode cX8_rise 55 = .ok (.iconst 2, 1) := by decide +kernel
theorem dX8_rise_56 : decode cX8_rise 56 = .ok (.idiv, 1) := by decide +kernel
theorem dX8_rise_57 : decode cX8_rise 57 = .ok (.invokevirtual 193, 3) := by decide +kernel
theorem dX8_rise_60 : decode cX8_rise 60 = .ok (.iinc 2 2, 3) := by decide +kernel
theorem dX8_rise_63 : decode cX8_rise 63 = .ok (.goto (-61), 3) := by decide +kernel
theorem dX8_rise_66 : decode cX8_rise 66 = .ok (.iconst 0, 1) := by decide +kernel
theorem dX8_rise_67 : decode cX8_rise 67 = .ok (.istore_n 2, 1) := by decide +kernel
theorem dX8_rise_68 : decode cX8_rise 68 = .ok (.iload_n 1, 1) := by decide +kernel
theorem dX8_rise_69 : decode cX8_rise 69 = .ok (.iconst 2, 1) := by decide +kernel
theorem dX8_rise_70 : decode cX8_rise 70 = .ok (.irem, 1) := by decide +kernel
theorem dX8_rise_71 : decode cX8_rise 71 = .ok (.iconst 1, 1) := by decide +kernel
theorem dX8_rise_72 : decode cX8_rise 72 = .ok (.if_icmp .ne 41, 3) := by decide +kernel
theorem dX8_rise_75 : decode cX8_rise 75 = .ok (.iload_n 2, 1) := by decide +kernel
theorem dX8_rise_76 : decode cX8_rise 76 = .ok (.bipush 8, 2) := by decide +kernel
theorem dX8_rise_78 : decode cX8_rise 78 = .ok (.if_icmp .ge 35, 3) := by decide +kernel
theorem dX8_rise_81 : decode cX8_rise 81 = .ok (.aload_n 0, 1) := by decide +kernel
theorem dX8_rise_82 : decode cX8_rise 82 = .ok (.getfield 86, 3) := by decide +kernel
theorem dX8_rise_85 : decode cX8_rise 85 = .ok (.bipush 8, 2) := by decide +kernel
theorem dX8_rise_87 : decode cX8_rise 87 = .ok (.iload_n 1, 1) := by decide +kernel
theorem dX8_rise_88 : decode cX8_rise 88 = .ok (.iconst 2, 1) := by decide +kernel
theorem dX8_rise_89 : decode cX8_rise 89 = .ok (.idiv, 1) := by decide +kernel
theorem dX8_rise_90 : decode cX8_rise 90 = .ok (.imul, 1) := by decide +kernel
theorem dX8_rise_91 : decode cX8_rise 91 = .ok (.iload_n 2, 1) := by decide +kernel
theorem dX8_rise_92 : decode cX8_rise 92 = .ok (.iadd, 1) := by decide +kernel
theorem dX8_rise_93 : decode cX8_rise 93 = .ok (.aload_n 0, 1) := by decide +kernel
theorem dX8_rise_94 : decode cX8_rise 94 = .ok (.getfield 86, 3) := by decide +kernel
theorem dX8_rise_97 : decode cX8_rise 97 = .ok (.bipush 8, 2) := by decide +kernel
theorem dX8_rise_99 : decode cX8_rise 99 = .ok (.iload_n 1, 1) := by decide +kernel
theorem dX8_rise_100 : decode cX8_rise 100 = .ok (.iconst 1, 1) := by decide +kernel
theorem dX8_rise_101 : decode cX8_rise 101 = .ok (.isub, 1) := by decide +kernel
theorem dX8_rise_102 : decode cX8_rise 102 = .ok (.imul, 1) := by decide +kernel
theorem dX8_rise_103 : decode cX8_rise 103 = .ok (.iload_n 2, 1) := by decide +kernel
theorem dX8_rise_104 : decode cX8_rise 104 = .ok (.iadd, 1) := by decide +kernel
theorem dX8_rise_105 : decode cX8_rise 105 = .ok (.iaload, 1) := by decide +kernel
theorem dX8_rise_106 : decode cX8_rise 106 = .ok (.iastore, 1) := by decide +kernel
theorem dX8_rise_107 : decode cX8_rise 107 = .ok (.iinc 2 1, 3) := by decide +kernel
theorem dX8_rise_110 : decode cX8_rise 110 = .ok (.goto (-42), 3) := by decide +kernel
theorem dX8_rise_113 : decode cX8_rise 113 = .ok (.iload_n 1, 1) := by decide +kernel
theorem dX8_rise_114 : decode cX8_rise 114 = .ok (.iconst 1, 1) := by decide +kernel
theorem dX8_rise_115 : decode cX8_rise 115 = .ok (.iadd, 1) := by decide +kernel
theorem dX8_rise_116 : decode cX8_rise 116 = .ok (.iconst 2, 1) := by decide +kernel
theorem dX8_rise_117 : decode cX8_rise 117 = .ok (.idiv, 1) := by decide +kernel
theorem dX8_rise_118 : decode cX8_rise 118 = .ok (.ireturn, 1) := by decide +kernel
theorem dX8_workRoot_0 : decode cX8_workRoot 0 = .ok (.aload_n 0, 1) := by decide +kernel
theorem dX8_workRoot_1 : decode cX8_workRoot 1 = .ok (.iconst 0, 1) := by decide +kernel
theorem dX8_workRoot_2 : decode cX8_workRoot 2 = .ok (.putfield 122, 3) := by decide +kernel
theorem dX8_workRoot_5 : decode cX8_workRoot 5 = .ok (.aload_n 0, 1) := by decide +kernel
theorem dX8_workRoot_6 : decode cX8_workRoot 6 = .ok (.iconst 0, 1) := by decide +kernel
theorem dX8_workRoot_7 : decode cX8_workRoot 7 = .ok (.putfield 137, 3) := by decide +kernel
theorem dX8_workRoot_10 : decode cX8_workRoot 10 = .ok (.aload_n 0, 1) := by decide +kernel
theorem dX8_workRoot_11 : decode cX8_workRoot 11 = .ok (.iconst 2, 1) := by decide +kernel
theorem dX8_workRoot_12 : decode cX8_workRoot 12 = .ok (.invokevirtual 128, 3) := by decide +kernel
theorem dX8_workRoot_15 : decode cX8_workRoot 15 = .ok (.aload_n 0, 1) := by decide +kernel
theorem dX8_workRoot_16 : decode cX8_workRoot 16 = .ok (.iload_n 1, 1) := by decide +kernel
theorem dX8_workRoot_17 : decode cX8_workRoot 17 = .ok (.invokevirtual 128, 3) := by decide +kernel
theorem dX8_workRoot_20 : decode cX8_workRoot 20 = .ok (.iconst 0, 1) := by decide +kernel
theorem dX8_workRoot_21 : decode cX8_workRoot 21 = .ok (.istore_n 2, 1) := by decide +kernel
theorem dX8_workRoot_22 : decode cX8_workRoot 22 = .ok (.iload_n 2, 1) := by decide +kernel
theorem dX8_workRoot_23 : decode cX8_workRoot 23 = .ok (.bipush 8, 2) := by decide +kernel
theorem dX8_workRoot_25 : decode cX8_workRoot 25 = .ok (.if_icmp .ge 27, 3) := by decide +kernel
theorem dX8_workRoot_28 : decode cX8_workRoot 28 = .ok (.aload_n 0, 1) := by decide +kernel
theorem dX8_workRoot_29 : decode cX8_workRoot 29 = .ok (.iload_n 1, 1) := by decide +kernel
theorem dX8_workRoot_30 : decode cX8_workRoot 30 = .ok (.ifCond .ne 7, 3) := by decide +kernel
theorem dX8_workRoot_33 : decode cX8_workRoot 33 = .ok (.iconst 0, 1) := by decide +kernel
theorem dX8_workRoot_34 : decode cX8_workRoot 34 = .ok (.goto 9, 3) := by decide +kernel
theorem dX8_workRoot_37 : decode cX8_workRoot 37 = .ok (.aload_n 0, 1) := by decide +kernel
theorem dX8_workRoot_38 : decode cX8_workRoot 38 = .ok (.getfield 86, 3) := by decide +kernel
theorem dX8_workRoot_41 : decode cX8_workRoot 41 = .ok (.iload_n 2, 1) := by decide +kernel
theorem dX8_workRoot_42 : decode cX8_workRoot 42 = .ok (.iaload, 1) := by decide +kernel
theorem dX8_workRoot_43 : decode cX8_workRoot 43 = .ok (.invokevirtual 196, 3) := by decide +kernel
theorem dX8_workRoot_46 : decode cX8_workRoot 46 = .ok (.iinc 2 1, 3) := by decide +kernel
theorem dX8_workRoot_49 : decode cX8_workRoot 49 = .ok (.goto (-27), 3) := by decide +kernel
theorem dX8_workRoot_52 : decode cX8_workRoot 52 = .ok (.aload_n 0, 1) := by decide +kernel
theorem dX8_workRoot_53 : decode cX8_workRoot 53 = .ok (.iconst 0, 1) := by decide +kernel
theorem dX8_workRoot_54 : decode cX8_workRoot 54 = .ok (.invokevirtual 162, 3) := by decide +kernel
theorem dX8_workRoot_57 : decode cX8_workRoot 57 = .ok (.return_, 1) := by decide +kernel
theorem dX8_root_0 : decode cX8_root 0 = .ok (.aload_n 0, 1) := by decide +kernel
theorem dX8_root_1 : decode cX8_root 1 = .ok (.iconst 0, 1) := by decide +kernel
theorem dX8_root_2 : decode cX8_root 2 = .ok (.putfield 143, 3) := by decide +kernel
theorem dX8_root_5 : decode cX8_root 5 = .ok (.iload_n 1, 1) := by decide +kernel
theorem dX8_root_6 : decode cX8_root 6 = .ok (.invokestatic 186, 3) := by decide +kernel
theorem dX8_root_9 : decode cX8_root 9 = .ok (.ifCond .ne 6, 3) := by decide +kernel
theorem dX8_root_12 : decode cX8_root 12 = .ok (.bipush (-102), 2) := by decide +kernel
theorem dX8_root_14 : decode cX8_root 14 = .ok (.ireturn, 1) := by decide +kernel
theorem dX8_root_15 : decode cX8_root 15 = .ok (.aload_n 0, 1) := by decide +kernel
theorem dX8_root_16 : decode cX8_root 16 = .ok (.getfield 156, 3) := by decide +kernel
theorem dX8_root_19 : decode cX8_root 19 = .ok (.bipush 60, 2) := by decide +kernel
theorem dX8_root_21 : decode cX8_root 21 = .ok (.if_icmp .ne 6, 3) := by decide +kernel
theorem dX8_root_24 : decode cX8_root 24 = .ok (.bipush (-103), 2) := by decide +kernel
theorem dX8_root_26 : decode cX8_root 26 = .ok (.ireturn, 1) := by decide +kernel
theorem dX8_root_27 : decode cX8_root 27 = .ok (.aload_n 0, 1) := by decide +kernel
theorem dX8_root_28 : decode cX8_root 28 = .ok (.iload_n 1, 1) := by decide +kernel
theorem dX8_root_29 : decode cX8_root 29 = .ok (.invokevirtual 199, 3) := by decide +kernel
theorem dX8_root_32 : decode cX8_root 32 = .ok (.aload_n 0, 1) := by decide +kernel
theorem dX8_root_33 : decode cX8_root 33 = .ok (.getfield 74, 3) := by decide +kernel
theorem dX8_root_36 : decode cX8_root 36 = .ok (.iload_n 1, 1) := by decide +kernel
theorem dX8_root_37 : decode cX8_root 37 = .ok (.iaload, 1) := by decide +kernel
theorem dX8_root_38 : decode cX8_root 38 = .ok (.istore_n 2, 1) := by decide +kernel
theorem dX8_root_39 : decode cX8_root 39 = .ok (.iload_n 2, 1) := by decide +kernel
theorem dX8_root_40 : decode cX8_root 40 = .ok (.iconst 1, 1) := by decide +kernel
theorem dX8_root_41 : decode cX8_root 41 = .ok (.if_icmp .le 12, 3) := by decide +kernel
theorem dX8_root_44 : decode cX8_root 44 = .ok (.aload_n 0, 1) := by decide +kernel
theorem dX8_root_45 : decode cX8_root 45 = .ok (.iload_n 2, 1) := by decide +kernel
theorem dX8_root_46 : decode cX8_root 46 = .ok (.invokevirtual 202, 3) := by decide +kernel
theorem dX8_root_49 : decode cX8_root 49 = .ok (.istore_n 2, 1) := by decide +kernel
theorem dX8_root_50 : decode cX8_root 50 = .ok (.goto (-11), 3) := by decide +kernel
theorem dX8_root_53 : decode cX8_root 53 = .ok (.aload_n 0, 1) := by decide +kernel
theorem dX8_root_54 : decode cX8_root 54 = .ok (.aload_n 0, 1) := by decide +kernel
theorem dX8_root_55 : decode cX8_root 55 = .ok (.getfield 74, 3) := by decide +kernel
theorem dX8_root_58 : decode cX8_root 58 = .ok (.iload_n 1, 1) := by decide +kernel
theorem dX8_root_59 : decode cX8_root 59 = .ok (.iaload, 1) := by decide +kernel
theorem dX8_root_60 : decode cX8_root 60 = .ok (.invokevirtual 205, 3) := by decide +kernel
theorem dX8_root_63 : decode cX8_root 63 = .ok (.aload_n 0, 1) := by decide +kernel
theorem dX8_root_64 : decode cX8_root 64 = .ok (.iconst 0, 1) := by decide +kernel
theorem dX8_root_65 : decode cX8_root 65 = .ok (.invokevirtual 166, 3) := by decide +kernel
theorem dX8_root_68 : decode cX8_root 68 = .ok (.ireturn, 1) := by decide +kernel
theorem dX8_drop_0 : decode cX8_drop 0 = .ok (.aload_n 0, 1) := by decide +kernel
theorem dX8_drop_1 : decode cX8_drop 1 = .ok (.iconst 0, 1) := by decide +kernel
theorem dX8_drop_2 : decode cX8_drop 2 = .ok (.putfield 143, 3) := by decide +kernel
theorem dX8_drop_5 : decode cX8_drop 5 = .ok (.iload_n 1, 1) := by decide +kernel
theorem dX8_drop_6 : decode cX8_drop 6 = .ok (.invokestatic 186, 3) := by decide +kernel
theorem dX8_drop_9 : decode cX8_drop 9 = .ok (.ifCond .ne 6, 3) := by decide +kernel
theorem dX8_drop_12 : decode cX8_drop 12 = .ok (.bipush (-102), 2) := by decide +kernel
theorem dX8_drop_14 : decode cX8_drop 14 = .ok (.ireturn, 1) := by decide +kernel
theorem dX8_drop_15 : decode cX8_drop 15 = .ok (.aload_n 0, 1) := by decide +kernel
theorem dX8_drop_16 : decode cX8_drop 16 = .ok (.getfield 74, 3) := by decide +kernel
theorem dX8_drop_19 : decode cX8_drop 19 = .ok (.iload_n 1, 1) := by decide +kernel
theorem dX8_drop_20 : decode cX8_drop 20 = .ok (.iaload, 1) := by decide +kernel
theorem dX8_drop_21 : decode cX8_drop 21 = .ok (.istore_n 2, 1) := by decide +kernel
theorem dX8_drop_22 : decode cX8_drop 22 = .ok (.aload_n 0, 1) := by decide +kernel
theorem dX8_drop_23 : decode cX8_drop 23 = .ok (.getfield 74, 3) := by decide +kernel
theorem dX8_drop_26 : decode cX8_drop 26 = .ok (.iload_n 1, 1) := by decide +kernel
theorem dX8_drop_27 : decode cX8_drop 27 = .ok (.iconst 0, 1) := by decide +kernel
theorem dX8_drop_28 : decode cX8_drop 28 = .ok (.iastore, 1) := by decide +kernel
theorem dX8_drop_29 : decode cX8_drop 29 = .ok (.iload_n 2, 1) := by decide +kernel
theorem dX8_drop_30 : decode cX8_drop 30 = .ok (.ireturn, 1) := by decide +kernel
theorem dX8_prove_0 : decode cX8_prove 0 = .ok (.aload_n 0, 1) := by decide +kernel
theorem dX8_prove_1 : decode cX8_prove 1 = .ok (.iconst 0, 1) := by decide +kernel
theorem dX8_prove_2 : decode cX8_prove 2 = .ok (.putfield 143, 3) := by decide +kernel
theorem dX8_prove_5 : decode cX8_prove 5 = .ok (.iload_n 1, 1) := by decide +kernel
theorem dX8_prove_6 : decode cX8_prove 6 = .ok (.invokestatic 186, 3) := by decide +kernel
theorem dX8_prove_9 : decode cX8_prove 9 = .ok (.ifCond .ne 6, 3) := by decide +kernel
theorem dX8_prove_12 : decode cX8_prove 12 = .ok (.bipush (-102), 2) := by decide +kernel
theorem dX8_prove_14 : decode cX8_prove 14 = .ok (.ireturn, 1) := by decide +kernel
theorem dX8_prove_15 : decode cX8_prove 15 = .ok (.iload_n 2, 1) := by decide +kernel
theorem dX8_prove_16 : decode cX8_prove 16 = .ok (.iconst 0, 1) := by decide +kernel
theorem dX8_prove_17 : decode cX8_prove 17 = .ok (.aload_n 0, 1) := by decide +kernel
theorem dX8_prove_18 : decode cX8_prove 18 = .ok (.getfield 74, 3) := by decide +kernel
theorem dX8_prove_21 : decode cX8_prove 21 = .ok (.iload_n 1, 1) := by decide +kernel
theorem dX8_prove_22 : decode cX8_prove 22 = .ok (.iaload, 1) := by decide +kernel
theorem dX8_prove_23 : decode cX8_prove 23 = .ok (.iconst 1, 1) := by decide +kernel
theorem dX8_prove_24 : decode cX8_prove 24 = .ok (.isub, 1) := by decide +kernel
theorem dX8_prove_25 : decode cX8_prove 25 = .ok (.invokestatic 146, 3) := by decide +kernel
theorem dX8_prove_28 : decode cX8_prove 28 = .ok (.ifCond .ne 6, 3) := by decide +kernel
theorem dX8_prove_31 : decode cX8_prove 31 = .ok (.bipush (-101), 2) := by decide +kernel
theorem dX8_prove_33 : decode cX8_prove 33 = .ok (.ireturn, 1) := by decide +kernel
theorem dX8_prove_34 : decode cX8_prove 34 = .ok (.aload_n 0, 1) := by decide +kernel
theorem dX8_prove_35 : decode cX8_prove 35 = .ok (.iload_n 1, 1) := by decide +kernel
theorem dX8_prove_36 : decode cX8_prove 36 = .ok (.invokevirtual 199, 3) := by decide +kernel
theorem dX8_prove_39 : decode cX8_prove 39 = .ok (.aload_n 0, 1) := by decide +kernel
theorem dX8_prove_40 : decode cX8_prove 40 = .ok (.iconst 0, 1) := by decide +kernel
theorem dX8_prove_41 : decode cX8_prove 41 = .ok (.putfield 208, 3) := by decide +kernel
theorem dX8_prove_44 : decode cX8_prove 44 = .ok (.aload_n 0, 1) := by decide +kernel
theorem dX8_prove_45 : decode cX8_prove 45 = .ok (.getfield 74, 3) := by decide +kernel
theorem dX8_prove_48 : decode cX8_prove 48 = .ok (.iload_n 1, 1) := by decide +kernel
theorem dX8_prove_49 : decode cX8_prove 49 = .ok (.iaload, 1) := by decide +kernel
theorem dX8_prove_50 : decode cX8_prove 50 = .ok (.istore_n 3, 1) := by decide +kernel
theorem dX8_prove_51 : decode cX8_prove 51 = .ok (.iload_n 2, 1) := by decide +kernel
theorem dX8_prove_52 : decode cX8_prove 52 = .ok (.istore 4, 2) := by decide +kernel
theorem dX8_prove_54 : decode cX8_prove 54 = .ok (.iload_n 3, 1) := by decide +kernel
theorem dX8_prove_55 : decode cX8_prove 55 = .ok (.iconst 1, 1) := by decide +kernel
theorem dX8_prove_56 : decode cX8_prove 56 = .ok (.if_icmp .le 98, 3) := by decide +kernel
theorem dX8_prove_59 : decode cX8_prove 59 = .ok (.iload 4, 2) := by decide +kernel
theorem dX8_prove_61 : decode cX8_prove 61 = .ok (.iconst 2, 1) := by decide +kernel
theorem dX8_prove_62 : decode cX8_prove 62 = .ok (.irem, 1) := by decide +kernel
theorem dX8_prove_63 : decode cX8_prove 63 = .ok (.ifCond .ne 10, 3) := by decide +kernel
theorem dX8_prove_66 : decode cX8_prove 66 = .ok (.iload 4, 2) := by decide +kernel
theorem dX8_prove_68 : decode cX8_prove 68 = .ok (.iconst 1, 1) := by decide +kernel
theorem dX8_prove_69 : decode cX8_prove 69 = .ok (.iadd, 1) := by decide +kernel
theorem dX8_prove_70 : decode cX8_prove 70 = .ok (.goto 7, 3) := by decide +kernel
theorem dX8_prove_73 : decode cX8_prove 73 = .ok (.iload 4, 2) := by decide +kernel
theorem dX8_prove_75 : decode cX8_prove 75 = .ok (.iconst 1, 1) := by decide +kernel
theorem dX8_prove_76 : decode cX8_prove 76 = .ok (.isub, 1) := by decide +kernel
theorem dX8_prove_77 : decode cX8_prove 77 = .ok (.istore 5, 2) := by decide +kernel
theorem dX8_prove_79 : decode cX8_prove 79 = .ok (.iload 5, 2) := by decide +kernel
theorem dX8_prove_81 : decode cX8_prove 81 = .ok (.iload_n 3, 1) := by decide +kernel
theorem dX8_prove_82 : decode cX8_prove 82 = .ok (.if_icmp .ge 57, 3) := by decide +kernel
theorem dX8_prove_85 : decode cX8_prove 85 = .ok (.iconst 0, 1) := by decide +kernel
theorem dX8_prove_86 : decode cX8_prove 86 = .ok (.istore 6, 2) := by decide +kernel
theorem dX8_prove_88 : decode cX8_prove 88 = .ok (.iload 6, 2) := by decide +kernel
theorem dX8_prove_90 : decode cX8_prove 90 = .ok (.bipush 8, 2) := by decide +kernel
theorem dX8_prove_92 : decode cX8_prove 92 = .ok (.if_icmp .ge 37, 3) := by decide +kernel
theorem dX8_prove_95 : decode cX8_prove 95 = .ok (.aload_n 0, 1) := by decide +kernel
theorem dX8_prove_96 : decode cX8_prove 96 = .ok (.getfield 89, 3) := by decide +kernel
theorem dX8_prove_99 : decode cX8_prove 99 = .ok (.bipush 8, 2) := by decide +kernel
theorem dX8_prove_101 : decode cX8_prove 101 = .ok (.aload_n 0, 1) := by decide +kernel
theorem dX8_prove_102 : decode cX8_prove 102 = .ok (.getfield 208, 3) := by decide +kernel
theorem dX8_prove_105 : decode cX8_prove 105 = .ok (.imul, 1) := by decide +kernel
theorem dX8_prove_106 : decode cX8_prove 106 = .ok (.iload 6, 2) := by decide +kernel
theorem dX8_prove_108 : decode cX8_prove 108 = .ok (.iadd, 1) := by decide +kernel
theorem dX8_prove_109 : decode cX8_prove 109 = .ok (.aload_n 0, 1) := by decide +kernel
theorem dX8_prove_110 : decode cX8_prove 110 = .ok (.getfield 86, 3) := by decide +kernel
theorem dX8_prove_113 : decode cX8_prove 113 = .ok (.bipush 8, 2) := by decide +kernel
theorem dX8_prove_115 : decode cX8_prove 115 = .ok (.iload 5, 2) := by decide +kernel
theorem dX8_prove_117 : decode cX8_prove 117 = .ok (.imul, 1) := by decide +kernel
theorem dX8_prove_118 : decode cX8_prove 118 = .ok (.iload 6, 2) := by decide +kernel
theorem dX8_prove_120 : decode cX8_prove 120 = .ok (.iadd, 1) := by decide +kernel
theorem dX8_prove_121 : decode cX8_prove 121 = .ok (.iaload, 1) := by decide +kernel
theorem dX8_prove_122 : decode cX8_prove 122 = .ok (.iastore, 1) := by decide +kernel
theorem dX8_prove_123 : decode cX8_prove 123 = .ok (.iinc 6 1, 3) := by decide +kernel
theorem dX8_prove_126 : decode cX8_prove 126 = .ok (.goto (-38), 3) := by decide +kernel
theorem dX8_prove_129 : decode cX8_prove 129 = .ok (.aload_n 0, 1) := by decide +kernel
theorem dX8_prove_130 : decode cX8_prove 130 = .ok (.dup, 1) := by decide +kernel
theorem dX8_prove_131 : decode cX8_prove 131 = .ok (.getfield 208, 3) := by decide +kernel
theorem dX8_prove_134 : decode cX8_prove 134 = .ok (.iconst 1, 1) := by decide +kernel
theorem dX8_prove_135 : decode cX8_prove 135 = .ok (.iadd, 1) := by decide +kernel
theorem dX8_prove_136 : decode cX8_prove 136 = .ok (.putfield 208, 3) := by decide +kernel
theorem dX8_prove_139 : decode cX8_prove 139 = .ok (.aload_n 0, 1) := by decide +kernel
theorem dX8_prove_140 : decode cX8_prove 140 = .ok (.iload_n 3, 1) := by decide +kernel
theorem dX8_prove_141 : decode cX8_prove 141 = .ok (.invokevirtual 202, 3) := by decide +kernel
theorem dX8_prove_144 : decode cX8_prove 144 = .ok (.istore_n 3, 1) := by decide +kernel
theorem dX8_prove_145 : decode cX8_prove 145 = .ok (.iload 4, 2) := by decide +kernel
theorem dX8_prove_147 : decode cX8_prove 147 = .ok (.iconst 2, 1) := by decide +kernel
theorem dX8_prove_148 : decode cX8_prove 148 = .ok (.idiv, 1) := by decide +kernel
theorem dX8_prove_149 : decode cX8_prove 149 = .ok (.istore 4, 2) := by decide +kernel
theorem dX8_prove_151 : decode cX8_prove 151 = .ok (.goto (-97), 3) := by decide +kernel
theorem dX8_prove_154 : decode cX8_prove 154 = .ok (.aload_n 0, 1) := by decide +kernel
theorem dX8_prove_155 : decode cX8_prove 155 = .ok (.getfield 208, 3) := by decide +kernel
theorem dX8_prove_158 : decode cX8_prove 158 = .ok (.ireturn, 1) := by decide +kernel
theorem dX8_alter_0 : decode cX8_alter 0 = .ok (.aload_n 0, 1) := by decide +kernel
theorem dX8_alter_1 : decode cX8_alter 1 = .ok (.iconst 0, 1) := by decide +kernel
theorem dX8_alter_2 : decode cX8_alter 2 = .ok (.putfield 143, 3) := by decide +kernel
theorem dX8_alter_5 : decode cX8_alter 5 = .ok (.iload_n 1, 1) := by decide +kernel
theorem dX8_alter_6 : decode cX8_alter 6 = .ok (.iconst 0, 1) := by decide +kernel
theorem dX8_alter_7 : decode cX8_alter 7 = .ok (.aload_n 0, 1) := by decide +kernel
theorem dX8_alter_8 : decode cX8_alter 8 = .ok (.getfield 208, 3) := by decide +kernel
theorem dX8_alter_11 : decode cX8_alter 11 = .ok (.iconst 1, 1) := by decide +kernel
theorem dX8_alter_12 : decode cX8_alter 12 = .ok (.isub, 1) := by decide +kernel
theorem dX8_alter_13 : decode cX8_alter 13 = .ok (.invokestatic 146, 3) := by decide +kernel
theorem dX8_alter_16 : decode cX8_alter 16 = .ok (.ifCond .ne 6, 3) := by decide +kernel
theorem dX8_alter_19 : decode cX8_alter 19 = .ok (.bipush (-101), 2) := by decide +kernel
theorem dX8_alter_21 : decode cX8_alter 21 = .ok (.ireturn, 1) := by decide +kernel
theorem dX8_alter_22 : decode cX8_alter 22 = .ok (.iload_n 2, 1) := by decide +kernel
theorem dX8_alter_23 : decode cX8_alter 23 = .ok (.iconst 0, 1) := by decide +kernel
theorem dX8_alter_24 : decode cX8_alter 24 = .ok (.bipush 31, 2) := by decide +kernel
theorem dX8_alter_26 : decode cX8_alter 26 = .ok (.invokestatic 146, 3) := by decide +kernel
theorem dX8_alter_29 : decode cX8_alter 29 = .ok (.ifCond .eq 14, 3) := by decide +kernel
theorem dX8_alter_32 : decode cX8_alter 32 = .ok (.iload_n 3, 1) := by decide +kernel
theorem dX8_alter_33 : decode cX8_alter 33 = .ok (.iconst 0, 1) := by decide +kernel
theorem dX8_alter_34 : decode cX8_alter 34 = .ok (.sipush 255, 3) := by decide +kernel
theorem dX8_alter_37 : decode cX8_alter 37 = .ok (.invokestatic 146, 3) := by decide +kernel
theorem dX8_alter_40 : decode cX8_alter 40 = .ok (.ifCond .ne 6, 3) := by decide +kernel
theorem dX8_alter_43 : decode cX8_alter 43 = .ok (.bipush (-102), 2) := by decide +kernel
theorem dX8_alter_45 : decode cX8_alter 45 = .ok (.ireturn, 1) := by decide +kernel
theorem dX8_alter_46 : decode cX8_alter 46 = .ok (.bipush 8, 2) := by decide +kernel
theorem dX8_alter_48 : decode cX8_alter 48 = .ok (.iload_n 1, 1) := by decide +kernel
theorem dX8_alter_49 : decode cX8_alter 49 = .ok (.imul, 1) := by decide +kernel
theorem dX8_alter_50 : decode cX8_alter 50 = .ok (.iload_n 2, 1) := by decide +kernel
theorem dX8_alter_51 : decode cX8_alter 51 = .ok (.iconst 4, 1) := by decide +kernel
theorem dX8_alter_52 : decode cX8_alter 52 = .ok (.idiv, 1) := by decide +kernel
theorem dX8_alter_53 : decode cX8_alter 53 = .ok (.iadd, 1) := by decide +kernel
theorem dX8_alter_54 : decode cX8_alter 54 = .ok (.istore 4, 2) := by decide +kernel
theorem dX8_alter_56 : decode cX8_alter 56 = .ok (.bipush 24, 2) := by decide +kernel
theorem dX8_alter_58 : decode cX8_alter 58 = .ok (.bipush 8, 2) := by decide +kernel
theorem dX8_alter_60 : decode cX8_alter 60 = .ok (.iload_n 2, 1) := by decide +kernel
theorem dX8_alter_61 : decode cX8_alter 61 = .ok (.iconst 4, 1) := by decide +kernel
theorem dX8_alter_62 : decode cX8_alter 62 = .ok (.irem, 1) := by decide +kernel
theorem dX8_alter_63 : decode cX8_alter 63 = .ok (.imul, 1) := by decide +kernel
theorem dX8_alter_64 : decode cX8_alter 64 = .ok (.isub, 1) := by decide +kernel
theorem dX8_alter_65 : decode cX8_alter 65 = .ok (.istore 5, 2) := by decide +kernel
theorem dX8_alter_67 : decode cX8_alter 67 = .ok (.aload_n 0, 1) := by decide +kernel
theorem dX8_alter_68 : decode cX8_alter 68 = .ok (.getfield 89, 3) := by decide +kernel
theorem dX8_alter_71 : decode cX8_alter 71 = .ok (.iload 4, 2) := by decide +kernel
theorem dX8_alter_73 : decode cX8_alter 73 = .ok (.dup2, 1) := by decide +kernel
theorem dX8_alter_74 : decode cX8_alter 74 = .ok (.iaload, 1) := by decide +kernel
theorem dX8_alter_75 : decode cX8_alter 75 = .ok (.iload_n 3, 1) := by decide +kernel
theorem dX8_alter_76 : decode cX8_alter 76 = .ok (.iload 5, 2) := by decide +kernel
theorem dX8_alter_78 : decode cX8_alter 78 = .ok (.ishl, 1) := by decide +kernel
theorem dX8_alter_79 : decode cX8_alter 79 = .ok (.ixor, 1) := by decide +kernel
theorem dX8_alter_80 : decode cX8_alter 80 = .ok (.iastore, 1) := by decide +kernel
theorem dX8_alter_81 : decode cX8_alter 81 = .ok (.aload_n 0, 1) := by decide +kernel
theorem dX8_alter_82 : decode cX8_alter 82 = .ok (.getfield 89, 3) := by decide +kernel
theorem dX8_alter_85 : decode cX8_alter 85 = .ok (.iload 4, 2) := by decide +kernel
theorem dX8_alter_87 : decode cX8_alter 87 = .ok (.iaload, 1) := by decide +kernel
theorem dX8_alter_88 : decode cX8_alter 88 = .ok (.iload 5, 2) := by decide +kernel
theorem dX8_alter_90 : decode cX8_alter 90 = .ok (.iushr, 1) := by decide +kernel
theorem dX8_alter_91 : decode cX8_alter 91 = .ok (.sipush 255, 3) := by decide +kernel
theorem dX8_alter_94 : decode cX8_alter 94 = .ok (.iand, 1) := by decide +kernel
theorem dX8_alter_95 : decode cX8_alter 95 = .ok (.ireturn, 1) := by decide +kernel
theorem dX8_check_0 : decode cX8_check 0 = .ok (.aload_n 0, 1) := by decide +kernel
theorem dX8_check_1 : decode cX8_check 1 = .ok (.iconst 0, 1) := by decide +kernel
theorem dX8_check_2 : decode cX8_check 2 = .ok (.putfield 143, 3) := by decide +kernel
theorem dX8_check_5 : decode cX8_check 5 = .ok (.aload_n 0, 1) := by decide +kernel
theorem dX8_check_6 : decode cX8_check 6 = .ok (.iload_n 1, 1) := by decide +kernel
theorem dX8_check_7 : decode cX8_check 7 = .ok (.invokevirtual 175, 3) := by decide +kernel
theorem dX8_check_10 : decode cX8_check 10 = .ok (.ifCond .ne 6, 3) := by decide +kernel
theorem dX8_check_13 : decode cX8_check 13 = .ok (.bipush (-101), 2) := by decide +kernel
theorem dX8_check_15 : decode cX8_check 15 = .ok (.ireturn, 1) := by decide +kernel
theorem dX8_check_16 : decode cX8_check 16 = .ok (.iload_n 2, 1) := by decide +kernel
theorem dX8_check_17 : decode cX8_check 17 = .ok (.iconst 1, 1) := by decide +kernel
theorem dX8_check_18 : decode cX8_check 18 = .ok (.bipush 12, 2) := by decide +kernel
theorem dX8_check_20 : decode cX8_check 20 = .ok (.invokestatic 146, 3) := by decide +kernel
theorem dX8_check_23 : decode cX8_check 23 = .ok (.ifCond .eq 34, 3) := by decide +kernel
theorem dX8_check_26 : decode cX8_check 26 = .ok (.iload_n 3, 1) := by decide +kernel
theorem dX8_check_27 : decode cX8_check 27 = .ok (.iconst 0, 1) := by decide +kernel
theorem dX8_check_28 : decode cX8_check 28 = .ok (.iload_n 2, 1) := by decide +kernel
theorem dX8_check_29 : decode cX8_check 29 = .ok (.iconst 1, 1) := by decide +kernel
theorem dX8_check_30 : decode cX8_check 30 = .ok (.isub, 1) := by decide +kernel
theorem dX8_check_31 : decode cX8_check 31 = .ok (.invokestatic 146, 3) := by decide +kernel
theorem dX8_check_34 : decode cX8_check 34 = .ok (.ifCond .eq 23, 3) := by decide +kernel
theorem dX8_check_37 : decode cX8_check 37 = .ok (.iload 4, 2) := by decide +kernel
theorem dX8_check_39 : decode cX8_check 39 = .ok (.iconst 0, 1) := by decide +kernel
theorem dX8_check_40 : decode cX8_check 40 = .ok (.bipush 7, 2) := by decide +kernel
theorem dX8_check_42 : decode cX8_check 42 = .ok (.invokestatic 146, 3) := by decide +kernel
theorem dX8_check_45 : decode cX8_check 45 = .ok (.ifCond .eq 12, 3) := by decide +kernel
theorem dX8_check_48 : decode cX8_check 48 = .ok (.aload_n 0, 1) := by decide +kernel
theorem dX8_check_49 : decode cX8_check 49 = .ok (.getfield 150, 3) := by decide +kernel
theorem dX8_check_52 : decode cX8_check 52 = .ok (.bipush 40, 2) := by decide +kernel
theorem dX8_check_54 : decode cX8_check 54 = .ok (.if_icmp .le 6, 3) := by decide +kernel
theorem dX8_check_57 : decode cX8_check 57 = .ok (.bipush (-102), 2) := by decide +kernel
theorem dX8_check_59 : decode cX8_check 59 = .ok (.ireturn, 1) := by decide +kernel
theorem dX8_check_60 : decode cX8_check 60 = .ok (.aload_n 0, 1) := by decide +kernel
theorem dX8_check_61 : decode cX8_check 61 = .ok (.iconst 0, 1) := by decide +kernel
theorem dX8_check_62 : decode cX8_check 62 = .ok (.putfield 122, 3) := by decide +kernel
theorem dX8_check_65 : decode cX8_check 65 = .ok (.aload_n 0, 1) := by decide +kernel
theorem dX8_check_66 : decode cX8_check 66 = .ok (.iconst 0, 1) := by decide +kernel
theorem dX8_check_67 : decode cX8_check 67 = .ok (.invokevirtual 128, 3) := by decide +kernel
theorem dX8_check_70 : decode cX8_check 70 = .ok (.aload_n 0, 1) := by decide +kernel
theorem dX8_check_71 : decode cX8_check 71 = .ok (.iload 4, 2) := by decide +kernel
theorem dX8_check_73 : decode cX8_check 73 = .ok (.invokevirtual 128, 3) := by decide +kernel
theorem dX8_check_76 : decode cX8_check 76 = .ok (.aload_n 0, 1) := by decide +kernel
theorem dX8_check_77 : decode cX8_check 77 = .ok (.aload_n 0, 1) := by decide +kernel
theorem dX8_check_78 : decode cX8_check 78 = .ok (.getfield 150, 3) := by decide +kernel
theorem dX8_check_81 : decode cX8_check 81 = .ok (.invokevirtual 128, 3) := by decide +kernel
theorem dX8_check_84 : decode cX8_check 84 = .ok (.iconst 0, 1) := by decide +kernel
theorem dX8_check_85 : decode cX8_check 85 = .ok (.istore 5, 2) := by decide +kernel
theorem dX8_check_87 : decode cX8_check 87 = .ok (.iload 5, 2) := by decide +kernel
theorem dX8_check_89 : decode cX8_check 89 = .ok (.aload_n 0, 1) := by decide +kernel
theorem dX8_check_90 : decode cX8_check 90 = .ok (.getfield 150, 3) := by decide +kernel
theorem dX8_check_93 : decode cX8_check 93 = .ok (.if_icmp .ge 20, 3) := by decide +kernel
theorem dX8_check_96 : decode cX8_check 96 = .ok (.aload_n 0, 1) := by decide +kernel
theorem dX8_check_97 : decode cX8_check 97 = .ok (.aload_n 0, 1) := by decide +kernel
theorem dX8_check_98 : decode cX8_check 98 = .ok (.getfield 38, 3) := by decide +kernel
theorem dX8_check_101 : decode cX8_check 101 = .ok (.iload 5, 2) := by decide +kernel
theorem dX8_check_103 : decode cX8_check 103 = .ok (.iaload, 1) := by decide +kernel
theorem dX8_check_104 : decode cX8_check 104 = .ok (.invokevirtual 128, 3) := by decide +kernel
theorem dX8_check_107 : decode cX8_check 107 = .ok (.iinc 5 1, 3) := by decide +kernel
theorem dX8_check_110 : decode cX8_check 110 = .ok (.goto (-23), 3) := by decide +kernel
theorem dX8_check_113 : decode cX8_check 113 = .ok (.aload_n 0, 1) := by decide +kernel
theorem dX8_check_114 : decode cX8_check 114 = .ok (.iconst 0, 1) := by decide +kernel
theorem dX8_check_115 : decode cX8_check 115 = .ok (.invokevirtual 162, 3) := by decide +kernel
theorem dX8_check_118 : decode cX8_check 118 = .ok (.iconst 0, 1) := by decide +kernel
theorem dX8_check_119 : decode cX8_check 119 = .ok (.istore 5, 2) := by decide +kernel
theorem dX8_check_121 : decode cX8_check 121 = .ok (.iload_n 2, 1) := by decide +kernel
theorem dX8_check_122 : decode cX8_check 122 = .ok (.istore 6, 2) := by decide +kernel
theorem dX8_check_124 : decode cX8_check 124 = .ok (.iload_n 3, 1) := by decide +kernel
theorem dX8_check_125 : decode cX8_check 125 = .ok (.istore 7, 2) := by decide +kernel
theorem dX8_check_127 : decode cX8_check 127 = .ok (.iload 6, 2) := by decide +kernel
theorem dX8_check_129 : decode cX8_check 129 = .ok (.iconst 1, 1) := by decide +kernel
theorem dX8_check_130 : decode cX8_check 130 = .ok (.if_icmp .le 79, 3) := by decide +kernel
theorem dX8_check_133 : decode cX8_check 133 = .ok (.iload 7, 2) := by decide +kernel
theorem dX8_check_135 : decode cX8_check 135 = .ok (.iconst 2, 1) := by decide +kernel
theorem dX8_check_136 : decode cX8_check 136 = .ok (.irem, 1) := by decide +kernel
theorem dX8_check_137 : decode cX8_check 137 = .ok (.ifCond .ne 10, 3) := by decide +kernel
theorem dX8_check_140 : decode cX8_check 140 = .ok (.iload 7, 2) := by decide +kernel
theorem dX8_check_142 : decode cX8_check 142 = .ok (.iconst 1, 1) := by decide +kernel
theorem dX8_check_143 : decode cX8_check 143 = .ok (.iadd, 1) := by decide +kernel
theorem dX8_check_144 : decode cX8_check 144 = .ok (.goto 7, 3) := by decide +kernel
theorem dX8_check_147 : decode cX8_check 147 = .ok (.iload 7, 2) := by decide +kernel
theorem dX8_check_149 : decode cX8_check 149 = .ok (.iconst 1, 1) := by decide +kernel
theorem dX8_check_150 : decode cX8_check 150 = .ok (.isub, 1) := by decide +kernel
theorem dX8_check_151 : decode cX8_check 151 = .ok (.istore 8, 2) := by decide +kernel
theorem dX8_check_153 : decode cX8_check 153 = .ok (.iload 8, 2) := by decide +kernel
theorem dX8_check_155 : decode cX8_check 155 = .ok (.iload 6, 2) := by decide +kernel
theorem dX8_check_157 : decode cX8_check 157 = .ok (.if_icmp .ge 35, 3) := by decide +kernel
theorem dX8_check_160 : decode cX8_check 160 = .ok (.iload 5, 2) := by decide +kernel
theorem dX8_check_162 : decode cX8_check 162 = .ok (.aload_n 0, 1) := by decide +kernel
theorem dX8_check_163 : decode cX8_check 163 = .ok (.getfield 208, 3) := by decide +kernel
theorem dX8_check_166 : decode cX8_check 166 = .ok (.if_icmp .ne 5, 3) := by decide +kernel
theorem dX8_check_169 : decode cX8_check 169 = .ok (.iconst 0, 1) := by decide +kernel
theorem dX8_check_170 : decode cX8_check 170 = .ok (.ireturn, 1) := by decide +kernel
theorem dX8_check_171 : decode cX8_check 171 = .ok (.aload_n 0, 1) := by decide +kernel
theorem dX8_check_172 : decode cX8_check 172 = .ok (.iload 5, 2) := by decide +kernel
theorem dX8_check_174 : decode cX8_check 174 = .ok (.iload 7, 2) := by decide +kernel
theorem dX8_check_176 : decode cX8_check 176 = .ok (.iconst 2, 1) := by decide +kernel
theorem dX8_check_177 : decode cX8_check 177 = .ok (.irem, 1) := by decide +kernel
theorem dX8_check_178 : decode cX8_check 178 = .ok (.ifCond .ne 7, 3) := by decide +kernel
theorem dX8_check_181 : decode cX8_check 181 = .ok (.iconst 1, 1) := by decide +kernel
theorem dX8_check_182 : decode cX8_check 182 = .ok (.goto 4, 3) := by decide +kernel
theorem dX8_check_185 : decode cX8_check 185 = .ok (.iconst 0, 1) := by decide +kernel
theorem dX8_check_186 : decode cX8_check 186 = .ok (.invokevirtual 211, 3) := by decide +kernel
theorem dX8_check_189 : decode cX8_check 189 = .ok (.iinc 5 1, 3) := by decide +kernel
theorem dX8_check_192 : decode cX8_check 192 = .ok (.iload 6, 2) := by decide +kernel
theorem dX8_check_194 : decode cX8_check 194 = .ok (.iconst 1, 1) := by decide +kernel
theorem dX8_check_195 : decode cX8_check 195 = .ok (.iadd, 1) := by decide +kernel
theorem dX8_check_196 : decode cX8_check 196 = .ok (.iconst 2, 1) := by decide +kernel
theorem dX8_check_197 : decode cX8_check 197 = .ok (.idiv, 1) := by decide +kernel
theorem dX8_check_198 : decode cX8_check 198 = .ok (.istore 6, 2) := by decide +kernel
theorem dX8_check_200 : decode cX8_check 200 = .ok (.iload 7, 2) := by decide +kernel
theorem dX8_check_202 : decode cX8_check 202 = .ok (.iconst 2, 1) := by decide +kernel
theorem dX8_check_203 : decode cX8_check 203 = .ok (.idiv, 1) := by decide +kernel
theorem dX8_check_204 : decode cX8_check 204 = .ok (.istore 7, 2) := by decide +kernel
theorem dX8_check_206 : decode cX8_check 206 = .ok (.goto (-79), 3) := by decide +kernel
theorem dX8_check_209 : decode cX8_check 209 = .ok (.aload_n 0, 1) := by decide +kernel
theorem dX8_check_210 : decode cX8_check 210 = .ok (.iconst 0, 1) := by decide +kernel
theorem dX8_check_211 : decode cX8_check 211 = .ok (.invokevirtual 193, 3) := by decide +kernel
theorem dX8_check_214 : decode cX8_check 214 = .ok (.aload_n 0, 1) := by decide +kernel
theorem dX8_check_215 : decode cX8_check 215 = .ok (.iload_n 2, 1) := by decide +kernel
theorem dX8_check_216 : decode cX8_check 216 = .ok (.invokevirtual 205, 3) := by decide +kernel
theorem dX8_check_219 : decode cX8_check 219 = .ok (.iload 5, 2) := by decide +kernel
theorem dX8_check_221 : decode cX8_check 221 = .ok (.aload_n 0, 1) := by decide +kernel
theorem dX8_check_222 : decode cX8_check 222 = .ok (.getfield 208, 3) := by decide +kernel
theorem dX8_check_225 : decode cX8_check 225 = .ok (.if_icmp .ne 17, 3) := by decide +kernel
theorem dX8_check_228 : decode cX8_check 228 = .ok (.aload_n 0, 1) := by decide +kernel
theorem dX8_check_229 : decode cX8_check 229 = .ok (.getfield 44, 3) := by decide +kernel
theorem dX8_check_232 : decode cX8_check 232 = .ok (.iload_n 1, 1) := by decide +kernel
theorem dX8_check_233 : decode cX8_check 233 = .ok (.iaload, 1) := by decide +kernel
theorem dX8_check_234 : decode cX8_check 234 = .ok (.iconst 1, 1) := by decide +kernel
theorem dX8_check_235 : decode cX8_check 235 = .ok (.if_icmp .eq 7, 3) := by decide +kernel
theorem dX8_check_238 : decode cX8_check 238 = .ok (.iconst 1, 1) := by decide +kernel
theorem dX8_check_239 : decode cX8_check 239 = .ok (.goto 4, 3) := by decide +kernel
theorem dX8_check_242 : decode cX8_check 242 = .ok (.iconst 0, 1) := by decide +kernel
theorem dX8_check_243 : decode cX8_check 243 = .ok (.istore 8, 2) := by decide +kernel
theorem dX8_check_245 : decode cX8_check 245 = .ok (.iconst 0, 1) := by decide +kernel
theorem dX8_check_246 : decode cX8_check 246 = .ok (.istore 9, 2) := by decide +kernel
theorem dX8_check_248 : decode cX8_check 248 = .ok (.iload 9, 2) := by decide +kernel
theorem dX8_check_250 : decode cX8_check 250 = .ok (.bipush 32, 2) := by decide +kernel
theorem dX8_check_252 : decode cX8_check 252 = .ok (.if_icmp .ge 42, 3) := by decide +kernel
theorem dX8_check_255 : decode cX8_check 255 = .ok (.iload 8, 2) := by decide +kernel
theorem dX8_check_257 : decode cX8_check 257 = .ok (.ifCond .eq 37, 3) := by decide +kernel
theorem dX8_check_260 : decode cX8_check 260 = .ok (.aload_n 0, 1) := by decide +kernel
theorem dX8_check_261 : decode cX8_check 261 = .ok (.iload 9, 2) := by decide +kernel
theorem dX8_check_263 : decode cX8_check 263 = .ok (.invokevirtual 159, 3) := by decide +kernel
theorem dX8_check_266 : decode cX8_check 266 = .ok (.aload_n 0, 1) := by decide +kernel
theorem dX8_check_267 : decode cX8_check 267 = .ok (.getfield 50, 3) := by decide +kernel
theorem dX8_check_270 : decode cX8_check 270 = .ok (.bipush 32, 2) := by decide +kernel
theorem dX8_check_272 : decode cX8_check 272 = .ok (.iload_n 1, 1) := by decide +kernel
theorem dX8_check_273 : decode cX8_check 273 = .ok (.imul, 1) := by decide +kernel
theorem dX8_check_274 : decode cX8_check 274 = .ok (.iload 9, 2) := by decide +kernel
theorem dX8_check_276 : decode cX8_check 276 = .ok (.iadd, 1) := by decide +kernel
theorem dX8_check_277 : decode cX8_check 277 = .ok (.iaload, 1) := by decide +kernel
theorem dX8_check_278 : decode cX8_check 278 = .ok (.if_icmp .ne 7, 3) := by decide +kernel
theorem dX8_check_281 : decode cX8_check 281 = .ok (.iconst 1, 1) := by decide +kernel
theorem dX8_check_282 : decode cX8_check 282 = .ok (.goto 4, 3) := by decide +kernel
theorem dX8_check_285 : decode cX8_check 285 = .ok (.iconst 0, 1) := by decide +kernel
theorem dX8_check_286 : decode cX8_check 286 = .ok (.istore 8, 2) := by decide +kernel
theorem dX8_check_288 : decode cX8_check 288 = .ok (.iinc 9 1, 3) := by decide +kernel
theorem dX8_check_291 : decode cX8_check 291 = .ok (.goto (-43), 3) := by decide +kernel
theorem dX8_check_294 : decode cX8_check 294 = .ok (.iload 8, 2) := by decide +kernel
theorem dX8_check_296 : decode cX8_check 296 = .ok (.ifCond .eq 7, 3) := by decide +kernel
theorem dX8_check_299 : decode cX8_check 299 = .ok (.iconst 1, 1) := by decide +kernel
theorem dX8_check_300 : decode cX8_check 300 = .ok (.goto 4, 3) := by decide +kernel
theorem dX8_check_303 : decode cX8_check 303 = .ok (.iconst 0, 1) := by decide +kernel
theorem dX8_check_304 : decode cX8_check 304 = .ok (.ireturn, 1) := by decide +kernel
theorem dX8_join_0 : decode cX8_join 0 = .ok (.aload_n 0, 1) := by decide +kernel
theorem dX8_join_1 : decode cX8_join 1 = .ok (.iconst 0, 1) := by decide +kernel
theorem dX8_join_2 : decode cX8_join 2 = .ok (.putfield 122, 3) := by decide +kernel
theorem dX8_join_5 : decode cX8_join 5 = .ok (.aload_n 0, 1) := by decide +kernel
theorem dX8_join_6 : decode cX8_join 6 = .ok (.iconst 1, 1) := by decide +kernel
theorem dX8_join_7 : decode cX8_join 7 = .ok (.invokevirtual 128, 3) := by decide +kernel
theorem dX8_join_10 : decode cX8_join 10 = .ok (.iconst 0, 1) := by decide +kernel
theorem dX8_join_11 : decode cX8_join 11 = .ok (.istore_n 3, 1) := by decide +kernel
theorem dX8_join_12 : decode cX8_join 12 = .ok (.iload_n 3, 1) := by decide +kernel
theorem dX8_join_13 : decode cX8_join 13 = .ok (.bipush 16, 2) := by decide +kernel
theorem dX8_join_15 : decode cX8_join 15 = .ok (.if_icmp .ge 66, 3) := by decide +kernel
theorem dX8_join_18 : decode cX8_join 18 = .ok (.iload_n 3, 1) := by decide +kernel
theorem dX8_join_19 : decode cX8_join 19 = .ok (.bipush 8, 2) := by decide +kernel
theorem dX8_join_21 : decode cX8_join 21 = .ok (.if_icmp .ge 7, 3) := by decide +kernel
theorem dX8_join_24 : decode cX8_join 24 = .ok (.iconst 1, 1) := by decide +kernel
theorem dX8_join_25 : decode cX8_join 25 = .ok (.goto 4, 3) := by decide +kernel
theorem dX8_join_28 : decode cX8_join 28 = .ok (.iconst 0, 1) := by decide +kernel
theorem dX8_join_29 : decode cX8_join 29 = .ok (.iload_n 2, 1) := by decide +kernel
theorem dX8_join_30 : decode cX8_join 30 = .ok (.if_icmp .ne 7, 3) := by decide +kernel
theorem dX8_join_33 : decode cX8_join 33 = .ok (.iconst 1, 1) := by decide +kernel
theorem dX8_join_34 : decode cX8_join 34 = .ok (.goto 4, 3) := by decide +kernel
theorem dX8_join_37 : decode cX8_join 37 = .ok (.iconst 0, 1) := by decide +kernel
theorem dX8_join_38 : decode cX8_join 38 = .ok (.istore 4, 2) := by decide +kernel
theorem dX8_join_40 : decode cX8_join 40 = .ok (.aload_n 0, 1) := by decide +kernel
theorem dX8_join_41 : decode cX8_join 41 = .ok (.iload 4, 2) := by decide +kernel
theorem dX8_join_43 : decode cX8_join 43 = .ok (.ifCond .eq 15, 3) := by decide +kernel
theorem dX8_join_46 : decode cX8_join 46 = .ok (.aload_n 0, 1) := by decide +kernel
theorem dX8_join_47 : decode cX8_join 47 = .ok (.getfield 32, 3) := by decide +kernel
theorem dX8_join_50 : decode cX8_join 50 = .ok (.iload_n 3, 1) := by decide +kernel
theorem dX8_join_51 : decode cX8_join 51 = .ok (.bipush 8, 2) := by decide +kernel
theorem dX8_join_53 : decode cX8_join 53 = .ok (.irem, 1) := by decide +kernel
theorem dX8_join_54 : decode cX8_join 54 = .ok (.iaload, 1) := by decide +kernel
theorem dX8_join_55 : decode cX8_join 55 = .ok (.goto 17, 3) := by decide +kernel
theorem dX8_join_58 : decode cX8_join 58 = .ok (.aload_n 0, 1) := by decide +kernel
theorem dX8_join_59 : decode cX8_join 59 = .ok (.getfield 89, 3) := by decide +kernel
theorem dX8_join_62 : decode cX8_join 62 = .ok (.bipush 8, 2) := by decide +kernel
theorem dX8_join_64 : decode cX8_join 64 = .ok (.iload_n 1, 1) := by decide +kernel
theorem dX8_join_65 : decode cX8_join 65 = .ok (.imul, 1) := by decide +kernel
theorem dX8_join_66 : decode cX8_join 66 = .ok (.iload_n 3, 1) := by decide +kernel
theorem dX8_join_67 : decode cX8_join 67 = .ok (.bipush 8, 2) := by decide +kernel
theorem dX8_join_69 : decode cX8_join 69 = .ok (.irem, 1) := by decide +kernel
theorem dX8_join_70 : decode cX8_join 70 = .ok (.iadd, 1) := by decide +kernel
theorem dX8_join_71 : decode cX8_join 71 = .ok (.iaload, 1) := by decide +kernel
theorem dX8_join_72 : decode cX8_join 72 = .ok (.invokevirtual 196, 3) := by decide +kernel
theorem dX8_join_75 : decode cX8_join 75 = .ok (.iinc 3 1, 3) := by decide +kernel
theorem dX8_join_78 : decode cX8_join 78 = .ok (.goto (-66), 3) := by decide +kernel
theorem dX8_join_81 : decode cX8_join 81 = .ok (.aload_n 0, 1) := by decide +kernel
theorem dX8_join_82 : decode cX8_join 82 = .ok (.iconst 0, 1) := by decide +kernel
theorem dX8_join_83 : decode cX8_join 83 = .ok (.invokevirtual 162, 3) := by decide +kernel
theorem dX8_join_86 : decode cX8_join 86 = .ok (.return_, 1) := by decide +kernel
theorem dX8_rowsBegin_0 : decode cX8_rowsBegin 0 = .ok (.iconst 0, 1) := by decide +kernel
theorem dX8_rowsBegin_1 : decode cX8_rowsBegin 1 = .ok (.istore_n 1, 1) := by decide +kernel
theorem dX8_rowsBegin_2 : decode cX8_rowsBegin 2 = .ok (.iload_n 1, 1) := by decide +kernel
theorem dX8_rowsBegin_3 : decode cX8_rowsBegin 3 = .ok (.iconst 4, 1) := by decide +kernel
theorem dX8_rowsBegin_4 : decode cX8_rowsBegin 4 = .ok (.if_icmp .ge 16, 3) := by decide +kernel
theorem dX8_rowsBegin_7 : decode cX8_rowsBegin 7 = .ok (.aload_n 0, 1) := by decide +kernel
theorem dX8_rowsBegin_8 : decode cX8_rowsBegin 8 = .ok (.getfield 68, 3) := by decide +kernel
theorem dX8_rowsBegin_11 : decode cX8_rowsBegin 11 = .ok (.iload_n 1, 1) := by decide +kernel
theorem dX8_rowsBegin_12 : decode cX8_rowsBegin 12 = .ok (.iconst (-1), 1) := by decide +kernel
theorem dX8_rowsBegin_13 : decode cX8_rowsBegin 13 = .ok (.iastore, 1) := by decide +kernel
theorem dX8_rowsBegin_14 : decode cX8_rowsBegin 14 = .ok (.iinc 1 1, 3) := by decide +kernel
theorem dX8_rowsBegin_17 : decode cX8_rowsBegin 17 = .ok (.goto (-15), 3) := by decide +kernel
theorem dX8_rowsBegin_20 : decode cX8_rowsBegin 20 = .ok (.return_, 1) := by decide +kernel
theorem dX8_isRow_0 : decode cX8_isRow 0 = .ok (.aload_n 0, 1) := by decide +kernel
theorem dX8_isRow_1 : decode cX8_isRow 1 = .ok (.getfield 92, 3) := by decide +kernel
theorem dX8_isRow_4 : decode cX8_isRow 4 = .ok (.iload_n 1, 1) := by decide +kernel
theorem dX8_isRow_5 : decode cX8_isRow 5 = .ok (.iaload, 1) := by decide +kernel
theorem dX8_isRow_6 : decode cX8_isRow 6 = .ok (.aload_n 0, 1) := by decide +kernel
theorem dX8_isRow_7 : decode cX8_isRow 7 = .ok (.getfield 150, 3) := by decide +kernel
theorem dX8_isRow_10 : decode cX8_isRow 10 = .ok (.if_icmp .ne 7, 3) := by decide +kernel
theorem dX8_isRow_13 : decode cX8_isRow 13 = .ok (.iconst 1, 1) := by decide +kernel
theorem dX8_isRow_14 : decode cX8_isRow 14 = .ok (.goto 4, 3) := by decide +kernel
theorem dX8_isRow_17 : decode cX8_isRow 17 = .ok (.iconst 0, 1) := by decide +kernel
theorem dX8_isRow_18 : decode cX8_isRow 18 = .ok (.istore_n 2, 1) := by decide +kernel
theorem dX8_isRow_19 : decode cX8_isRow 19 = .ok (.iconst 0, 1) := by decide +kernel
theorem dX8_isRow_20 : decode cX8_isRow 20 = .ok (.istore_n 3, 1) := by decide +kernel
theorem dX8_isRow_21 : decode cX8_isRow 21 = .ok (.iload_n 3, 1) := by decide +kernel
theorem dX8_isRow_22 : decode cX8_isRow 22 = .ok (.aload_n 0, 1) := by decide +kernel
theorem dX8_isRow_23 : decode cX8_isRow 23 = .ok (.getfield 150, 3) := by decide +kernel
theorem dX8_isRow_26 : decode cX8_isRow 26 = .ok (.if_icmp .ge 39, 3) := by decide +kernel
theorem dX8_isRow_29 : decode cX8_isRow 29 = .ok (.iload_n 2, 1) := by decide +kernel
theorem dX8_isRow_30 : decode cX8_isRow 30 = .ok (.ifCond .eq 35, 3) := by decide +kernel
theorem dX8_isRow_33 : decode cX8_isRow 33 = .ok (.aload_n 0, 1) := by decide +kernel
theorem dX8_isRow_34 : decode cX8_isRow 34 = .ok (.getfield 95, 3) := by decide +kernel
theorem dX8_isRow_37 : decode cX8_isRow 37 = .ok (.bipush 40, 2) := by decide +kernel
theorem dX8_isRow_39 : decode cX8_isRow 39 = .ok (.iload_n 1, 1) := by decide +kernel
theorem dX8_isRow_40 : decode cX8_isRow 40 = .ok (.imul, 1) := by decide +kernel
theorem dX8_isRow_41 : decode cX8_isRow 41 = .ok (.iload_n 3, 1) := by decide +kernel
theorem dX8_isRow_42 : decode cX8_isRow 42 = .ok (.iadd, 1) := by decide +kernel
theorem dX8_isRow_43 : decode cX8_isRow 43 = .ok (.iaload, 1) := by decide +kernel
theorem dX8_isRow_44 : decode cX8_isRow 44 = .ok (.aload_n 0, 1) := by decide +kernel
theorem dX8_isRow_45 : decode cX8_isRow 45 = .ok (.getfield 38, 3) := by decide +kernel
theorem dX8_isRow_48 : decode cX8_isRow 48 = .ok (.iload_n 3, 1) := by decide +kernel
theorem dX8_isRow_49 : decode cX8_isRow 49 = .ok (.iaload, 1) := by decide +kernel
theorem dX8_isRow_50 : decode cX8_isRow 50 = .ok (.if_icmp .ne 7, 3) := by decide +kernel
theorem dX8_isRow_53 : decode cX8_isRow 53 = .ok (.iconst 1, 1) := by decide +kernel
theorem dX8_isRow_54 : decode cX8_isRow 54 = .ok (.goto 4, 3) := by decide +kernel
theorem dX8_isRow_57 : decode cX8_isRow 57 = .ok (.iconst 0, 1) := by decide +kernel
theorem dX8_isRow_58 : decode cX8_isRow 58 = .ok (.istore_n 2, 1) := by decide +kernel
theorem dX8_isRow_59 : decode cX8_isRow 59 = .ok (.iinc 3 1, 3) := by decide +kernel
theorem dX8_isRow_62 : decode cX8_isRow 62 = .ok (.goto (-41), 3) := by decide +kernel
theorem dX8_isRow_65 : decode cX8_isRow 65 = .ok (.iload_n 2, 1) := by decide +kernel
theorem dX8_isRow_66 : decode cX8_isRow 66 = .ok (.ireturn, 1) := by decide +kernel
theorem dX8_spotOfTape_0 : decode cX8_spotOfTape 0 = .ok (.aload_n 0, 1) := by decide +kernel
theorem dX8_spotOfTape_1 : decode cX8_spotOfTape 1 = .ok (.iconst 0, 1) := by decide +kernel
theorem dX8_spotOfTape_2 : decode cX8_spotOfTape 2 = .ok (.putfield 122, 3) := by decide +kernel
theorem dX8_spotOfTape_5 : decode cX8_spotOfTape 5 = .ok (.iconst 0, 1) := by decide +kernel
theorem dX8_spotOfTape_6 : decode cX8_spotOfTape 6 = .ok (.istore_n 1, 1) := by decide +kernel
theorem dX8_spotOfTape_7 : decode cX8_spotOfTape 7 = .ok (.iload_n 1, 1) := by decide +kernel
theorem dX8_spotOfTape_8 : decode cX8_spotOfTape 8 = .ok (.aload_n 0, 1) := by decide +kernel
theorem dX8_spotOfTape_9 : decode cX8_spotOfTape 9 = .ok (.getfield 150, 3) := by decide +kernel
theorem dX8_spotOfTape_12 : decode cX8_spotOfTape 12 = .ok (.if_icmp .ge 19, 3) := by decide +kernel
theorem dX8_spotOfTape_15 : decode cX8_spotOfTape 15 = .ok (.aload_n 0, 1) := by decide +kernel
theorem dX8_spotOfTape_16 : decode cX8_spotOfTape 16 = .ok (.aload_n 0, 1) := by decide +kernel
theorem dX8_spotOfTape_17 : decode cX8_spotOfTape 17 = .ok (.getfield 38, 3) := by decide +kernel
theorem dX8_spotOfTape_20 : decode cX8_spotOfTape 20 = .ok (.iload_n 1, 1) := by decide +kernel
theorem dX8_spotOfTape_21 : decode cX8_spotOfTape 21 = .ok (.iaload, 1) := by decide +kernel
theorem dX8_spotOfTape_22 : decode cX8_spotOfTape 22 = .ok (.invokevirtual 128, 3) := by decide +kernel
theorem dX8_spotOfTape_25 : decode cX8_spotOfTape 25 = .ok (.iinc 1 1, 3) := by decide +kernel
theorem dX8_spotOfTape_28 : decode cX8_spotOfTape 28 = .ok (.goto (-21), 3) := by decide +kernel
theorem dX8_spotOfTape_31 : decode cX8_spotOfTape 31 = .ok (.aload_n 0, 1) := by decide +kernel
theorem dX8_spotOfTape_32 : decode cX8_spotOfTape 32 = .ok (.iconst 0, 1) := by decide +kernel
theorem dX8_spotOfTape_33 : decode cX8_spotOfTape 33 = .ok (.invokevirtual 162, 3) := by decide +kernel
theorem dX8_spotOfTape_36 : decode cX8_spotOfTape 36 = .ok (.aload_n 0, 1) := by decide +kernel
theorem dX8_spotOfTape_37 : decode cX8_spotOfTape 37 = .ok (.bipush 31, 2) := by decide +kernel
theorem dX8_spotOfTape_39 : decode cX8_spotOfTape 39 = .ok (.invokevirtual 159, 3) := by decide +kernel
theorem dX8_spotOfTape_42 : decode cX8_spotOfTape 42 = .ok (.bipush 15, 2) := by decide +kernel
theorem dX8_spotOfTape_44 : decode cX8_spotOfTape 44 = .ok (.iand, 1) := by decide +kernel
theorem dX8_spotOfTape_45 : decode cX8_spotOfTape 45 = .ok (.ireturn, 1) := by decide +kernel
theorem dX8_look_0 : decode cX8_look 0 = .ok (.aload_n 0, 1) := by decide +kernel
theorem dX8_look_1 : decode cX8_look 1 = .ok (.iconst 0, 1) := by decide +kernel
theorem dX8_look_2 : decode cX8_look 2 = .ok (.putfield 215, 3) := by decide +kernel
theorem dX8_look_5 : decode cX8_look 5 = .ok (.iconst 0, 1) := by decide +kernel
theorem dX8_look_6 : decode cX8_look 6 = .ok (.istore_n 2, 1) := by decide +kernel
theorem dX8_look_7 : decode cX8_look 7 = .ok (.iload_n 2, 1) := by decide +kernel
theorem dX8_look_8 : decode cX8_look 8 = .ok (.aload_n 0, 1) := by decide +kernel
theorem dX8_look_9 : decode cX8_look 9 = .ok (.getfield 218, 3) := by decide +kernel
theorem dX8_look_12 : decode cX8_look 12 = .ok (.if_icmp .ge 39, 3) := by decide +kernel
theorem dX8_look_15 : decode cX8_look 15 = .ok (.aload_n 0, 1) := by decide +kernel
theorem dX8_look_16 : decode cX8_look 16 = .ok (.getfield 98, 3) := by decide +kernel
theorem dX8_look_19 : decode cX8_look 19 = .ok (.iload_n 2, 1) := by decide +kernel
theorem dX8_look_20 : decode cX8_look 20 = .ok (.iaload, 1) := by decide +kernel
theorem dX8_look_21 : decode cX8_look 21 = .ok (.iload_n 1, 1) := by decide +kernel
theorem dX8_look_22 : decode cX8_look 22 = .ok (.if_icmp .ne 23, 3) := by decide +kernel
theorem dX8_look_25 : decode cX8_look 25 = .ok (.aload_n 0, 1) := by decide +kernel
theorem dX8_look_26 : decode cX8_look 26 = .ok (.dup, 1) := by decide +kernel
theorem dX8_look_27 : decode cX8_look 27 = .ok (.getfield 215, 3) := by decide +kernel
theorem dX8_look_30 : decode cX8_look 30 = .ok (.iconst 1, 1) := by decide +kernel
theorem dX8_look_31 : decode cX8_look 31 = .ok (.iadd, 1) := by decide +kernel
theorem dX8_look_32 : decode cX8_look 32 = .ok (.putfield 215, 3) := by decide +kernel
theorem dX8_look_35 : decode cX8_look 35 = .ok (.aload_n 0, 1) := by decide +kernel
theorem dX8_look_36 : decode cX8_look 36 = .ok (.iload_n 2, 1) := by decide +kernel
theorem dX8_look_37 : decode cX8_look 37 = .ok (.invokevirtual 221, 3) := by decide +kernel
theorem dX8_look_40 : decode cX8_look 40 = .ok (.ifCond .eq 5, 3) := by decide +kernel
theorem dX8_look_43 : decode cX8_look 43 = .ok (.iload_n 2, 1) := by decide +kernel
theorem dX8_look_44 : decode cX8_look 44 = .ok (.ireturn, 1) := by decide +kernel
theorem dX8_look_45 : decode cX8_look 45 = .ok (.iinc 2 1, 3) := by decide +kernel
theorem dX8_look_48 : decode cX8_look 48 = .ok (.goto (-41), 3) := by decide +kernel
theorem dX8_look_51 : decode cX8_look 51 = .ok (.iconst (-1), 1) := by decide +kernel
theorem dX8_look_52 : decode cX8_look 52 = .ok (.ireturn, 1) := by decide +kernel
theorem dX8_keep_0 : decode cX8_keep 0 = .ok (.aload_n 0, 1) := by decide +kernel
theorem dX8_keep_1 : decode cX8_keep 1 = .ok (.iconst 0, 1) := by decide +kernel
theorem dX8_keep_2 : decode cX8_keep 2 = .ok (.putfield 143, 3) := by decide +kernel
theorem dX8_keep_5 : decode cX8_keep 5 = .ok (.aload_n 0, 1) := by decide +kernel
theorem dX8_keep_6 : decode cX8_keep 6 = .ok (.getfield 150, 3) := by decide +kernel
theorem dX8_keep_9 : decode cX8_keep 9 = .ok (.bipush 40, 2) := by decide +kernel
theorem dX8_keep_11 : decode cX8_keep 11 = .ok (.if_icmp .le 6, 3) := by decide +kernel
theorem dX8_keep_14 : decode cX8_keep 14 = .ok (.bipush (-102), 2) := by decide +kernel
theorem dX8_keep_16 : decode cX8_keep 16 = .ok (.ireturn, 1) := by decide +kernel
theorem dX8_keep_17 : decode cX8_keep 17 = .ok (.aload_n 0, 1) := by decide +kernel
theorem dX8_keep_18 : decode cX8_keep 18 = .ok (.invokevirtual 224, 3) := by decide +kernel
theorem dX8_keep_21 : decode cX8_keep 21 = .ok (.istore_n 1, 1) := by decide +kernel
theorem dX8_keep_22 : decode cX8_keep 22 = .ok (.aload_n 0, 1) := by decide +kernel
theorem dX8_keep_23 : decode cX8_keep 23 = .ok (.iload_n 1, 1) := by decide +kernel
theorem dX8_keep_24 : decode cX8_keep 24 = .ok (.invokevirtual 228, 3) := by decide +kernel
theorem dX8_keep_27 : decode cX8_keep 27 = .ok (.istore_n 2, 1) := by decide +kernel
theorem dX8_keep_28 : decode cX8_keep 28 = .ok (.iload_n 2, 1) := by decide +kernel
theorem dX8_keep_29 : decode cX8_keep 29 = .ok (.ifCond .ge 15, 3) := by decide +kernel
theorem dX8_keep_32 : decode cX8_keep 32 = .ok (.aload_n 0, 1) := by decide +kernel
theorem dX8_keep_33 : decode cX8_keep 33 = .ok (.getfield 218, 3) := by decide +kernel
theorem dX8_keep_36 : decode cX8_keep 36 = .ok (.bipush 40, 2) := by decide +kernel
theorem dX8_keep_38 : decode cX8_keep 38 = .ok (.if_icmp .ne 6, 3) := by decide +kernel
theorem dX8_keep_41 : decode cX8_keep 41 = .ok (.bipush (-103), 2) := by decide +kernel
theorem dX8_keep_43 : decode cX8_keep 43 = .ok (.ireturn, 1) := by decide +kernel
theorem dX8_keep_44 : decode cX8_keep 44 = .ok (.aload_n 0, 1) := by decide +kernel
theorem dX8_keep_45 : decode cX8_keep 45 = .ok (.aload_n 0, 1) := by decide +kernel
theorem dX8_keep_46 : decode cX8_keep 46 = .ok (.getfield 215, 3) := by decide +kernel
theorem dX8_keep_49 : decode cX8_keep 49 = .ok (.putfield 231, 3) := by decide +kernel
theorem dX8_keep_52 : decode cX8_keep 52 = .ok (.iload_n 2, 1) := by decide +kernel
theorem dX8_keep_53 : decode cX8_keep 53 = .ok (.ifCond .ge 68, 3) := by decide +kernel
theorem dX8_keep_56 : decode cX8_keep 56 = .ok (.aload_n 0, 1) := by decide +kernel
theorem dX8_keep_57 : decode cX8_keep 57 = .ok (.getfield 218, 3) := by decide +kernel
theorem dX8_keep_60 : decode cX8_keep 60 = .ok (.istore_n 2, 1) := by decide +kernel
theorem dX8_keep_61 : decode cX8_keep 61 = .ok (.aload_n 0, 1) := by decide +kernel
theorem dX8_keep_62 : decode cX8_keep 62 = .ok (.getfield 92, 3) := by decide +kernel
theorem dX8_keep_65 : decode cX8_keep 65 = .ok (.iload_n 2, 1) := by decide +kernel
theorem dX8_keep_66 : decode cX8_keep 66 = .ok (.aload_n 0, 1) := by decide +kernel
theorem dX8_keep_67 : decode cX8_keep 67 = .ok (.getfield 150, 3) := by decide +kernel
theorem dX8_keep_70 : decode cX8_keep 70 = .ok (.iastore, 1) := by decide +kernel
theorem dX8_keep_71 : decode cX8_keep 71 = .ok (.aload_n 0, 1) := by decide +kernel
theorem dX8_keep_72 : decode cX8_keep 72 = .ok (.getfield 98, 3) := by decide +kernel
theorem dX8_keep_75 : decode cX8_keep 75 = .ok (.iload_n 2, 1) := by decide +kernel
theorem dX8_keep_76 : decode cX8_keep 76 = .ok (.iload_n 1, 1) := by decide +kernel
theorem dX8_keep_77 : decode cX8_keep 77 = .ok (.iastore, 1) := by decide +kernel
theorem dX8_keep_78 : decode cX8_keep 78 = .ok (.iconst 0, 1) := by decide +kernel
theorem dX8_keep_79 : decode cX8_keep 79 = .ok (.istore_n 3, 1) := by decide +kernel
theorem dX8_keep_80 : decode cX8_keep 80 = .ok (.iload_n 3, 1) := by decide +kernel
theorem dX8_keep_81 : decode cX8_keep 81 = .ok (.aload_n 0, 1) := by decide +kernel
theorem dX8_keep_82 : decode cX8_keep 82 = .ok (.getfield 150, 3) := by decide +kernel
theorem dX8_keep_85 : decode cX8_keep 85 = .ok (.if_icmp .ge 26, 3) := by decide +kernel
theorem dX8_keep_88 : decode cX8_keep 88 = .ok (.aload_n 0, 1) := by decide +kernel
theorem dX8_keep_89 : decode cX8_keep 89 = .ok (.getfield 95, 3) := by decide +kernel
theorem dX8_keep_92 : decode cX8_keep 92 = .ok (.bipush 40, 2) := by decide +kernel
theorem dX8_keep_94 : decode cX8_keep 94 = .ok (.iload_n 2, 1) := by decide +kernel
theorem dX8_keep_95 : decode cX8_keep 95 = .ok (.imul, 1) := by decide +kernel
theorem dX8_keep_96 : decode cX8_keep 96 = .ok (.iload_n 3, 1) := by decide +kernel
theorem dX8_keep_97 : decode cX8_keep 97 = .ok (.iadd, 1) := by decide +kernel
theorem dX8_keep_98 : decode cX8_keep 98 = .ok (.aload_n 0, 1) := by decide +kernel
theorem dX8_keep_99 : decode cX8_keep 99 = .ok (.getfield 38, 3) := by decide +kernel
theorem dX8_keep_102 : decode cX8_keep 102 = .ok (.iload_n 3, 1) := by decide +kernel
theorem dX8_keep_103 : decode cX8_keep 103 = .ok (.iaload, 1) := by decide +kernel
theorem dX8_keep_104 : decode cX8_keep 104 = .ok (.iastore, 1) := by decide +kernel
theorem dX8_keep_105 : decode cX8_keep 105 = .ok (.iinc 3 1, 3) := by decide +kernel
theorem dX8_keep_108 : decode cX8_keep 108 = .ok (.goto (-28), 3) := by decide +kernel
theorem dX8_keep_111 : decode cX8_keep 111 = .ok (.aload_n 0, 1) := by decide +kernel
theorem dX8_keep_112 : decode cX8_keep 112 = .ok (.dup, 1) := by decide +kernel
theorem dX8_keep_113 : decode cX8_keep 113 = .ok (.getfield 218, 3) := by decide +kernel
theorem dX8_keep_116 : decode cX8_keep 116 = .ok (.iconst 1, 1) := by decide +kernel
theorem dX8_keep_117 : decode cX8_keep 117 = .ok (.iadd, 1) := by decide +kernel
theorem dX8_keep_118 : decode cX8_keep 118 = .ok (.putfield 218, 3) := by decide +kernel
theorem dX8_keep_121 : decode cX8_keep 121 = .ok (.aload_n 0, 1) := by decide +kernel
theorem dX8_keep_122 : decode cX8_keep 122 = .ok (.iconst 0, 1) := by decide +kernel
theorem dX8_keep_123 : decode cX8_keep 123 = .ok (.putfield 150, 3) := by decide +kernel
theorem dX8_keep_126 : decode cX8_keep 126 = .ok (.iload_n 2, 1) := by decide +kernel
theorem dX8_keep_127 : decode cX8_keep 127 = .ok (.ireturn, 1) := by decide +kernel
theorem dX8_find_0 : decode cX8_find 0 = .ok (.aload_n 0, 1) := by decide +kernel
theorem dX8_find_1 : decode cX8_find 1 = .ok (.iconst 0, 1) := by decide +kernel
theorem dX8_find_2 : decode cX8_find 2 = .ok (.putfield 143, 3) := by decide +kernel
theorem dX8_find_5 : decode cX8_find 5 = .ok (.aload_n 0, 1) := by decide +kernel
theorem dX8_find_6 : decode cX8_find 6 = .ok (.getfield 150, 3) := by decide +kernel
theorem dX8_find_9 : decode cX8_find 9 = .ok (.bipush 40, 2) := by decide +kernel
theorem dX8_find_11 : decode cX8_find 11 = .ok (.if_icmp .le 6, 3) := by decide +kernel
theorem dX8_find_14 : decode cX8_find 14 = .ok (.bipush (-102), 2) := by decide +kernel
theorem dX8_find_16 : decode cX8_find 16 = .ok (.ireturn, 1) := by decide +kernel
theorem dX8_find_17 : decode cX8_find 17 = .ok (.aload_n 0, 1) := by decide +kernel
end
section
theorem dX8_find_18 : decode cX8_find 18 = .ok (.aload_n 0, 1) := by decide +kernel
theorem dX8_find_19 : decode cX8_find 19 = .ok (.invokevirtual 224, 3) := by decide +kernel
theorem dX8_find_22 : decode cX8_find 22 = .ok (.invokevirtual 228, 3) := by decide +kernel
theorem dX8_find_25 : decode cX8_find 25 = .ok (.istore_n 1, 1) := by decide +kernel
theorem dX8_find_26 : decode cX8_find 26 = .ok (.aload_n 0, 1) := by decide +kernel
theorem dX8_find_27 : decode cX8_find 27 = .ok (.aload_n 0, 1) := by decide +kernel
theorem dX8_find_28 : decode cX8_find 28 = .ok (.getfield 215, 3) := by decide +kernel
theorem dX8_find_31 : decode cX8_find 31 = .ok (.putfield 231, 3) := by decide +kernel
theorem dX8_find_34 : decode cX8_find 34 = .ok (.aload_n 0, 1) := by decide +kernel
theorem dX8_find_35 : decode cX8_find 35 = .ok (.iconst 0, 1) := by decide +kernel
theorem dX8_find_36 : decode cX8_find 36 = .ok (.putfield 150, 3) := by decide +kernel
theorem dX8_find_39 : decode cX8_find 39 = .ok (.iload_n 1, 1) := by decide +kernel
theorem dX8_find_40 : decode cX8_find 40 = .ok (.ireturn, 1) := by decide +kernel
theorem dX8_row_0 : decode cX8_row 0 = .ok (.aload_n 0, 1) := by decide +kernel
theorem dX8_row_1 : decode cX8_row 1 = .ok (.iload_n 1, 1) := by decide +kernel
theorem dX8_row_2 : decode cX8_row 2 = .ok (.iconst 0, 1) := by decide +kernel
theorem dX8_row_3 : decode cX8_row 3 = .ok (.bipush 39, 2) := by decide +kernel
theorem dX8_row_5 : decode cX8_row 5 = .ok (.invokestatic 146, 3) := by decide +kernel
theorem dX8_row_8 : decode cX8_row 8 = .ok (.ifCond .ne 7, 3) := by decide +kernel
theorem dX8_row_11 : decode cX8_row 11 = .ok (.iconst 2, 1) := by decide +kernel
theorem dX8_row_12 : decode cX8_row 12 = .ok (.goto 36, 3) := by decide +kernel
theorem dX8_row_15 : decode cX8_row 15 = .ok (.iload_n 1, 1) := by decide +kernel
theorem dX8_row_16 : decode cX8_row 16 = .ok (.aload_n 0, 1) := by decide +kernel
theorem dX8_row_17 : decode cX8_row 17 = .ok (.getfield 218, 3) := by decide +kernel
theorem dX8_row_20 : decode cX8_row 20 = .ok (.if_icmp .lt 7, 3) := by decide +kernel
theorem dX8_row_23 : decode cX8_row 23 = .ok (.iconst 1, 1) := by decide +kernel
theorem dX8_row_24 : decode cX8_row 24 = .ok (.goto 24, 3) := by decide +kernel
theorem dX8_row_27 : decode cX8_row 27 = .ok (.iload_n 2, 1) := by decide +kernel
theorem dX8_row_28 : decode cX8_row 28 = .ok (.iconst 0, 1) := by decide +kernel
theorem dX8_row_29 : decode cX8_row 29 = .ok (.aload_n 0, 1) := by decide +kernel
theorem dX8_row_30 : decode cX8_row 30 = .ok (.getfield 92, 3) := by decide +kernel
theorem dX8_row_33 : decode cX8_row 33 = .ok (.iload_n 1, 1) := by decide +kernel
theorem dX8_row_34 : decode cX8_row 34 = .ok (.iaload, 1) := by decide +kernel
theorem dX8_row_35 : decode cX8_row 35 = .ok (.iconst 1, 1) := by decide +kernel
theorem dX8_row_36 : decode cX8_row 36 = .ok (.isub, 1) := by decide +kernel
theorem dX8_row_37 : decode cX8_row 37 = .ok (.invokestatic 146, 3) := by decide +kernel
theorem dX8_row_40 : decode cX8_row 40 = .ok (.ifCond .eq 7, 3) := by decide +kernel
theorem dX8_row_43 : decode cX8_row 43 = .ok (.iconst 0, 1) := by decide +kernel
theorem dX8_row_44 : decode cX8_row 44 = .ok (.goto 4, 3) := by decide +kernel
theorem dX8_row_47 : decode cX8_row 47 = .ok (.iconst 2, 1) := by decide +kernel
theorem dX8_row_48 : decode cX8_row 48 = .ok (.putfield 143, 3) := by decide +kernel
theorem dX8_row_51 : decode cX8_row 51 = .ok (.aload_n 0, 1) := by decide +kernel
theorem dX8_row_52 : decode cX8_row 52 = .ok (.getfield 143, 3) := by decide +kernel
theorem dX8_row_55 : decode cX8_row 55 = .ok (.ifCond .le 7, 3) := by decide +kernel
theorem dX8_row_58 : decode cX8_row 58 = .ok (.iconst 0, 1) := by decide +kernel
theorem dX8_row_59 : decode cX8_row 59 = .ok (.goto 15, 3) := by decide +kernel
theorem dX8_row_62 : decode cX8_row 62 = .ok (.aload_n 0, 1) := by decide +kernel
theorem dX8_row_63 : decode cX8_row 63 = .ok (.getfield 95, 3) := by decide +kernel
theorem dX8_row_66 : decode cX8_row 66 = .ok (.bipush 40, 2) := by decide +kernel
theorem dX8_row_68 : decode cX8_row 68 = .ok (.iload_n 1, 1) := by decide +kernel
theorem dX8_row_69 : decode cX8_row 69 = .ok (.imul, 1) := by decide +kernel
theorem dX8_row_70 : decode cX8_row 70 = .ok (.iload_n 2, 1) := by decide +kernel
theorem dX8_row_71 : decode cX8_row 71 = .ok (.iadd, 1) := by decide +kernel
theorem dX8_row_72 : decode cX8_row 72 = .ok (.iaload, 1) := by decide +kernel
theorem dX8_row_73 : decode cX8_row 73 = .ok (.i2b, 1) := by decide +kernel
theorem dX8_row_74 : decode cX8_row 74 = .ok (.ireturn, 1) := by decide +kernel
theorem dX8_about_0 : decode cX8_about 0 = .ok (.aload_n 0, 1) := by decide +kernel
theorem dX8_about_1 : decode cX8_about 1 = .ok (.iconst 0, 1) := by decide +kernel
theorem dX8_about_2 : decode cX8_about 2 = .ok (.putfield 143, 3) := by decide +kernel
theorem dX8_about_5 : decode cX8_about 5 = .ok (.iload_n 1, 1) := by decide +kernel
theorem dX8_about_6 : decode cX8_about 6 = .ok (.tableswitch 65 0 5 #[38, 43, 48, 53, 58, 63], 38) := by decide +kernel
theorem dX8_about_44 : decode cX8_about 44 = .ok (.aload_n 0, 1) := by decide +kernel
theorem dX8_about_45 : decode cX8_about 45 = .ok (.getfield 150, 3) := by decide +kernel
theorem dX8_about_48 : decode cX8_about 48 = .ok (.ireturn, 1) := by decide +kernel
theorem dX8_about_49 : decode cX8_about 49 = .ok (.aload_n 0, 1) := by decide +kernel
theorem dX8_about_50 : decode cX8_about 50 = .ok (.getfield 156, 3) := by decide +kernel
theorem dX8_about_53 : decode cX8_about 53 = .ok (.ireturn, 1) := by decide +kernel
theorem dX8_about_54 : decode cX8_about 54 = .ok (.aload_n 0, 1) := by decide +kernel
theorem dX8_about_55 : decode cX8_about 55 = .ok (.getfield 218, 3) := by decide +kernel
theorem dX8_about_58 : decode cX8_about 58 = .ok (.ireturn, 1) := by decide +kernel
theorem dX8_about_59 : decode cX8_about 59 = .ok (.aload_n 0, 1) := by decide +kernel
theorem dX8_about_60 : decode cX8_about 60 = .ok (.invokevirtual 234, 3) := by decide +kernel
theorem dX8_about_63 : decode cX8_about 63 = .ok (.ireturn, 1) := by decide +kernel
theorem dX8_about_64 : decode cX8_about 64 = .ok (.aload_n 0, 1) := by decide +kernel
theorem dX8_about_65 : decode cX8_about 65 = .ok (.getfield 231, 3) := by decide +kernel
theorem dX8_about_68 : decode cX8_about 68 = .ok (.ireturn, 1) := by decide +kernel
theorem dX8_about_69 : decode cX8_about 69 = .ok (.iconst 1, 1) := by decide +kernel
theorem dX8_about_70 : decode cX8_about 70 = .ok (.ireturn, 1) := by decide +kernel
theorem dX8_about_71 : decode cX8_about 71 = .ok (.bipush (-102), 2) := by decide +kernel
theorem dX8_about_73 : decode cX8_about 73 = .ok (.ireturn, 1) := by decide +kernel
theorem dX8_pairs_0 : decode cX8_pairs 0 = .ok (.iconst 0, 1) := by decide +kernel
theorem dX8_pairs_1 : decode cX8_pairs 1 = .ok (.istore_n 1, 1) := by decide +kernel
theorem dX8_pairs_2 : decode cX8_pairs 2 = .ok (.iconst 0, 1) := by decide +kernel
theorem dX8_pairs_3 : decode cX8_pairs 3 = .ok (.istore_n 2, 1) := by decide +kernel
theorem dX8_pairs_4 : decode cX8_pairs 4 = .ok (.iload_n 2, 1) := by decide +kernel
theorem dX8_pairs_5 : decode cX8_pairs 5 = .ok (.aload_n 0, 1) := by decide +kernel
theorem dX8_pairs_6 : decode cX8_pairs 6 = .ok (.getfield 218, 3) := by decide +kernel
theorem dX8_pairs_9 : decode cX8_pairs 9 = .ok (.if_icmp .ge 45, 3) := by decide +kernel
theorem dX8_pairs_12 : decode cX8_pairs 12 = .ok (.iconst 0, 1) := by decide +kernel
theorem dX8_pairs_13 : decode cX8_pairs 13 = .ok (.istore_n 3, 1) := by decide +kernel
theorem dX8_pairs_14 : decode cX8_pairs 14 = .ok (.iload_n 3, 1) := by decide +kernel
theorem dX8_pairs_15 : decode cX8_pairs 15 = .ok (.iload_n 2, 1) := by decide +kernel
theorem dX8_pairs_16 : decode cX8_pairs 16 = .ok (.if_icmp .ge 32, 3) := by decide +kernel
theorem dX8_pairs_19 : decode cX8_pairs 19 = .ok (.iload_n 1, 1) := by decide +kernel
theorem dX8_pairs_20 : decode cX8_pairs 20 = .ok (.aload_n 0, 1) := by decide +kernel
theorem dX8_pairs_21 : decode cX8_pairs 21 = .ok (.getfield 98, 3) := by decide +kernel
theorem dX8_pairs_24 : decode cX8_pairs 24 = .ok (.iload_n 2, 1) := by decide +kernel
theorem dX8_pairs_25 : decode cX8_pairs 25 = .ok (.iaload, 1) := by decide +kernel
theorem dX8_pairs_26 : decode cX8_pairs 26 = .ok (.aload_n 0, 1) := by decide +kernel
theorem dX8_pairs_27 : decode cX8_pairs 27 = .ok (.getfield 98, 3) := by decide +kernel
theorem dX8_pairs_30 : decode cX8_pairs 30 = .ok (.iload_n 3, 1) := by decide +kernel
theorem dX8_pairs_31 : decode cX8_pairs 31 = .ok (.iaload, 1) := by decide +kernel
theorem dX8_pairs_32 : decode cX8_pairs 32 = .ok (.if_icmp .ne 7, 3) := by decide +kernel
theorem dX8_pairs_35 : decode cX8_pairs 35 = .ok (.iconst 1, 1) := by decide +kernel
theorem dX8_pairs_36 : decode cX8_pairs 36 = .ok (.goto 4, 3) := by decide +kernel
theorem dX8_pairs_39 : decode cX8_pairs 39 = .ok (.iconst 0, 1) := by decide +kernel
theorem dX8_pairs_40 : decode cX8_pairs 40 = .ok (.iadd, 1) := by decide +kernel
theorem dX8_pairs_41 : decode cX8_pairs 41 = .ok (.istore_n 1, 1) := by decide +kernel
theorem dX8_pairs_42 : decode cX8_pairs 42 = .ok (.iinc 3 1, 3) := by decide +kernel
theorem dX8_pairs_45 : decode cX8_pairs 45 = .ok (.goto (-31), 3) := by decide +kernel
theorem dX8_pairs_48 : decode cX8_pairs 48 = .ok (.iinc 2 1, 3) := by decide +kernel
theorem dX8_pairs_51 : decode cX8_pairs 51 = .ok (.goto (-47), 3) := by decide +kernel
theorem dX8_pairs_54 : decode cX8_pairs 54 = .ok (.iload_n 1, 1) := by decide +kernel
theorem dX8_pairs_55 : decode cX8_pairs 55 = .ok (.ireturn, 1) := by decide +kernel
theorem dX8_clear_0 : decode cX8_clear 0 = .ok (.aload_n 0, 1) := by decide +kernel
theorem dX8_clear_1 : decode cX8_clear 1 = .ok (.iconst 0, 1) := by decide +kernel
theorem dX8_clear_2 : decode cX8_clear 2 = .ok (.putfield 143, 3) := by decide +kernel
theorem dX8_clear_5 : decode cX8_clear 5 = .ok (.aload_n 0, 1) := by decide +kernel
theorem dX8_clear_6 : decode cX8_clear 6 = .ok (.getfield 156, 3) := by decide +kernel
theorem dX8_clear_9 : decode cX8_clear 9 = .ok (.istore_n 1, 1) := by decide +kernel
theorem dX8_clear_10 : decode cX8_clear 10 = .ok (.aload_n 0, 1) := by decide +kernel
theorem dX8_clear_11 : decode cX8_clear 11 = .ok (.iconst 0, 1) := by decide +kernel
theorem dX8_clear_12 : decode cX8_clear 12 = .ok (.putfield 150, 3) := by decide +kernel
theorem dX8_clear_15 : decode cX8_clear 15 = .ok (.aload_n 0, 1) := by decide +kernel
theorem dX8_clear_16 : decode cX8_clear 16 = .ok (.iconst 0, 1) := by decide +kernel
theorem dX8_clear_17 : decode cX8_clear 17 = .ok (.putfield 153, 3) := by decide +kernel
theorem dX8_clear_20 : decode cX8_clear 20 = .ok (.aload_n 0, 1) := by decide +kernel
theorem dX8_clear_21 : decode cX8_clear 21 = .ok (.iconst 0, 1) := by decide +kernel
theorem dX8_clear_22 : decode cX8_clear 22 = .ok (.putfield 156, 3) := by decide +kernel
theorem dX8_clear_25 : decode cX8_clear 25 = .ok (.aload_n 0, 1) := by decide +kernel
theorem dX8_clear_26 : decode cX8_clear 26 = .ok (.iconst 0, 1) := by decide +kernel
theorem dX8_clear_27 : decode cX8_clear 27 = .ok (.putfield 208, 3) := by decide +kernel
theorem dX8_clear_30 : decode cX8_clear 30 = .ok (.aload_n 0, 1) := by decide +kernel
theorem dX8_clear_31 : decode cX8_clear 31 = .ok (.iconst 0, 1) := by decide +kernel
theorem dX8_clear_32 : decode cX8_clear 32 = .ok (.putfield 218, 3) := by decide +kernel
theorem dX8_clear_35 : decode cX8_clear 35 = .ok (.aload_n 0, 1) := by decide +kernel
theorem dX8_clear_36 : decode cX8_clear 36 = .ok (.iconst 0, 1) := by decide +kernel
theorem dX8_clear_37 : decode cX8_clear 37 = .ok (.putfield 231, 3) := by decide +kernel
theorem dX8_clear_40 : decode cX8_clear 40 = .ok (.iconst 0, 1) := by decide +kernel
theorem dX8_clear_41 : decode cX8_clear 41 = .ok (.istore_n 2, 1) := by decide +kernel
theorem dX8_clear_42 : decode cX8_clear 42 = .ok (.iload_n 2, 1) := by decide +kernel
theorem dX8_clear_43 : decode cX8_clear 43 = .ok (.iconst 4, 1) := by decide +kernel
theorem dX8_clear_44 : decode cX8_clear 44 = .ok (.if_icmp .ge 23, 3) := by decide +kernel
theorem dX8_clear_47 : decode cX8_clear 47 = .ok (.aload_n 0, 1) := by decide +kernel
theorem dX8_clear_48 : decode cX8_clear 48 = .ok (.getfield 74, 3) := by decide +kernel
theorem dX8_clear_51 : decode cX8_clear 51 = .ok (.iload_n 2, 1) := by decide +kernel
theorem dX8_clear_52 : decode cX8_clear 52 = .ok (.iconst 0, 1) := by decide +kernel
theorem dX8_clear_53 : decode cX8_clear 53 = .ok (.iastore, 1) := by decide +kernel
theorem dX8_clear_54 : decode cX8_clear 54 = .ok (.aload_n 0, 1) := by decide +kernel
theorem dX8_clear_55 : decode cX8_clear 55 = .ok (.getfield 68, 3) := by decide +kernel
theorem dX8_clear_58 : decode cX8_clear 58 = .ok (.iload_n 2, 1) := by decide +kernel
theorem dX8_clear_59 : decode cX8_clear 59 = .ok (.iconst (-1), 1) := by decide +kernel
theorem dX8_clear_60 : decode cX8_clear 60 = .ok (.iastore, 1) := by decide +kernel
theorem dX8_clear_61 : decode cX8_clear 61 = .ok (.iinc 2 1, 3) := by decide +kernel
theorem dX8_clear_64 : decode cX8_clear 64 = .ok (.goto (-22), 3) := by decide +kernel
theorem dX8_clear_67 : decode cX8_clear 67 = .ok (.iload_n 1, 1) := by decide +kernel
theorem dX8_clear_68 : decode cX8_clear 68 = .ok (.ireturn, 1) := by decide +kernel
theorem dJx00060_init_a7421_0 : decode cJx00060_init_a7421 0 = .ok (.aload_n 0, 1) := by decide +kernel
theorem dJx00060_init_a7421_1 : decode cJx00060_init_a7421 1 = .ok (.aload_n 1, 1) := by decide +kernel
theorem dJx00060_init_a7421_2 : decode cJx00060_init_a7421 2 = .ok (.invokespecial 7, 3) := by decide +kernel
theorem dJx00060_init_a7421_5 : decode cJx00060_init_a7421 5 = .ok (.return_, 1) := by decide +kernel
theorem dJ6_rotateRight_7cf53_0 : decode cJ6_rotateRight_7cf53 0 = .ok (.iload_n 0, 1) := by decide +kernel
theorem dJ6_rotateRight_7cf53_1 : decode cJ6_rotateRight_7cf53 1 = .ok (.iload_n 1, 1) := by decide +kernel
theorem dJ6_rotateRight_7cf53_2 : decode cJ6_rotateRight_7cf53 2 = .ok (.iushr, 1) := by decide +kernel
theorem dJ6_rotateRight_7cf53_3 : decode cJ6_rotateRight_7cf53 3 = .ok (.iload_n 0, 1) := by decide +kernel
theorem dJ6_rotateRight_7cf53_4 : decode cJ6_rotateRight_7cf53 4 = .ok (.iload_n 1, 1) := by decide +kernel
theorem dJ6_rotateRight_7cf53_5 : decode cJ6_rotateRight_7cf53 5 = .ok (.ineg, 1) := by decide +kernel
theorem dJ6_rotateRight_7cf53_6 : decode cJ6_rotateRight_7cf53 6 = .ok (.ishl, 1) := by decide +kernel
theorem dJ6_rotateRight_7cf53_7 : decode cJ6_rotateRight_7cf53 7 = .ok (.ior, 1) := by decide +kernel
theorem dJ6_rotateRight_7cf53_8 : decode cJ6_rotateRight_7cf53 8 = .ok (.ireturn, 1) := by decide +kernel
theorem dJx5d777_init_da8c8_0 : decode cJx5d777_init_da8c8 0 = .ok (.aload_n 0, 1) := by decide +kernel
theorem dJx5d777_init_da8c8_1 : decode cJx5d777_init_da8c8 1 = .ok (.invokespecial 1, 3) := by decide +kernel
theorem dJx5d777_init_da8c8_4 : decode cJx5d777_init_da8c8 4 = .ok (.return_, 1) := by decide +kernel
theorem dJx5d777_init_a7421_0 : decode cJx5d777_init_a7421 0 = .ok (.aload_n 0, 1) := by decide +kernel
theorem dJx5d777_init_a7421_1 : decode cJx5d777_init_a7421 1 = .ok (.aload_n 1, 1) := by decide +kernel
theorem dJx5d777_init_a7421_2 : decode cJx5d777_init_a7421 2 = .ok (.invokespecial 7, 3) := by decide +kernel
theorem dJx5d777_init_a7421_5 : decode cJx5d777_init_a7421 5 = .ok (.return_, 1) := by decide +kernel
theorem dJx5d777_fillInStackTrace_cddbd_0 : decode cJx5d777_fillInStackTrace_cddbd 0 = .ok (.aload_n 0, 1) := by decide +kernel
theorem dJx5d777_fillInStackTrace_cddbd_1 : decode cJx5d777_fillInStackTrace_cddbd 1 = .ok (.getfield 10, 3) := by decide +kernel
theorem dJx5d777_fillInStackTrace_cddbd_4 : decode cJx5d777_fillInStackTrace_cddbd 4 = .ok (.ifCond .ne 11, 3) := by decide +kernel
theorem dJx5d777_fillInStackTrace_cddbd_7 : decode cJx5d777_fillInStackTrace_cddbd 7 = .ok (.aload_n 0, 1) := by decide +kernel
theorem dJx5d777_fillInStackTrace_cddbd_8 : decode cJx5d777_fillInStackTrace_cddbd 8 = .ok (.iconst 1, 1) := by decide +kernel
theorem dJx5d777_fillInStackTrace_cddbd_9 : decode cJx5d777_fillInStackTrace_cddbd 9 = .ok (.putfield 10, 3) := by decide +kernel
theorem dJx5d777_fillInStackTrace_cddbd_12 : decode cJx5d777_fillInStackTrace_cddbd 12 = .ok (.goto 24, 3) := by decide +kernel
theorem dJx5d777_fillInStackTrace_cddbd_15 : decode cJx5d777_fillInStackTrace_cddbd 15 = .ok (.aload_n 0, 1) := by decide +kernel
theorem dJx5d777_fillInStackTrace_cddbd_16 : decode cJx5d777_fillInStackTrace_cddbd 16 = .ok (.getfield 10, 3) := by decide +kernel
theorem dJx5d777_fillInStackTrace_cddbd_19 : decode cJx5d777_fillInStackTrace_cddbd 19 = .ok (.iconst 1, 1) := by decide +kernel
theorem dJx5d777_fillInStackTrace_cddbd_20 : decode cJx5d777_fillInStackTrace_cddbd 20 = .ok (.if_icmp .ne 16, 3) := by decide +kernel
theorem dJx5d777_fillInStackTrace_cddbd_23 : decode cJx5d777_fillInStackTrace_cddbd 23 = .ok (.aload_n 0, 1) := by decide +kernel
theorem dJx5d777_fillInStackTrace_cddbd_24 : decode cJx5d777_fillInStackTrace_cddbd 24 = .ok (.aload_n 0, 1) := by decide +kernel
theorem dJx5d777_fillInStackTrace_cddbd_25 : decode cJx5d777_fillInStackTrace_cddbd 25 = .ok (.invokevirtual 16, 3) := by decide +kernel
theorem dJx5d777_fillInStackTrace_cddbd_28 : decode cJx5d777_fillInStackTrace_cddbd 28 = .ok (.putfield 20, 3) := by decide +kernel
theorem dJx5d777_fillInStackTrace_cddbd_31 : decode cJx5d777_fillInStackTrace_cddbd 31 = .ok (.aload_n 0, 1) := by decide +kernel
theorem dJx5d777_fillInStackTrace_cddbd_32 : decode cJx5d777_fillInStackTrace_cddbd 32 = .ok (.iconst 2, 1) := by decide +kernel
theorem dJx5d777_fillInStackTrace_cddbd_33 : decode cJx5d777_fillInStackTrace_cddbd 33 = .ok (.putfield 10, 3) := by decide +kernel
theorem dJx5d777_fillInStackTrace_cddbd_36 : decode cJx5d777_fillInStackTrace_cddbd 36 = .ok (.aload_n 0, 1) := by decide +kernel
theorem dJx5d777_fillInStackTrace_cddbd_37 : decode cJx5d777_fillInStackTrace_cddbd 37 = .ok (.invokespecial 24, 3) := by decide +kernel
theorem dJx5d777_fillInStackTrace_cddbd_40 : decode cJx5d777_fillInStackTrace_cddbd 40 = .ok (.areturn, 1) := by decide +kernel
theorem dJ7_fill_031fb_0 : decode cJ7_fill_031fb 0 = .ok (.iconst 0, 1) := by decide +kernel
theorem dJ7_fill_031fb_1 : decode cJ7_fill_031fb 1 = .ok (.istore_n 2, 1) := by decide +kernel
theorem dJ7_fill_031fb_2 : decode cJ7_fill_031fb 2 = .ok (.aload_n 0, 1) := by decide +kernel
theorem dJ7_fill_031fb_3 : decode cJ7_fill_031fb 3 = .ok (.arraylength, 1) := by decide +kernel
theorem dJ7_fill_031fb_4 : decode cJ7_fill_031fb 4 = .ok (.istore_n 3, 1) := by decide +kernel
theorem dJ7_fill_031fb_5 : decode cJ7_fill_031fb 5 = .ok (.iload_n 2, 1) := by decide +kernel
theorem dJ7_fill_031fb_6 : decode cJ7_fill_031fb 6 = .ok (.iload_n 3, 1) := by decide +kernel
theorem dJ7_fill_031fb_7 : decode cJ7_fill_031fb 7 = .ok (.if_icmp .ge 13, 3) := by decide +kernel
theorem dJ7_fill_031fb_10 : decode cJ7_fill_031fb 10 = .ok (.aload_n 0, 1) := by decide +kernel
theorem dJ7_fill_031fb_11 : decode cJ7_fill_031fb 11 = .ok (.iload_n 2, 1) := by decide +kernel
theorem dJ7_fill_031fb_12 : decode cJ7_fill_031fb 12 = .ok (.iload_n 1, 1) := by decide +kernel
theorem dJ7_fill_031fb_13 : decode cJ7_fill_031fb 13 = .ok (.bastore, 1) := by decide +kernel
theorem dJ7_fill_031fb_14 : decode cJ7_fill_031fb 14 = .ok (.iinc 2 1, 3) := by decide +kernel
theorem dJ7_fill_031fb_17 : decode cJ7_fill_031fb 17 = .ok (.goto (-12), 3) := by decide +kernel
theorem dJ7_fill_031fb_20 : decode cJ7_fill_031fb 20 = .ok (.return_, 1) := by decide +kernel
theorem dL_read_0 : decode cL_read 0 = .ok (.aload 4, 2) := by decide +kernel
theorem dL_read_2 : decode cL_read 2 = .ok (.iconst 0, 1) := by decide +kernel
theorem dL_read_3 : decode cL_read 3 = .ok (.aload_n 0, 1) := by decide +kernel
theorem dL_read_4 : decode cL_read 4 = .ok (.iload_n 1, 1) := by decide +kernel
theorem dL_read_5 : decode cL_read 5 = .ok (.iload_n 2, 1) := by decide +kernel
theorem dL_read_6 : decode cL_read 6 = .ok (.iload_n 3, 1) := by decide +kernel
theorem dL_read_7 : decode cL_read 7 = .ok (.invokevirtual 7, 3) := by decide +kernel
theorem dL_read_10 : decode cL_read 10 = .ok (.lastore, 1) := by decide +kernel
theorem dL_read_11 : decode cL_read 11 = .ok (.goto 7, 3) := by decide +kernel
theorem dL_read_14 : decode cL_read 14 = .ok (.astore 5, 2) := by decide +kernel
theorem dL_read_16 : decode cL_read 16 = .ok (.iconst 1, 1) := by decide +kernel
theorem dL_read_17 : decode cL_read 17 = .ok (.ireturn, 1) := by decide +kernel
theorem dL_read_18 : decode cL_read 18 = .ok (.iconst 0, 1) := by decide +kernel
theorem dL_read_19 : decode cL_read 19 = .ok (.ireturn, 1) := by decide +kernel
theorem dL_plan_0 : decode cL_plan 0 = .ok (.aload_n 3, 1) := by decide +kernel
theorem dL_plan_1 : decode cL_plan 1 = .ok (.iconst 0, 1) := by decide +kernel
theorem dL_plan_2 : decode cL_plan 2 = .ok (.aload_n 0, 1) := by decide +kernel
theorem dL_plan_3 : decode cL_plan 3 = .ok (.iload_n 1, 1) := by decide +kernel
theorem dL_plan_4 : decode cL_plan 4 = .ok (.iload_n 2, 1) := by decide +kernel
theorem dL_plan_5 : decode cL_plan 5 = .ok (.invokevirtual 15, 3) := by decide +kernel
theorem dL_plan_8 : decode cL_plan 8 = .ok (.lastore, 1) := by decide +kernel
theorem dL_plan_9 : decode cL_plan 9 = .ok (.goto 7, 3) := by decide +kernel
theorem dL_plan_12 : decode cL_plan 12 = .ok (.astore 4, 2) := by decide +kernel
theorem dL_plan_14 : decode cL_plan 14 = .ok (.iconst 1, 1) := by decide +kernel
theorem dL_plan_15 : decode cL_plan 15 = .ok (.ireturn, 1) := by decide +kernel
theorem dL_plan_16 : decode cL_plan 16 = .ok (.iconst 0, 1) := by decide +kernel
theorem dL_plan_17 : decode cL_plan 17 = .ok (.ireturn, 1) := by decide +kernel
theorem dL_table_0 : decode cL_table 0 = .ok (.aload_n 2, 1) := by decide +kernel
theorem dL_table_1 : decode cL_table 1 = .ok (.iconst 0, 1) := by decide +kernel
theorem dL_table_2 : decode cL_table 2 = .ok (.aload_n 0, 1) := by decide +kernel
theorem dL_table_3 : decode cL_table 3 = .ok (.iload_n 1, 1) := by decide +kernel
theorem dL_table_4 : decode cL_table 4 = .ok (.invokevirtual 19, 3) := by decide +kernel
theorem dL_table_7 : decode cL_table 7 = .ok (.i2l, 1) := by decide +kernel
theorem dL_table_8 : decode cL_table 8 = .ok (.lastore, 1) := by decide +kernel
theorem dL_table_9 : decode cL_table 9 = .ok (.goto 6, 3) := by decide +kernel
theorem dL_table_12 : decode cL_table 12 = .ok (.astore_n 3, 1) := by decide +kernel
theorem dL_table_13 : decode cL_table 13 = .ok (.iconst 1, 1) := by decide +kernel
theorem dL_table_14 : decode cL_table 14 = .ok (.ireturn, 1) := by decide +kernel
theorem dL_table_15 : decode cL_table 15 = .ok (.iconst 0, 1) := by decide +kernel
theorem dL_table_16 : decode cL_table 16 = .ok (.ireturn, 1) := by decide +kernel
theorem dL_row_0 : decode cL_row 0 = .ok (.aload_n 3, 1) := by decide +kernel
theorem dL_row_1 : decode cL_row 1 = .ok (.iconst 0, 1) := by decide +kernel
theorem dL_row_2 : decode cL_row 2 = .ok (.aload_n 0, 1) := by decide +kernel
theorem dL_row_3 : decode cL_row 3 = .ok (.iload_n 1, 1) := by decide +kernel
theorem dL_row_4 : decode cL_row 4 = .ok (.iload_n 2, 1) := by decide +kernel
theorem dL_row_5 : decode cL_row 5 = .ok (.invokevirtual 23, 3) := by decide +kernel
theorem dL_row_8 : decode cL_row 8 = .ok (.i2l, 1) := by decide +kernel
theorem dL_row_9 : decode cL_row 9 = .ok (.lastore, 1) := by decide +kernel
theorem dL_row_10 : decode cL_row 10 = .ok (.goto 11, 3) := by decide +kernel
theorem dL_row_13 : decode cL_row 13 = .ok (.astore 4, 2) := by decide +kernel
theorem dL_row_15 : decode cL_row 15 = .ok (.iconst 1, 1) := by decide +kernel
theorem dL_row_16 : decode cL_row 16 = .ok (.ireturn, 1) := by decide +kernel
theorem dL_row_17 : decode cL_row 17 = .ok (.astore 4, 2) := by decide +kernel
theorem dL_row_19 : decode cL_row 19 = .ok (.iconst 2, 1) := by decide +kernel
theorem dL_row_20 : decode cL_row 20 = .ok (.ireturn, 1) := by decide +kernel
theorem dL_row_21 : decode cL_row 21 = .ok (.iconst 0, 1) := by decide +kernel
theorem dL_row_22 : decode cL_row 22 = .ok (.ireturn, 1) := by decide +kernel
theorem dL_law_0 : decode cL_law 0 = .ok (.new 8, 3) := by decide +kernel
theorem dL_law_3 : decode cL_law 3 = .ok (.dup, 1) := by decide +kernel
theorem dL_law_4 : decode cL_law 4 = .ok (.invokespecial 29, 3) := by decide +kernel
theorem dL_law_7 : decode cL_law 7 = .ok (.astore_n 1, 1) := by decide +kernel
theorem dL_law_8 : decode cL_law 8 = .ok (.new 30, 3) := by decide +kernel
theorem dL_law_11 : decode cL_law 11 = .ok (.dup, 1) := by decide +kernel
theorem dL_law_12 : decode cL_law 12 = .ok (.invokespecial 32, 3) := by decide +kernel
theorem dL_law_15 : decode cL_law 15 = .ok (.astore_n 2, 1) := by decide +kernel
theorem dL_law_16 : decode cL_law 16 = .ok (.iconst 1, 1) := by decide +kernel
theorem dL_law_17 : decode cL_law 17 = .ok (.newarray .long, 2) := by decide +kernel
theorem dL_law_19 : decode cL_law 19 = .ok (.astore_n 3, 1) := by decide +kernel
theorem dL_law_20 : decode cL_law 20 = .ok (.iconst 0, 1) := by decide +kernel
theorem dL_law_21 : decode cL_law 21 = .ok (.istore 4, 2) := by decide +kernel
theorem dL_law_23 : decode cL_law 23 = .ok (.iload 4, 2) := by decide +kernel
theorem dL_law_25 : decode cL_law 25 = .ok (.aload_n 0, 1) := by decide +kernel
theorem dL_law_26 : decode cL_law 26 = .ok (.arraylength, 1) := by decide +kernel
theorem dL_law_27 : decode cL_law 27 = .ok (.iconst 5, 1) := by decide +kernel
theorem dL_law_28 : decode cL_law 28 = .ok (.isub, 1) := by decide +kernel
theorem dL_law_29 : decode cL_law 29 = .ok (.if_icmp .gt 1006, 3) := by decide +kernel
theorem dL_law_32 : decode cL_law 32 = .ok (.aload_n 0, 1) := by decide +kernel
theorem dL_law_33 : decode cL_law 33 = .ok (.iload 4, 2) := by decide +kernel
theorem dL_law_35 : decode cL_law 35 = .ok (.iaload, 1) := by decide +kernel
theorem dL_law_36 : decode cL_law 36 = .ok (.bipush 31, 2) := by decide +kernel
theorem dL_law_38 : decode cL_law 38 = .ok (.iand, 1) := by decide +kernel
theorem dL_law_39 : decode cL_law 39 = .ok (.tableswitch 990 0 22 #[105, 174, 187, 212, 249, 274, 299, 336, 415, 482, 519, 575, 612, 661, 686, 711, 748, 797, 858, 871, 884, 952, 977], 105) := by decide +kernel
theorem dL_law_144 : decode cL_law 144 = .ok (.aload_n 1, 1) := by decide +kernel
theorem dL_law_145 : decode cL_law 145 = .ok (.aload_n 0, 1) := by decide +kernel
theorem dL_law_146 : decode cL_law 146 = .ok (.iload 4, 2) := by decide +kernel
theorem dL_law_148 : decode cL_law 148 = .ok (.iconst 1, 1) := by decide +kernel
theorem dL_law_149 : decode cL_law 149 = .ok (.iadd, 1) := by decide +kernel
theorem dL_law_150 : decode cL_law 150 = .ok (.iaload, 1) := by decide +kernel
theorem dL_law_151 : decode cL_law 151 = .ok (.aload_n 0, 1) := by decide +kernel
theorem dL_law_152 : decode cL_law 152 = .ok (.iload 4, 2) := by decide +kernel
theorem dL_law_154 : decode cL_law 154 = .ok (.iconst 2, 1) := by decide +kernel
theorem dL_law_155 : decode cL_law 155 = .ok (.iadd, 1) := by decide +kernel
theorem dL_law_156 : decode cL_law 156 = .ok (.iaload, 1) := by decide +kernel
theorem dL_law_157 : decode cL_law 157 = .ok (.i2l, 1) := by decide +kernel
theorem dL_law_158 : decode cL_law 158 = .ok (.bipush 32, 2) := by decide +kernel
theorem dL_law_160 : decode cL_law 160 = .ok (.lshl, 1) := by decide +kernel
theorem dL_law_161 : decode cL_law 161 = .ok (.aload_n 0, 1) := by decide +kernel
theorem dL_law_162 : decode cL_law 162 = .ok (.iload 4, 2) := by decide +kernel
theorem dL_law_164 : decode cL_law 164 = .ok (.iconst 3, 1) := by decide +kernel
theorem dL_law_165 : decode cL_law 165 = .ok (.iadd, 1) := by decide +kernel
theorem dL_law_166 : decode cL_law 166 = .ok (.iaload, 1) := by decide +kernel
theorem dL_law_167 : decode cL_law 167 = .ok (.i2l, 1) := by decide +kernel
theorem dL_law_168 : decode cL_law 168 = .ok (.ldc2_w 33, 3) := by decide +kernel
theorem dL_law_171 : decode cL_law 171 = .ok (.land, 1) := by decide +kernel
theorem dL_law_172 : decode cL_law 172 = .ok (.lor, 1) := by decide +kernel
theorem dL_law_173 : decode cL_law 173 = .ok (.invokevirtual 35, 3) := by decide +kernel
theorem dL_law_176 : decode cL_law 176 = .ok (.aload_n 2, 1) := by decide +kernel
theorem dL_law_177 : decode cL_law 177 = .ok (.aload_n 0, 1) := by decide +kernel
theorem dL_law_178 : decode cL_law 178 = .ok (.iload 4, 2) := by decide +kernel
theorem dL_law_180 : decode cL_law 180 = .ok (.iconst 1, 1) := by decide +kernel
theorem dL_law_181 : decode cL_law 181 = .ok (.iadd, 1) := by decide +kernel
theorem dL_law_182 : decode cL_law 182 = .ok (.iaload, 1) := by decide +kernel
theorem dL_law_183 : decode cL_law 183 = .ok (.aload_n 0, 1) := by decide +kernel
theorem dL_law_184 : decode cL_law 184 = .ok (.iload 4, 2) := by decide +kernel
theorem dL_law_186 : decode cL_law 186 = .ok (.iconst 2, 1) := by decide +kernel
theorem dL_law_187 : decode cL_law 187 = .ok (.iadd, 1) := by decide +kernel
theorem dL_law_188 : decode cL_law 188 = .ok (.iaload, 1) := by decide +kernel
theorem dL_law_189 : decode cL_law 189 = .ok (.i2l, 1) := by decide +kernel
theorem dL_law_190 : decode cL_law 190 = .ok (.bipush 32, 2) := by decide +kernel
theorem dL_law_192 : decode cL_law 192 = .ok (.lshl, 1) := by decide +kernel
theorem dL_law_193 : decode cL_law 193 = .ok (.aload_n 0, 1) := by decide +kernel
theorem dL_law_194 : decode cL_law 194 = .ok (.iload 4, 2) := by decide +kernel
theorem dL_law_196 : decode cL_law 196 = .ok (.iconst 3, 1) := by decide +kernel
theorem dL_law_197 : decode cL_law 197 = .ok (.iadd, 1) := by decide +kernel
theorem dL_law_198 : decode cL_law 198 = .ok (.iaload, 1) := by decide +kernel
theorem dL_law_199 : decode cL_law 199 = .ok (.i2l, 1) := by decide +kernel
theorem dL_law_200 : decode cL_law 200 = .ok (.ldc2_w 33, 3) := by decide +kernel
theorem dL_law_203 : decode cL_law 203 = .ok (.land, 1) := by decide +kernel
theorem dL_law_204 : decode cL_law 204 = .ok (.lor, 1) := by decide +kernel
theorem dL_law_205 : decode cL_law 205 = .ok (.invokevirtual 39, 3) := by decide +kernel
theorem dL_law_208 : decode cL_law 208 = .ok (.if_icmp .eq 821, 3) := by decide +kernel
theorem dL_law_211 : decode cL_law 211 = .ok (.iconst 0, 1) := by decide +kernel
theorem dL_law_212 : decode cL_law 212 = .ok (.ireturn, 1) := by decide +kernel
theorem dL_law_213 : decode cL_law 213 = .ok (.aload_n 1, 1) := by decide +kernel
theorem dL_law_214 : decode cL_law 214 = .ok (.invokevirtual 40, 3) := by decide +kernel
theorem dL_law_217 : decode cL_law 217 = .ok (.aload_n 2, 1) := by decide +kernel
theorem dL_law_218 : decode cL_law 218 = .ok (.invokevirtual 44, 3) := by decide +kernel
theorem dL_law_221 : decode cL_law 221 = .ok (.if_icmp .eq 808, 3) := by decide +kernel
theorem dL_law_224 : decode cL_law 224 = .ok (.iconst 0, 1) := by decide +kernel
theorem dL_law_225 : decode cL_law 225 = .ok (.ireturn, 1) := by decide +kernel
theorem dL_law_226 : decode cL_law 226 = .ok (.aload_n 1, 1) := by decide +kernel
theorem dL_law_227 : decode cL_law 227 = .ok (.aload_n 0, 1) := by decide +kernel
theorem dL_law_228 : decode cL_law 228 = .ok (.iload 4, 2) := by decide +kernel
theorem dL_law_230 : decode cL_law 230 = .ok (.iconst 1, 1) := by decide +kernel
theorem dL_law_231 : decode cL_law 231 = .ok (.iadd, 1) := by decide +kernel
theorem dL_law_232 : decode cL_law 232 = .ok (.iaload, 1) := by decide +kernel
theorem dL_law_233 : decode cL_law 233 = .ok (.invokevirtual 45, 3) := by decide +kernel
theorem dL_law_236 : decode cL_law 236 = .ok (.aload_n 2, 1) := by decide +kernel
theorem dL_law_237 : decode cL_law 237 = .ok (.aload_n 0, 1) := by decide +kernel
theorem dL_law_238 : decode cL_law 238 = .ok (.iload 4, 2) := by decide +kernel
theorem dL_law_240 : decode cL_law 240 = .ok (.iconst 1, 1) := by decide +kernel
theorem dL_law_241 : decode cL_law 241 = .ok (.iadd, 1) := by decide +kernel
theorem dL_law_242 : decode cL_law 242 = .ok (.iaload, 1) := by decide +kernel
theorem dL_law_243 : decode cL_law 243 = .ok (.invokevirtual 48, 3) := by decide +kernel
theorem dL_law_246 : decode cL_law 246 = .ok (.if_icmp .eq 783, 3) := by decide +kernel
theorem dL_law_249 : decode cL_law 249 = .ok (.iconst 0, 1) := by decide +kernel
theorem dL_law_250 : decode cL_law 250 = .ok (.ireturn, 1) := by decide +kernel
theorem dL_law_251 : decode cL_law 251 = .ok (.aload_n 1, 1) := by decide +kernel
theorem dL_law_252 : decode cL_law 252 = .ok (.aload_n 0, 1) := by decide +kernel
theorem dL_law_253 : decode cL_law 253 = .ok (.iload 4, 2) := by decide +kernel
theorem dL_law_255 : decode cL_law 255 = .ok (.iconst 1, 1) := by decide +kernel
theorem dL_law_256 : decode cL_law 256 = .ok (.iadd, 1) := by decide +kernel
theorem dL_law_257 : decode cL_law 257 = .ok (.iaload, 1) := by decide +kernel
theorem dL_law_258 : decode cL_law 258 = .ok (.aload_n 0, 1) := by decide +kernel
theorem dL_law_259 : decode cL_law 259 = .ok (.iload 4, 2) := by decide +kernel
theorem dL_law_261 : decode cL_law 261 = .ok (.iconst 2, 1) := by decide +kernel
theorem dL_law_262 : decode cL_law 262 = .ok (.iadd, 1) := by decide +kernel
theorem dL_law_263 : decode cL_law 263 = .ok (.iaload, 1) := by decide +kernel
theorem dL_law_264 : decode cL_law 264 = .ok (.invokevirtual 49, 3) := by decide +kernel
theorem dL_law_267 : decode cL_law 267 = .ok (.aload_n 2, 1) := by decide +kernel
theorem dL_law_268 : decode cL_law 268 = .ok (.aload_n 0, 1) := by decide +kernel
theorem dL_law_269 : decode cL_law 269 = .ok (.iload 4, 2) := by decide +kernel
theorem dL_law_271 : decode cL_law 271 = .ok (.iconst 1, 1) := by decide +kernel
theorem dL_law_272 : decode cL_law 272 = .ok (.iadd, 1) := by decide +kernel
theorem dL_law_273 : decode cL_law 273 = .ok (.iaload, 1) := by decide +kernel
theorem dL_law_274 : decode cL_law 274 = .ok (.aload_n 0, 1) := by decide +kernel
theorem dL_law_275 : decode cL_law 275 = .ok (.iload 4, 2) := by decide +kernel
theorem dL_law_277 : decode cL_law 277 = .ok (.iconst 2, 1) := by decide +kernel
theorem dL_law_278 : decode cL_law 278 = .ok (.iadd, 1) := by decide +kernel
theorem dL_law_279 : decode cL_law 279 = .ok (.iaload, 1) := by decide +kernel
theorem dL_law_280 : decode cL_law 280 = .ok (.invokevirtual 53, 3) := by decide +kernel
theorem dL_law_283 : decode cL_law 283 = .ok (.if_icmp .eq 746, 3) := by decide +kernel
theorem dL_law_286 : decode cL_law 286 = .ok (.iconst 0, 1) := by decide +kernel
theorem dL_law_287 : decode cL_law 287 = .ok (.ireturn, 1) := by decide +kernel
theorem dL_law_288 : decode cL_law 288 = .ok (.aload_n 1, 1) := by decide +kernel
theorem dL_law_289 : decode cL_law 289 = .ok (.aload_n 0, 1) := by decide +kernel
theorem dL_law_290 : decode cL_law 290 = .ok (.iload 4, 2) := by decide +kernel
theorem dL_law_292 : decode cL_law 292 = .ok (.iconst 1, 1) := by decide +kernel
theorem dL_law_293 : decode cL_law 293 = .ok (.iadd, 1) := by decide +kernel
theorem dL_law_294 : decode cL_law 294 = .ok (.iaload, 1) := by decide +kernel
theorem dL_law_295 : decode cL_law 295 = .ok (.invokevirtual 54, 3) := by decide +kernel
theorem dL_law_298 : decode cL_law 298 = .ok (.aload_n 2, 1) := by decide +kernel
theorem dL_law_299 : decode cL_law 299 = .ok (.aload_n 0, 1) := by decide +kernel
theorem dL_law_300 : decode cL_law 300 = .ok (.iload 4, 2) := by decide +kernel
theorem dL_law_302 : decode cL_law 302 = .ok (.iconst 1, 1) := by decide +kernel
theorem dL_law_303 : decode cL_law 303 = .ok (.iadd, 1) := by decide +kernel
theorem dL_law_304 : decode cL_law 304 = .ok (.iaload, 1) := by decide +kernel
theorem dL_law_305 : decode cL_law 305 = .ok (.invokevirtual 57, 3) := by decide +kernel
theorem dL_law_308 : decode cL_law 308 = .ok (.if_icmp .eq 721, 3) := by decide +kernel
theorem dL_law_311 : decode cL_law 311 = .ok (.iconst 0, 1) := by decide +kernel
theorem dL_law_312 : decode cL_law 312 = .ok (.ireturn, 1) := by decide +kernel
theorem dL_law_313 : decode cL_law 313 = .ok (.aload_n 1, 1) := by decide +kernel
theorem dL_law_314 : decode cL_law 314 = .ok (.aload_n 0, 1) := by decide +kernel
theorem dL_law_315 : decode cL_law 315 = .ok (.iload 4, 2) := by decide +kernel
theorem dL_law_317 : decode cL_law 317 = .ok (.iconst 1, 1) := by decide +kernel
theorem dL_law_318 : decode cL_law 318 = .ok (.iadd, 1) := by decide +kernel
theorem dL_law_319 : decode cL_law 319 = .ok (.iaload, 1) := by decide +kernel
theorem dL_law_320 : decode cL_law 320 = .ok (.invokevirtual 58, 3) := by decide +kernel
theorem dL_law_323 : decode cL_law 323 = .ok (.aload_n 2, 1) := by decide +kernel
theorem dL_law_324 : decode cL_law 324 = .ok (.aload_n 0, 1) := by decide +kernel
theorem dL_law_325 : decode cL_law 325 = .ok (.iload 4, 2) := by decide +kernel
theorem dL_law_327 : decode cL_law 327 = .ok (.iconst 1, 1) := by decide +kernel
theorem dL_law_328 : decode cL_law 328 = .ok (.iadd, 1) := by decide +kernel
theorem dL_law_329 : decode cL_law 329 = .ok (.iaload, 1) := by decide +kernel
theorem dL_law_330 : decode cL_law 330 = .ok (.invokevirtual 61, 3) := by decide +kernel
theorem dL_law_333 : decode cL_law 333 = .ok (.if_icmp .eq 696, 3) := by decide +kernel
theorem dL_law_336 : decode cL_law 336 = .ok (.iconst 0, 1) := by decide +kernel
theorem dL_law_337 : decode cL_law 337 = .ok (.ireturn, 1) := by decide +kernel
theorem dL_law_338 : decode cL_law 338 = .ok (.aload_n 1, 1) := by decide +kernel
theorem dL_law_339 : decode cL_law 339 = .ok (.aload_n 0, 1) := by decide +kernel
theorem dL_law_340 : decode cL_law 340 = .ok (.iload 4, 2) := by decide +kernel
theorem dL_law_342 : decode cL_law 342 = .ok (.iconst 1, 1) := by decide +kernel
theorem dL_law_343 : decode cL_law 343 = .ok (.iadd, 1) := by decide +kernel
theorem dL_law_344 : decode cL_law 344 = .ok (.iaload, 1) := by decide +kernel
theorem dL_law_345 : decode cL_law 345 = .ok (.aload_n 0, 1) := by decide +kernel
theorem dL_law_346 : decode cL_law 346 = .ok (.iload 4, 2) := by decide +kernel
theorem dL_law_348 : decode cL_law 348 = .ok (.iconst 2, 1) := by decide +kernel
theorem dL_law_349 : decode cL_law 349 = .ok (.iadd, 1) := by decide +kernel
theorem dL_law_350 : decode cL_law 350 = .ok (.iaload, 1) := by decide +kernel
theorem dL_law_351 : decode cL_law 351 = .ok (.invokevirtual 62, 3) := by decide +kernel
theorem dL_law_354 : decode cL_law 354 = .ok (.aload_n 2, 1) := by decide +kernel
theorem dL_law_355 : decode cL_law 355 = .ok (.aload_n 0, 1) := by decide +kernel
theorem dL_law_356 : decode cL_law 356 = .ok (.iload 4, 2) := by decide +kernel
theorem dL_law_358 : decode cL_law 358 = .ok (.iconst 1, 1) := by decide +kernel
theorem dL_law_359 : decode cL_law 359 = .ok (.iadd, 1) := by decide +kernel
theorem dL_law_360 : decode cL_law 360 = .ok (.iaload, 1) := by decide +kernel
theorem dL_law_361 : decode cL_law 361 = .ok (.aload_n 0, 1) := by decide +kernel
theorem dL_law_362 : decode cL_law 362 = .ok (.iload 4, 2) := by decide +kernel
theorem dL_law_364 : decode cL_law 364 = .ok (.iconst 2, 1) := by decide +kernel
theorem dL_law_365 : decode cL_law 365 = .ok (.iadd, 1) := by decide +kernel
theorem dL_law_366 : decode cL_law 366 = .ok (.iaload, 1) := by decide +kernel
theorem dL_law_367 : decode cL_law 367 = .ok (.invokevirtual 65, 3) := by decide +kernel
theorem dL_law_370 : decode cL_law 370 = .ok (.if_icmp .eq 659, 3) := by decide +kernel
theorem dL_law_373 : decode cL_law 373 = .ok (.iconst 0, 1) := by decide +kernel
theorem dL_law_374 : decode cL_law 374 = .ok (.ireturn, 1) := by decide +kernel
theorem dL_law_375 : decode cL_law 375 = .ok (.aload_n 1, 1) := by decide +kernel
theorem dL_law_376 : decode cL_law 376 = .ok (.aload_n 0, 1) := by decide +kernel
theorem dL_law_377 : decode cL_law 377 = .ok (.iload 4, 2) := by decide +kernel
theorem dL_law_379 : decode cL_law 379 = .ok (.iconst 1, 1) := by decide +kernel
theorem dL_law_380 : decode cL_law 380 = .ok (.iadd, 1) := by decide +kernel
theorem dL_law_381 : decode cL_law 381 = .ok (.iaload, 1) := by decide +kernel
theorem dL_law_382 : decode cL_law 382 = .ok (.aload_n 0, 1) := by decide +kernel
theorem dL_law_383 : decode cL_law 383 = .ok (.iload 4, 2) := by decide +kernel
theorem dL_law_385 : decode cL_law 385 = .ok (.iconst 2, 1) := by decide +kernel
theorem dL_law_386 : decode cL_law 386 = .ok (.iadd, 1) := by decide +kernel
theorem dL_law_387 : decode cL_law 387 = .ok (.iaload, 1) := by decide +kernel
theorem dL_law_388 : decode cL_law 388 = .ok (.aload_n 0, 1) := by decide +kernel
theorem dL_law_389 : decode cL_law 389 = .ok (.iload 4, 2) := by decide +kernel
theorem dL_law_391 : decode cL_law 391 = .ok (.iconst 3, 1) := by decide +kernel
theorem dL_law_392 : decode cL_law 392 = .ok (.iadd, 1) := by decide +kernel
theorem dL_law_393 : decode cL_law 393 = .ok (.iaload, 1) := by decide +kernel
theorem dL_law_394 : decode cL_law 394 = .ok (.aload_n 3, 1) := by decide +kernel
theorem dL_law_395 : decode cL_law 395 = .ok (.invokestatic 66, 3) := by decide +kernel
theorem dL_law_398 : decode cL_law 398 = .ok (.istore 5, 2) := by decide +kernel
theorem dL_law_400 : decode cL_law 400 = .ok (.aload_n 2, 1) := by decide +kernel
theorem dL_law_401 : decode cL_law 401 = .ok (.aload_n 0, 1) := by decide +kernel
theorem dL_law_402 : decode cL_law 402 = .ok (.iload 4, 2) := by decide +kernel
theorem dL_law_404 : decode cL_law 404 = .ok (.iconst 1, 1) := by decide +kernel
theorem dL_law_405 : decode cL_law 405 = .ok (.iadd, 1) := by decide +kernel
theorem dL_law_406 : decode cL_law 406 = .ok (.iaload, 1) := by decide +kernel
theorem dL_law_407 : decode cL_law 407 = .ok (.aload_n 0, 1) := by decide +kernel
theorem dL_law_408 : decode cL_law 408 = .ok (.iload 4, 2) := by decide +kernel
theorem dL_law_410 : decode cL_law 410 = .ok (.iconst 2, 1) := by decide +kernel
theorem dL_law_411 : decode cL_law 411 = .ok (.iadd, 1) := by decide +kernel
theorem dL_law_412 : decode cL_law 412 = .ok (.iaload, 1) := by decide +kernel
theorem dL_law_413 : decode cL_law 413 = .ok (.aload_n 0, 1) := by decide +kernel
theorem dL_law_414 : decode cL_law 414 = .ok (.iload 4, 2) := by decide +kernel
theorem dL_law_416 : decode cL_law 416 = .ok (.iconst 3, 1) := by decide +kernel
theorem dL_law_417 : decode cL_law 417 = .ok (.iadd, 1) := by decide +kernel
theorem dL_law_418 : decode cL_law 418 = .ok (.iaload, 1) := by decide +kernel
theorem dL_law_419 : decode cL_law 419 = .ok (.invokevirtual 71, 3) := by decide +kernel
theorem dL_law_422 : decode cL_law 422 = .ok (.lstore 6, 2) := by decide +kernel
theorem dL_law_424 : decode cL_law 424 = .ok (.aload_n 2, 1) := by decide +kernel
theorem dL_law_425 : decode cL_law 425 = .ok (.invokevirtual 72, 3) := by decide +kernel
theorem dL_law_428 : decode cL_law 428 = .ok (.iload 5, 2) := by decide +kernel
theorem dL_law_430 : decode cL_law 430 = .ok (.if_icmp .eq 5, 3) := by decide +kernel
theorem dL_law_433 : decode cL_law 433 = .ok (.iconst 0, 1) := by decide +kernel
theorem dL_law_434 : decode cL_law 434 = .ok (.ireturn, 1) := by decide +kernel
theorem dL_law_435 : decode cL_law 435 = .ok (.iload 5, 2) := by decide +kernel
theorem dL_law_437 : decode cL_law 437 = .ok (.ifCond .ne 14, 3) := by decide +kernel
theorem dL_law_440 : decode cL_law 440 = .ok (.aload_n 3, 1) := by decide +kernel
theorem dL_law_441 : decode cL_law 441 = .ok (.iconst 0, 1) := by decide +kernel
theorem dL_law_442 : decode cL_law 442 = .ok (.laload, 1) := by decide +kernel
theorem dL_law_443 : decode cL_law 443 = .ok (.lload 6, 2) := by decide +kernel
theorem dL_law_445 : decode cL_law 445 = .ok (.lcmp, 1) := by decide +kernel
theorem dL_law_446 : decode cL_law 446 = .ok (.ifCond .eq 5, 3) := by decide +kernel
theorem dL_law_449 : decode cL_law 449 = .ok (.iconst 0, 1) := by decide +kernel
theorem dL_law_450 : decode cL_law 450 = .ok (.ireturn, 1) := by decide +kernel
theorem dL_law_451 : decode cL_law 451 = .ok (.goto 578, 3) := by decide +kernel
theorem dL_law_454 : decode cL_law 454 = .ok (.aload_n 1, 1) := by decide +kernel
theorem dL_law_455 : decode cL_law 455 = .ok (.aload_n 0, 1) := by decide +kernel
theorem dL_law_456 : decode cL_law 456 = .ok (.iload 4, 2) := by decide +kernel
theorem dL_law_458 : decode cL_law 458 = .ok (.iconst 1, 1) := by decide +kernel
theorem dL_law_459 : decode cL_law 459 = .ok (.iadd, 1) := by decide +kernel
theorem dL_law_460 : decode cL_law 460 = .ok (.iaload, 1) := by decide +kernel
theorem dL_law_461 : decode cL_law 461 = .ok (.aload_n 0, 1) := by decide +kernel
theorem dL_law_462 : decode cL_law 462 = .ok (.iload 4, 2) := by decide +kernel
theorem dL_law_464 : decode cL_law 464 = .ok (.iconst 2, 1) := by decide +kernel
theorem dL_law_465 : decode cL_law 465 = .ok (.iadd, 1) := by decide +kernel
theorem dL_law_466 : decode cL_law 466 = .ok (.iaload, 1) := by decide +kernel
theorem dL_law_467 : decode cL_law 467 = .ok (.aload_n 3, 1) := by decide +kernel
theorem dL_law_468 : decode cL_law 468 = .ok (.invokestatic 75, 3) := by decide +kernel
theorem dL_law_471 : decode cL_law 471 = .ok (.istore 5, 2) := by decide +kernel
theorem dL_law_473 : decode cL_law 473 = .ok (.aload_n 2, 1) := by decide +kernel
theorem dL_law_474 : decode cL_law 474 = .ok (.aload_n 0, 1) := by decide +kernel
theorem dL_law_475 : decode cL_law 475 = .ok (.iload 4, 2) := by decide +kernel
theorem dL_law_477 : decode cL_law 477 = .ok (.iconst 1, 1) := by decide +kernel
theorem dL_law_478 : decode cL_law 478 = .ok (.iadd, 1) := by decide +kernel
theorem dL_law_479 : decode cL_law 479 = .ok (.iaload, 1) := by decide +kernel
theorem dL_law_480 : decode cL_law 480 = .ok (.aload_n 0, 1) := by decide +kernel
theorem dL_law_481 : decode cL_law 481 = .ok (.iload 4, 2) := by decide +kernel
theorem dL_law_483 : decode cL_law 483 = .ok (.iconst 2, 1) := by decide +kernel
theorem dL_law_484 : decode cL_law 484 = .ok (.iadd, 1) := by decide +kernel
theorem dL_law_485 : decode cL_law 485 = .ok (.iaload, 1) := by decide +kernel
theorem dL_law_486 : decode cL_law 486 = .ok (.invokevirtual 78, 3) := by decide +kernel
theorem dL_law_489 : decode cL_law 489 = .ok (.lstore 6, 2) := by decide +kernel
theorem dL_law_491 : decode cL_law 491 = .ok (.aload_n 2, 1) := by decide +kernel
theorem dL_law_492 : decode cL_law 492 = .ok (.invokevirtual 72, 3) := by decide +kernel
theorem dL_law_495 : decode cL_law 495 = .ok (.iload 5, 2) := by decide +kernel
theorem dL_law_497 : decode cL_law 497 = .ok (.if_icmp .eq 5, 3) := by decide +kernel
theorem dL_law_500 : decode cL_law 500 = .ok (.iconst 0, 1) := by decide +kernel
theorem dL_law_501 : decode cL_law 501 = .ok (.ireturn, 1) := by decide +kernel
theorem dL_law_502 : decode cL_law 502 = .ok (.iload 5, 2) := by decide +kernel
theorem dL_law_504 : decode cL_law 504 = .ok (.ifCond .ne 14, 3) := by decide +kernel
theorem dL_law_507 : decode cL_law 507 = .ok (.aload_n 3, 1) := by decide +kernel
theorem dL_law_508 : decode cL_law 508 = .ok (.iconst 0, 1) := by decide +kernel
theorem dL_law_509 : decode cL_law 509 = .ok (.laload, 1) := by decide +kernel
theorem dL_law_510 : decode cL_law 510 = .ok (.lload 6, 2) := by decide +kernel
theorem dL_law_512 : decode cL_law 512 = .ok (.lcmp, 1) := by decide +kernel
theorem dL_law_513 : decode cL_law 513 = .ok (.ifCond .eq 5, 3) := by decide +kernel
theorem dL_law_516 : decode cL_law 516 = .ok (.iconst 0, 1) := by decide +kernel
theorem dL_law_517 : decode cL_law 517 = .ok (.ireturn, 1) := by decide +kernel
theorem dL_law_518 : decode cL_law 518 = .ok (.goto 511, 3) := by decide +kernel
theorem dL_law_521 : decode cL_law 521 = .ok (.aload_n 1, 1) := by decide +kernel
theorem dL_law_522 : decode cL_law 522 = .ok (.aload_n 0, 1) := by decide +kernel
theorem dL_law_523 : decode cL_law 523 = .ok (.iload 4, 2) := by decide +kernel
theorem dL_law_525 : decode cL_law 525 = .ok (.iconst 1, 1) := by decide +kernel
theorem dL_law_526 : decode cL_law 526 = .ok (.iadd, 1) := by decide +kernel
theorem dL_law_527 : decode cL_law 527 = .ok (.iaload, 1) := by decide +kernel
theorem dL_law_528 : decode cL_law 528 = .ok (.aload_n 0, 1) := by decide +kernel
theorem dL_law_529 : decode cL_law 529 = .ok (.iload 4, 2) := by decide +kernel
theorem dL_law_531 : decode cL_law 531 = .ok (.iconst 2, 1) := by decide +kernel
theorem dL_law_532 : decode cL_law 532 = .ok (.iadd, 1) := by decide +kernel
theorem dL_law_533 : decode cL_law 533 = .ok (.iaload, 1) := by decide +kernel
theorem dL_law_534 : decode cL_law 534 = .ok (.invokevirtual 79, 3) := by decide +kernel
theorem dL_law_537 : decode cL_law 537 = .ok (.aload_n 2, 1) := by decide +kernel
theorem dL_law_538 : decode cL_law 538 = .ok (.aload_n 0, 1) := by decide +kernel
theorem dL_law_539 : decode cL_law 539 = .ok (.iload 4, 2) := by decide +kernel
theorem dL_law_541 : decode cL_law 541 = .ok (.iconst 1, 1) := by decide +kernel
theorem dL_law_542 : decode cL_law 542 = .ok (.iadd, 1) := by decide +kernel
theorem dL_law_543 : decode cL_law 543 = .ok (.iaload, 1) := by decide +kernel
theorem dL_law_544 : decode cL_law 544 = .ok (.aload_n 0, 1) := by decide +kernel
theorem dL_law_545 : decode cL_law 545 = .ok (.iload 4, 2) := by decide +kernel
theorem dL_law_547 : decode cL_law 547 = .ok (.iconst 2, 1) := by decide +kernel
theorem dL_law_548 : decode cL_law 548 = .ok (.iadd, 1) := by decide +kernel
theorem dL_law_549 : decode cL_law 549 = .ok (.iaload, 1) := by decide +kernel
theorem dL_law_550 : decode cL_law 550 = .ok (.invokevirtual 82, 3) := by decide +kernel
theorem dL_law_553 : decode cL_law 553 = .ok (.if_icmp .eq 476, 3) := by decide +kernel
theorem dL_law_556 : decode cL_law 556 = .ok (.iconst 0, 1) := by decide +kernel
theorem dL_law_557 : decode cL_law 557 = .ok (.ireturn, 1) := by decide +kernel
theorem dL_law_558 : decode cL_law 558 = .ok (.aload_n 1, 1) := by decide +kernel
theorem dL_law_559 : decode cL_law 559 = .ok (.aload_n 0, 1) := by decide +kernel
theorem dL_law_560 : decode cL_law 560 = .ok (.iload 4, 2) := by decide +kernel
theorem dL_law_562 : decode cL_law 562 = .ok (.iconst 1, 1) := by decide +kernel
theorem dL_law_563 : decode cL_law 563 = .ok (.iadd, 1) := by decide +kernel
theorem dL_law_564 : decode cL_law 564 = .ok (.iaload, 1) := by decide +kernel
theorem dL_law_565 : decode cL_law 565 = .ok (.aload_n 3, 1) := by decide +kernel
theorem dL_law_566 : decode cL_law 566 = .ok (.invokestatic 83, 3) := by decide +kernel
theorem dL_law_569 : decode cL_law 569 = .ok (.istore 5, 2) := by decide +kernel
theorem dL_law_571 : decode cL_law 571 = .ok (.aload_n 2, 1) := by decide +kernel
theorem dL_law_572 : decode cL_law 572 = .ok (.aload_n 0, 1) := by decide +kernel
theorem dL_law_573 : decode cL_law 573 = .ok (.iload 4, 2) := by decide +kernel
theorem dL_law_575 : decode cL_law 575 = .ok (.iconst 1, 1) := by decide +kernel
theorem dL_law_576 : decode cL_law 576 = .ok (.iadd, 1) := by decide +kernel
theorem dL_law_577 : decode cL_law 577 = .ok (.iaload, 1) := by decide +kernel
theorem dL_law_578 : decode cL_law 578 = .ok (.invokevirtual 86, 3) := by decide +kernel
theorem dL_law_581 : decode cL_law 581 = .ok (.istore 6, 2) := by decide +kernel
theorem dL_law_583 : decode cL_law 583 = .ok (.aload_n 2, 1) := by decide +kernel
theorem dL_law_584 : decode cL_law 584 = .ok (.invokevirtual 72, 3) := by decide +kernel
theorem dL_law_587 : decode cL_law 587 = .ok (.iload 5, 2) := by decide +kernel
theorem dL_law_589 : decode cL_law 589 = .ok (.if_icmp .eq 5, 3) := by decide +kernel
theorem dL_law_592 : decode cL_law 592 = .ok (.iconst 0, 1) := by decide +kernel
theorem dL_law_593 : decode cL_law 593 = .ok (.ireturn, 1) := by decide +kernel
theorem dL_law_594 : decode cL_law 594 = .ok (.iload 5, 2) := by decide +kernel
theorem dL_law_596 : decode cL_law 596 = .ok (.ifCond .ne 15, 3) := by decide +kernel
theorem dL_law_599 : decode cL_law 599 = .ok (.aload_n 3, 1) := by decide +kernel
theorem dL_law_600 : decode cL_law 600 = .ok (.iconst 0, 1) := by decide +kernel
theorem dL_law_601 : decode cL_law 601 = .ok (.laload, 1) := by decide +kernel
theorem dL_law_602 : decode cL_law 602 = .ok (.iload 6, 2) := by decide +kernel
theorem dL_law_604 : decode cL_law 604 = .ok (.i2l, 1) := by decide +kernel
theorem dL_law_605 : decode cL_law 605 = .ok (.lcmp, 1) := by decide +kernel
theorem dL_law_606 : decode cL_law 606 = .ok (.ifCond .eq 5, 3) := by decide +kernel
theorem dL_law_609 : decode cL_law 609 = .ok (.iconst 0, 1) := by decide +kernel
theorem dL_law_610 : decode cL_law 610 = .ok (.ireturn, 1) := by decide +kernel
theorem dL_law_611 : decode cL_law 611 = .ok (.goto 418, 3) := by decide +kernel
theorem dL_law_614 : decode cL_law 614 = .ok (.aload_n 1, 1) := by decide +kernel
theorem dL_law_615 : decode cL_law 615 = .ok (.aload_n 0, 1) := by decide +kernel
theorem dL_law_616 : decode cL_law 616 = .ok (.iload 4, 2) := by decide +kernel
theorem dL_law_618 : decode cL_law 618 = .ok (.iconst 1, 1) := by decide +kernel
theorem dL_law_619 : decode cL_law 619 = .ok (.iadd, 1) := by decide +kernel
theorem dL_law_620 : decode cL_law 620 = .ok (.iaload, 1) := by decide +kernel
theorem dL_law_621 : decode cL_law 621 = .ok (.aload_n 0, 1) := by decide +kernel
theorem dL_law_622 : decode cL_law 622 = .ok (.iload 4, 2) := by decide +kernel
theorem dL_law_624 : decode cL_law 624 = .ok (.iconst 2, 1) := by decide +kernel
theorem dL_law_625 : decode cL_law 625 = .ok (.iadd, 1) := by decide +kernel
theorem dL_law_626 : decode cL_law 626 = .ok (.iaload, 1) := by decide +kernel
theorem dL_law_627 : decode cL_law 627 = .ok (.invokevirtual 87, 3) := by decide +kernel
theorem dL_law_630 : decode cL_law 630 = .ok (.aload_n 2, 1) := by decide +kernel
theorem dL_law_631 : decode cL_law 631 = .ok (.aload_n 0, 1) := by decide +kernel
theorem dL_law_632 : decode cL_law 632 = .ok (.iload 4, 2) := by decide +kernel
theorem dL_law_634 : decode cL_law 634 = .ok (.iconst 1, 1) := by decide +kernel
theorem dL_law_635 : decode cL_law 635 = .ok (.iadd, 1) := by decide +kernel
theorem dL_law_636 : decode cL_law 636 = .ok (.iaload, 1) := by decide +kernel
theorem dL_law_637 : decode cL_law 637 = .ok (.aload_n 0, 1) := by decide +kernel
theorem dL_law_638 : decode cL_law 638 = .ok (.iload 4, 2) := by decide +kernel
theorem dL_law_640 : decode cL_law 640 = .ok (.iconst 2, 1) := by decide +kernel
theorem dL_law_641 : decode cL_law 641 = .ok (.iadd, 1) := by decide +kernel
theorem dL_law_642 : decode cL_law 642 = .ok (.iaload, 1) := by decide +kernel
theorem dL_law_643 : decode cL_law 643 = .ok (.invokevirtual 90, 3) := by decide +kernel
theorem dL_law_646 : decode cL_law 646 = .ok (.if_icmp .eq 383, 3) := by decide +kernel
theorem dL_law_649 : decode cL_law 649 = .ok (.iconst 0, 1) := by decide +kernel
theorem dL_law_650 : decode cL_law 650 = .ok (.ireturn, 1) := by decide +kernel
theorem dL_law_651 : decode cL_law 651 = .ok (.aload_n 1, 1) := by decide +kernel
theorem dL_law_652 : decode cL_law 652 = .ok (.aload_n 0, 1) := by decide +kernel
theorem dL_law_653 : decode cL_law 653 = .ok (.iload 4, 2) := by decide +kernel
theorem dL_law_655 : decode cL_law 655 = .ok (.iconst 1, 1) := by decide +kernel
theorem dL_law_656 : decode cL_law 656 = .ok (.iadd, 1) := by decide +kernel
theorem dL_law_657 : decode cL_law 657 = .ok (.iaload, 1) := by decide +kernel
theorem dL_law_658 : decode cL_law 658 = .ok (.aload_n 0, 1) := by decide +kernel
theorem dL_law_659 : decode cL_law 659 = .ok (.iload 4, 2) := by decide +kernel
theorem dL_law_661 : decode cL_law 661 = .ok (.iconst 2, 1) := by decide +kernel
theorem dL_law_662 : decode cL_law 662 = .ok (.iadd, 1) := by decide +kernel
theorem dL_law_663 : decode cL_law 663 = .ok (.iaload, 1) := by decide +kernel
theorem dL_law_664 : decode cL_law 664 = .ok (.aload_n 0, 1) := by decide +kernel
theorem dL_law_665 : decode cL_law 665 = .ok (.iload 4, 2) := by decide +kernel
theorem dL_law_667 : decode cL_law 667 = .ok (.iconst 3, 1) := by decide +kernel
theorem dL_law_668 : decode cL_law 668 = .ok (.iadd, 1) := by decide +kernel
theorem dL_law_669 : decode cL_law 669 = .ok (.iaload, 1) := by decide +kernel
theorem dL_law_670 : decode cL_law 670 = .ok (.invokevirtual 91, 3) := by decide +kernel
theorem dL_law_673 : decode cL_law 673 = .ok (.aload_n 2, 1) := by decide +kernel
theorem dL_law_674 : decode cL_law 674 = .ok (.aload_n 0, 1) := by decide +kernel
theorem dL_law_675 : decode cL_law 675 = .ok (.iload 4, 2) := by decide +kernel
theorem dL_law_677 : decode cL_law 677 = .ok (.iconst 1, 1) := by decide +kernel
theorem dL_law_678 : decode cL_law 678 = .ok (.iadd, 1) := by decide +kernel
theorem dL_law_679 : decode cL_law 679 = .ok (.iaload, 1) := by decide +kernel
theorem dL_law_680 : decode cL_law 680 = .ok (.aload_n 0, 1) := by decide +kernel
theorem dL_law_681 : decode cL_law 681 = .ok (.iload 4, 2) := by decide +kernel
theorem dL_law_683 : decode cL_law 683 = .ok (.iconst 2, 1) := by decide +kernel
theorem dL_law_684 : decode cL_law 684 = .ok (.iadd, 1) := by decide +kernel
theorem dL_law_685 : decode cL_law 685 = .ok (.iaload, 1) := by decide +kernel
theorem dL_law_686 : decode cL_law 686 = .ok (.aload_n 0, 1) := by decide +kernel
theorem dL_law_687 : decode cL_law 687 = .ok (.iload 4, 2) := by decide +kernel
theorem dL_law_689 : decode cL_law 689 = .ok (.iconst 3, 1) := by decide +kernel
theorem dL_law_690 : decode cL_law 690 = .ok (.iadd, 1) := by decide +kernel
theorem dL_law_691 : decode cL_law 691 = .ok (.iaload, 1) := by decide +kernel
theorem dL_law_692 : decode cL_law 692 = .ok (.invokevirtual 95, 3) := by decide +kernel
theorem dL_law_695 : decode cL_law 695 = .ok (.if_icmp .eq 334, 3) := by decide +kernel
theorem dL_law_698 : decode cL_law 698 = .ok (.iconst 0, 1) := by decide +kernel
theorem dL_law_699 : decode cL_law 699 = .ok (.ireturn, 1) := by decide +kernel
theorem dL_law_700 : decode cL_law 700 = .ok (.aload_n 1, 1) := by decide +kernel
theorem dL_law_701 : decode cL_law 701 = .ok (.aload_n 0, 1) := by decide +kernel
theorem dL_law_702 : decode cL_law 702 = .ok (.iload 4, 2) := by decide +kernel
theorem dL_law_704 : decode cL_law 704 = .ok (.iconst 1, 1) := by decide +kernel
theorem dL_law_705 : decode cL_law 705 = .ok (.iadd, 1) := by decide +kernel
theorem dL_law_706 : decode cL_law 706 = .ok (.iaload, 1) := by decide +kernel
theorem dL_law_707 : decode cL_law 707 = .ok (.invokevirtual 96, 3) := by decide +kernel
theorem dL_law_710 : decode cL_law 710 = .ok (.aload_n 2, 1) := by decide +kernel
theorem dL_law_711 : decode cL_law 711 = .ok (.aload_n 0, 1) := by decide +kernel
theorem dL_law_712 : decode cL_law 712 = .ok (.iload 4, 2) := by decide +kernel
theorem dL_law_714 : decode cL_law 714 = .ok (.iconst 1, 1) := by decide +kernel
theorem dL_law_715 : decode cL_law 715 = .ok (.iadd, 1) := by decide +kernel
theorem dL_law_716 : decode cL_law 716 = .ok (.iaload, 1) := by decide +kernel
theorem dL_law_717 : decode cL_law 717 = .ok (.invokevirtual 99, 3) := by decide +kernel
theorem dL_law_720 : decode cL_law 720 = .ok (.if_icmp .eq 309, 3) := by decide +kernel
theorem dL_law_723 : decode cL_law 723 = .ok (.iconst 0, 1) := by decide +kernel
theorem dL_law_724 : decode cL_law 724 = .ok (.ireturn, 1) := by decide +kernel
theorem dL_law_725 : decode cL_law 725 = .ok (.aload_n 1, 1) := by decide +kernel
theorem dL_law_726 : decode cL_law 726 = .ok (.aload_n 0, 1) := by decide +kernel
theorem dL_law_727 : decode cL_law 727 = .ok (.iload 4, 2) := by decide +kernel
theorem dL_law_729 : decode cL_law 729 = .ok (.iconst 1, 1) := by decide +kernel
theorem dL_law_730 : decode cL_law 730 = .ok (.iadd, 1) := by decide +kernel
theorem dL_law_731 : decode cL_law 731 = .ok (.iaload, 1) := by decide +kernel
theorem dL_law_732 : decode cL_law 732 = .ok (.invokevirtual 100, 3) := by decide +kernel
theorem dL_law_735 : decode cL_law 735 = .ok (.aload_n 2, 1) := by decide +kernel
theorem dL_law_736 : decode cL_law 736 = .ok (.aload_n 0, 1) := by decide +kernel
theorem dL_law_737 : decode cL_law 737 = .ok (.iload 4, 2) := by decide +kernel
theorem dL_law_739 : decode cL_law 739 = .ok (.iconst 1, 1) := by decide +kernel
theorem dL_law_740 : decode cL_law 740 = .ok (.iadd, 1) := by decide +kernel
theorem dL_law_741 : decode cL_law 741 = .ok (.iaload, 1) := by decide +kernel
theorem dL_law_742 : decode cL_law 742 = .ok (.invokevirtual 103, 3) := by decide +kernel
theorem dL_law_745 : decode cL_law 745 = .ok (.if_icmp .eq 284, 3) := by decide +kernel
theorem dL_law_748 : decode cL_law 748 = .ok (.iconst 0, 1) := by decide +kernel
theorem dL_law_749 : decode cL_law 749 = .ok (.ireturn, 1) := by decide +kernel
theorem dL_law_750 : decode cL_law 750 = .ok (.aload_n 1, 1) := by decide +kernel
theorem dL_law_751 : decode cL_law 751 = .ok (.aload_n 0, 1) := by decide +kernel
theorem dL_law_752 : decode cL_law 752 = .ok (.iload 4, 2) := by decide +kernel
theorem dL_law_754 : decode cL_law 754 = .ok (.iconst 1, 1) := by decide +kernel
theorem dL_law_755 : decode cL_law 755 = .ok (.iadd, 1) := by decide +kernel
theorem dL_law_756 : decode cL_law 756 = .ok (.iaload, 1) := by decide +kernel
theorem dL_law_757 : decode cL_law 757 = .ok (.aload_n 0, 1) := by decide +kernel
theorem dL_law_758 : decode cL_law 758 = .ok (.iload 4, 2) := by decide +kernel
theorem dL_law_760 : decode cL_law 760 = .ok (.iconst 2, 1) := by decide +kernel
theorem dL_law_761 : decode cL_law 761 = .ok (.iadd, 1) := by decide +kernel
theorem dL_law_762 : decode cL_law 762 = .ok (.iaload, 1) := by decide +kernel
theorem dL_law_763 : decode cL_law 763 = .ok (.invokevirtual 104, 3) := by decide +kernel
theorem dL_law_766 : decode cL_law 766 = .ok (.aload_n 2, 1) := by decide +kernel
theorem dL_law_767 : decode cL_law 767 = .ok (.aload_n 0, 1) := by decide +kernel
theorem dL_law_768 : decode cL_law 768 = .ok (.iload 4, 2) := by decide +kernel
theorem dL_law_770 : decode cL_law 770 = .ok (.iconst 1, 1) := by decide +kernel
theorem dL_law_771 : decode cL_law 771 = .ok (.iadd, 1) := by decide +kernel
theorem dL_law_772 : decode cL_law 772 = .ok (.iaload, 1) := by decide +kernel
theorem dL_law_773 : decode cL_law 773 = .ok (.aload_n 0, 1) := by decide +kernel
theorem dL_law_774 : decode cL_law 774 = .ok (.iload 4, 2) := by decide +kernel
theorem dL_law_776 : decode cL_law 776 = .ok (.iconst 2, 1) := by decide +kernel
theorem dL_law_777 : decode cL_law 777 = .ok (.iadd, 1) := by decide +kernel
theorem dL_law_778 : decode cL_law 778 = .ok (.iaload, 1) := by decide +kernel
theorem dL_law_779 : decode cL_law 779 = .ok (.invokevirtual 107, 3) := by decide +kernel
theorem dL_law_782 : decode cL_law 782 = .ok (.if_icmp .eq 247, 3) := by decide +kernel
theorem dL_law_785 : decode cL_law 785 = .ok (.iconst 0, 1) := by decide +kernel
theorem dL_law_786 : decode cL_law 786 = .ok (.ireturn, 1) := by decide +kernel
theorem dL_law_787 : decode cL_law 787 = .ok (.aload_n 1, 1) := by decide +kernel
theorem dL_law_788 : decode cL_law 788 = .ok (.aload_n 0, 1) := by decide +kernel
theorem dL_law_789 : decode cL_law 789 = .ok (.iload 4, 2) := by decide +kernel
theorem dL_law_791 : decode cL_law 791 = .ok (.iconst 1, 1) := by decide +kernel
theorem dL_law_792 : decode cL_law 792 = .ok (.iadd, 1) := by decide +kernel
theorem dL_law_793 : decode cL_law 793 = .ok (.iaload, 1) := by decide +kernel
theorem dL_law_794 : decode cL_law 794 = .ok (.aload_n 0, 1) := by decide +kernel
theorem dL_law_795 : decode cL_law 795 = .ok (.iload 4, 2) := by decide +kernel
theorem dL_law_797 : decode cL_law 797 = .ok (.iconst 2, 1) := by decide +kernel
theorem dL_law_798 : decode cL_law 798 = .ok (.iadd, 1) := by decide +kernel
theorem dL_law_799 : decode cL_law 799 = .ok (.iaload, 1) := by decide +kernel
theorem dL_law_800 : decode cL_law 800 = .ok (.aload_n 0, 1) := by decide +kernel
theorem dL_law_801 : decode cL_law 801 = .ok (.iload 4, 2) := by decide +kernel
theorem dL_law_803 : decode cL_law 803 = .ok (.iconst 3, 1) := by decide +kernel
theorem dL_law_804 : decode cL_law 804 = .ok (.iadd, 1) := by decide +kernel
theorem dL_law_805 : decode cL_law 805 = .ok (.iaload, 1) := by decide +kernel
theorem dL_law_806 : decode cL_law 806 = .ok (.invokevirtual 108, 3) := by decide +kernel
theorem dL_law_809 : decode cL_law 809 = .ok (.aload_n 2, 1) := by decide +kernel
theorem dL_law_810 : decode cL_law 810 = .ok (.aload_n 0, 1) := by decide +kernel
theorem dL_law_811 : decode cL_law 811 = .ok (.iload 4, 2) := by decide +kernel
theorem dL_law_813 : decode cL_law 813 = .ok (.iconst 1, 1) := by decide +kernel
theorem dL_law_814 : decode cL_law 814 = .ok (.iadd, 1) := by decide +kernel
theorem dL_law_815 : decode cL_law 815 = .ok (.iaload, 1) := by decide +kernel
theorem dL_law_816 : decode cL_law 816 = .ok (.aload_n 0, 1) := by decide +kernel
theorem dL_law_817 : decode cL_law 817 = .ok (.iload 4, 2) := by decide +kernel
theorem dL_law_819 : decode cL_law 819 = .ok (.iconst 2, 1) := by decide +kernel
theorem dL_law_820 : decode cL_law 820 = .ok (.iadd, 1) := by decide +kernel
theorem dL_law_821 : decode cL_law 821 = .ok (.iaload, 1) := by decide +kernel
theorem dL_law_822 : decode cL_law 822 = .ok (.aload_n 0, 1) := by decide +kernel
theorem dL_law_823 : decode cL_law 823 = .ok (.iload 4, 2) := by decide +kernel
theorem dL_law_825 : decode cL_law 825 = .ok (.iconst 3, 1) := by decide +kernel
theorem dL_law_826 : decode cL_law 826 = .ok (.iadd, 1) := by decide +kernel
theorem dL_law_827 : decode cL_law 827 = .ok (.iaload, 1) := by decide +kernel
theorem dL_law_828 : decode cL_law 828 = .ok (.invokevirtual 111, 3) := by decide +kernel
theorem dL_law_831 : decode cL_law 831 = .ok (.if_icmp .eq 198, 3) := by decide +kernel
theorem dL_law_834 : decode cL_law 834 = .ok (.iconst 0, 1) := by decide +kernel
theorem dL_law_835 : decode cL_law 835 = .ok (.ireturn, 1) := by decide +kernel
theorem dL_law_836 : decode cL_law 836 = .ok (.aload_n 1, 1) := by decide +kernel
theorem dL_law_837 : decode cL_law 837 = .ok (.aload_n 0, 1) := by decide +kernel
theorem dL_law_838 : decode cL_law 838 = .ok (.iload 4, 2) := by decide +kernel
theorem dL_law_840 : decode cL_law 840 = .ok (.iconst 1, 1) := by decide +kernel
theorem dL_law_841 : decode cL_law 841 = .ok (.iadd, 1) := by decide +kernel
theorem dL_law_842 : decode cL_law 842 = .ok (.iaload, 1) := by decide +kernel
theorem dL_law_843 : decode cL_law 843 = .ok (.aload_n 0, 1) := by decide +kernel
theorem dL_law_844 : decode cL_law 844 = .ok (.iload 4, 2) := by decide +kernel
theorem dL_law_846 : decode cL_law 846 = .ok (.iconst 2, 1) := by decide +kernel
theorem dL_law_847 : decode cL_law 847 = .ok (.iadd, 1) := by decide +kernel
theorem dL_law_848 : decode cL_law 848 = .ok (.iaload, 1) := by decide +kernel
theorem dL_law_849 : decode cL_law 849 = .ok (.aload_n 0, 1) := by decide +kernel
theorem dL_law_850 : decode cL_law 850 = .ok (.iload 4, 2) := by decide +kernel
theorem dL_law_852 : decode cL_law 852 = .ok (.iconst 3, 1) := by decide +kernel
theorem dL_law_853 : decode cL_law 853 = .ok (.iadd, 1) := by decide +kernel
theorem dL_law_854 : decode cL_law 854 = .ok (.iaload, 1) := by decide +kernel
theorem dL_law_855 : decode cL_law 855 = .ok (.aload_n 0, 1) := by decide +kernel
theorem dL_law_856 : decode cL_law 856 = .ok (.iload 4, 2) := by decide +kernel
theorem dL_law_858 : decode cL_law 858 = .ok (.iconst 4, 1) := by decide +kernel
theorem dL_law_859 : decode cL_law 859 = .ok (.iadd, 1) := by decide +kernel
theorem dL_law_860 : decode cL_law 860 = .ok (.iaload, 1) := by decide +kernel
theorem dL_law_861 : decode cL_law 861 = .ok (.invokevirtual 112, 3) := by decide +kernel
theorem dL_law_864 : decode cL_law 864 = .ok (.aload_n 2, 1) := by decide +kernel
theorem dL_law_865 : decode cL_law 865 = .ok (.aload_n 0, 1) := by decide +kernel
theorem dL_law_866 : decode cL_law 866 = .ok (.iload 4, 2) := by decide +kernel
theorem dL_law_868 : decode cL_law 868 = .ok (.iconst 1, 1) := by decide +kernel
theorem dL_law_869 : decode cL_law 869 = .ok (.iadd, 1) := by decide +kernel
theorem dL_law_870 : decode cL_law 870 = .ok (.iaload, 1) := by decide +kernel
theorem dL_law_871 : decode cL_law 871 = .ok (.aload_n 0, 1) := by decide +kernel
theorem dL_law_872 : decode cL_law 872 = .ok (.iload 4, 2) := by decide +kernel
theorem dL_law_874 : decode cL_law 874 = .ok (.iconst 2, 1) := by decide +kernel
theorem dL_law_875 : decode cL_law 875 = .ok (.iadd, 1) := by decide +kernel
theorem dL_law_876 : decode cL_law 876 = .ok (.iaload, 1) := by decide +kernel
theorem dL_law_877 : decode cL_law 877 = .ok (.aload_n 0, 1) := by decide +kernel
theorem dL_law_878 : decode cL_law 878 = .ok (.iload 4, 2) := by decide +kernel
theorem dL_law_880 : decode cL_law 880 = .ok (.iconst 3, 1) := by decide +kernel
theorem dL_law_881 : decode cL_law 881 = .ok (.iadd, 1) := by decide +kernel
theorem dL_law_882 : decode cL_law 882 = .ok (.iaload, 1) := by decide +kernel
theorem dL_law_883 : decode cL_law 883 = .ok (.aload_n 0, 1) := by decide +kernel
theorem dL_law_884 : decode cL_law 884 = .ok (.iload 4, 2) := by decide +kernel
theorem dL_law_886 : decode cL_law 886 = .ok (.iconst 4, 1) := by decide +kernel
theorem dL_law_887 : decode cL_law 887 = .ok (.iadd, 1) := by decide +kernel
theorem dL_law_888 : decode cL_law 888 = .ok (.iaload, 1) := by decide +kernel
theorem dL_law_889 : decode cL_law 889 = .ok (.invokevirtual 116, 3) := by decide +kernel
theorem dL_law_892 : decode cL_law 892 = .ok (.if_icmp .eq 137, 3) := by decide +kernel
theorem dL_law_895 : decode cL_law 895 = .ok (.iconst 0, 1) := by decide +kernel
theorem dL_law_896 : decode cL_law 896 = .ok (.ireturn, 1) := by decide +kernel
theorem dL_law_897 : decode cL_law 897 = .ok (.aload_n 1, 1) := by decide +kernel
theorem dL_law_898 : decode cL_law 898 = .ok (.invokevirtual 117, 3) := by decide +kernel
theorem dL_law_901 : decode cL_law 901 = .ok (.aload_n 2, 1) := by decide +kernel
theorem dL_law_902 : decode cL_law 902 = .ok (.invokevirtual 120, 3) := by decide +kernel
theorem dL_law_905 : decode cL_law 905 = .ok (.if_icmp .eq 124, 3) := by decide +kernel
theorem dL_law_908 : decode cL_law 908 = .ok (.iconst 0, 1) := by decide +kernel
theorem dL_law_909 : decode cL_law 909 = .ok (.ireturn, 1) := by decide +kernel
theorem dL_law_910 : decode cL_law 910 = .ok (.aload_n 1, 1) := by decide +kernel
theorem dL_law_911 : decode cL_law 911 = .ok (.invokevirtual 121, 3) := by decide +kernel
theorem dL_law_914 : decode cL_law 914 = .ok (.aload_n 2, 1) := by decide +kernel
theorem dL_law_915 : decode cL_law 915 = .ok (.invokevirtual 124, 3) := by decide +kernel
theorem dL_law_918 : decode cL_law 918 = .ok (.if_icmp .eq 111, 3) := by decide +kernel
theorem dL_law_921 : decode cL_law 921 = .ok (.iconst 0, 1) := by decide +kernel
theorem dL_law_922 : decode cL_law 922 = .ok (.ireturn, 1) := by decide +kernel
theorem dL_law_923 : decode cL_law 923 = .ok (.aload_n 1, 1) := by decide +kernel
theorem dL_law_924 : decode cL_law 924 = .ok (.aload_n 0, 1) := by decide +kernel
theorem dL_law_925 : decode cL_law 925 = .ok (.iload 4, 2) := by decide +kernel
theorem dL_law_927 : decode cL_law 927 = .ok (.iconst 1, 1) := by decide +kernel
theorem dL_law_928 : decode cL_law 928 = .ok (.iadd, 1) := by decide +kernel
theorem dL_law_929 : decode cL_law 929 = .ok (.iaload, 1) := by decide +kernel
theorem dL_law_930 : decode cL_law 930 = .ok (.aload_n 0, 1) := by decide +kernel
theorem dL_law_931 : decode cL_law 931 = .ok (.iload 4, 2) := by decide +kernel
theorem dL_law_933 : decode cL_law 933 = .ok (.iconst 2, 1) := by decide +kernel
theorem dL_law_934 : decode cL_law 934 = .ok (.iadd, 1) := by decide +kernel
theorem dL_law_935 : decode cL_law 935 = .ok (.iaload, 1) := by decide +kernel
theorem dL_law_936 : decode cL_law 936 = .ok (.aload_n 3, 1) := by decide +kernel
theorem dL_law_937 : decode cL_law 937 = .ok (.invokestatic 125, 3) := by decide +kernel
theorem dL_law_940 : decode cL_law 940 = .ok (.istore 5, 2) := by decide +kernel
theorem dL_law_942 : decode cL_law 942 = .ok (.aload_n 2, 1) := by decide +kernel
theorem dL_law_943 : decode cL_law 943 = .ok (.aload_n 0, 1) := by decide +kernel
theorem dL_law_944 : decode cL_law 944 = .ok (.iload 4, 2) := by decide +kernel
theorem dL_law_946 : decode cL_law 946 = .ok (.iconst 1, 1) := by decide +kernel
theorem dL_law_947 : decode cL_law 947 = .ok (.iadd, 1) := by decide +kernel
theorem dL_law_948 : decode cL_law 948 = .ok (.iaload, 1) := by decide +kernel
theorem dL_law_949 : decode cL_law 949 = .ok (.aload_n 0, 1) := by decide +kernel
theorem dL_law_950 : decode cL_law 950 = .ok (.iload 4, 2) := by decide +kernel
theorem dL_law_952 : decode cL_law 952 = .ok (.iconst 2, 1) := by decide +kernel
theorem dL_law_953 : decode cL_law 953 = .ok (.iadd, 1) := by decide +kernel
theorem dL_law_954 : decode cL_law 954 = .ok (.iaload, 1) := by decide +kernel
theorem dL_law_955 : decode cL_law 955 = .ok (.invokevirtual 127, 3) := by decide +kernel
theorem dL_law_958 : decode cL_law 958 = .ok (.istore 6, 2) := by decide +kernel
theorem dL_law_960 : decode cL_law 960 = .ok (.aload_n 2, 1) := by decide +kernel
theorem dL_law_961 : decode cL_law 961 = .ok (.invokevirtual 72, 3) := by decide +kernel
theorem dL_law_964 : decode cL_law 964 = .ok (.iload 5, 2) := by decide +kernel
theorem dL_law_966 : decode cL_law 966 = .ok (.if_icmp .eq 5, 3) := by decide +kernel
theorem dL_law_969 : decode cL_law 969 = .ok (.iconst 0, 1) := by decide +kernel
theorem dL_law_970 : decode cL_law 970 = .ok (.ireturn, 1) := by decide +kernel
theorem dL_law_971 : decode cL_law 971 = .ok (.iload 5, 2) := by decide +kernel
theorem dL_law_973 : decode cL_law 973 = .ok (.ifCond .ne 15, 3) := by decide +kernel
theorem dL_law_976 : decode cL_law 976 = .ok (.aload_n 3, 1) := by decide +kernel
theorem dL_law_977 : decode cL_law 977 = .ok (.iconst 0, 1) := by decide +kernel
theorem dL_law_978 : decode cL_law 978 = .ok (.laload, 1) := by decide +kernel
theorem dL_law_979 : decode cL_law 979 = .ok (.iload 6, 2) := by decide +kernel
theorem dL_law_981 : decode cL_law 981 = .ok (.i2l, 1) := by decide +kernel
theorem dL_law_982 : decode cL_law 982 = .ok (.lcmp, 1) := by decide +kernel
theorem dL_law_983 : decode cL_law 983 = .ok (.ifCond .eq 5, 3) := by decide +kernel
theorem dL_law_986 : decode cL_law 986 = .ok (.iconst 0, 1) := by decide +kernel
theorem dL_law_987 : decode cL_law 987 = .ok (.ireturn, 1) := by decide +kernel
theorem dL_law_988 : decode cL_law 988 = .ok (.goto 41, 3) := by decide +kernel
theorem dL_law_991 : decode cL_law 991 = .ok (.aload_n 1, 1) := by decide +kernel
theorem dL_law_992 : decode cL_law 992 = .ok (.aload_n 0, 1) := by decide +kernel
theorem dL_law_993 : decode cL_law 993 = .ok (.iload 4, 2) := by decide +kernel
theorem dL_law_995 : decode cL_law 995 = .ok (.iconst 1, 1) := by decide +kernel
theorem dL_law_996 : decode cL_law 996 = .ok (.iadd, 1) := by decide +kernel
theorem dL_law_997 : decode cL_law 997 = .ok (.iaload, 1) := by decide +kernel
theorem dL_law_998 : decode cL_law 998 = .ok (.invokevirtual 128, 3) := by decide +kernel
theorem dL_law_1001 : decode cL_law 1001 = .ok (.aload_n 2, 1) := by decide +kernel
theorem dL_law_1002 : decode cL_law 1002 = .ok (.aload_n 0, 1) := by decide +kernel
theorem dL_law_1003 : decode cL_law 1003 = .ok (.iload 4, 2) := by decide +kernel
theorem dL_law_1005 : decode cL_law 1005 = .ok (.iconst 1, 1) := by decide +kernel
theorem dL_law_1006 : decode cL_law 1006 = .ok (.iadd, 1) := by decide +kernel
theorem dL_law_1007 : decode cL_law 1007 = .ok (.iaload, 1) := by decide +kernel
theorem dL_law_1008 : decode cL_law 1008 = .ok (.invokevirtual 131, 3) := by decide +kernel
theorem dL_law_1011 : decode cL_law 1011 = .ok (.if_icmp .eq 18, 3) := by decide +kernel
theorem dL_law_1014 : decode cL_law 1014 = .ok (.iconst 0, 1) := by decide +kernel
theorem dL_law_1015 : decode cL_law 1015 = .ok (.ireturn, 1) := by decide +kernel
theorem dL_law_1016 : decode cL_law 1016 = .ok (.aload_n 1, 1) := by decide +kernel
theorem dL_law_1017 : decode cL_law 1017 = .ok (.invokevirtual 132, 3) := by decide +kernel
theorem dL_law_1020 : decode cL_law 1020 = .ok (.aload_n 2, 1) := by decide +kernel
theorem dL_law_1021 : decode cL_law 1021 = .ok (.invokevirtual 135, 3) := by decide +kernel
theorem dL_law_1024 : decode cL_law 1024 = .ok (.if_icmp .eq 5, 3) := by decide +kernel
theorem dL_law_1027 : decode cL_law 1027 = .ok (.iconst 0, 1) := by decide +kernel
theorem dL_law_1028 : decode cL_law 1028 = .ok (.ireturn, 1) := by decide +kernel
theorem dL_law_1029 : decode cL_law 1029 = .ok (.iinc 4 5, 3) := by decide +kernel
theorem dL_law_1032 : decode cL_law 1032 = .ok (.goto (-1009), 3) := by decide +kernel
theorem dL_law_1035 : decode cL_law 1035 = .ok (.iconst 1, 1) := by decide +kernel
theorem dL_law_1036 : decode cL_law 1036 = .ok (.ireturn, 1) := by decide +kernel
end
section
/-! The words: those of the tables that every later state keeps; a method's words are its own code and these -/
def wsG : List Cond := lw_tbl.filter goodWord
theorem wsG_in {w : Cond} (h : w ∈ lw_tbl) (g : goodWord w = true) : w ∈ wsG := List.mem_filter.mpr ⟨h, g⟩
theorem wsG_of {w : Cond} (h : w ∈ wsG) : w ∈ lw_tbl := (List.mem_filter.mp h).1
theorem gdG {w : Cond} (h : w ∈ wsG) : GoodIn wsG (w :: wsG) := by
  intro v hv
  rcases List.mem_cons.mp hv with e | hv
  · rw [e]; exact ⟨h, good_of_word (List.mem_filter.mp h).2⟩
  · exact ⟨hv, good_of_word (List.mem_filter.mp hv).2⟩
theorem in_tables1 {w : Cond} (h : w ∈ tables_1_1) (g : goodWord w = true) : w ∈ wsG := wsG_in (List.mem_append_right _ (List.mem_append_left _ h)) g
theorem in_tables2 {w : Cond} (h : w ∈ tables_1_2) (g : goodWord w = true) : w ∈ wsG := wsG_in (List.mem_append_right _ (List.mem_append_right _ (List.mem_append_left _ h))) g
theorem in_tables3 {w : Cond} (h : w ∈ tables_1_3) (g : goodWord w = true) : w ∈ wsG := wsG_in (List.mem_append_right _ (List.mem_append_right _ (List.mem_append_right _ (List.mem_append_left _ h)))) g
theorem in_tables4 {w : Cond} (h : w ∈ tables_1_4) (g : goodWord w = true) : w ∈ wsG := wsG_in (List.mem_append_right _ (List.mem_append_right _ (List.mem_append_right _ (List.mem_append_right _ (List.mem_append_left _ h))))) g
theorem in_tables5 {w : Cond} (h : w ∈ tables_1_5) (g : goodWord w = true) : w ∈ wsG := wsG_in (List.mem_append_right _ (List.mem_append_right _ (List.mem_append_right _ (List.mem_append_right _ (List.mem_append_right _ h))))) g
theorem in_sels {q : MethodName × Nat} (h : q ∈ lw_privs) (g : goodWord (Cond.selects q.1.cls q.1 q.1) = true) : Cond.selects q.1.cls q.1 q.1 ∈ wsG := wsG_in (List.mem_append_left _ (List.mem_map.mpr ⟨q, h, rfl⟩)) g
/-! The world: cells 0 .. n-1 of a shape sk (an object: its class and fields, a reference to a cell or an int; an array: its kind, length, what references it holds), their numbers S: fields, ints, longs -/
abbrev wS : Type := (Nat → Nat → Int32) × (Nat → Nat → Int32) × (Nat → Nat → Int64)
abbrev wK : Type := (Nat × List (Option Nat)) ⊕ (Nat × Nat × (Nat → Option Nat))
def sI (S : wS) (i k : Nat) (v : Int32) : wS := (va_up S.1 i (va_up (S.1 i) k v), S.2.1, S.2.2)
def sB (S : wS) (i : Nat) (f : Nat → Int32) : wS := (S.1, va_up S.2.1 i f, S.2.2)
def sJ (S : wS) (i : Nat) (f : Nat → Int64) : wS := (S.1, S.2.1, va_up S.2.2 i f)
def wFv (ad : Nat → Nat) (v : Nat → Int32) (k : Nat) (o : Option Nat) : Value := match o with
  | some t => .ref (ad t)
  | none => .int (v k)
def wFs (ad : Nat → Nat) (v : Nat → Int32) (fs : List (Option Nat)) : List Value := fs.mapIdx (wFv ad v)
def wC (cy : Nat → ClassId) (ad : Nat → Nat) (sk : Nat → wK) (S : wS) (i : Nat) : va_E := match sk i with
  | .inl q => .inr (q.1, wFs ad (S.1 i) q.2)
  | .inr q => .inl (cy q.1, q.2.1, if q.1 = 2 then .inr (.inl (S.2.2 i)) else if q.1 < 2 then .inl (S.2.1 i) else .inr (.inr (.inr (.inr (fun j => (q.2.2 j).map ad)))))
def wW (n : Nat) (cy : Nat → ClassId) (ad : Nat → Nat) (sk : Nat → wK) (S : wS) : va_W := (List.range n).map (fun i => (ad i, wC cy ad sk S i))
section WW
variable {n : Nat} {cy : Nat → ClassId} {ad : Nat → Nat} {sk : Nat → wK} {S S' : wS}
theorem wFs_get {v : Nat → Int32} {fs : List (Option Nat)} {k : Nat} {o : Option Nat} (h : fs[k]? = some o) : (wFs ad v fs)[k]? = some (wFv ad v k o) := by
  unfold wFs
  rw [List.getElem?_mapIdx, h]
  rfl
theorem wFs_set {v : Nat → Int32} {fs : List (Option Nat)} {k : Nat} (h : fs[k]? = some none) (x : Int32) : (wFs ad v fs).set k (.int x) = wFs ad (va_up v k x) fs := by
  unfold wFs
  apply List.ext_getElem?
  intro j
  rw [List.getElem?_set, List.getElem?_mapIdx, List.getElem?_mapIdx]
  by_cases e : k = j
  · subst e
    have hl : k < fs.length := (List.getElem?_eq_some_iff.mp h).1
    rw [if_pos rfl, if_pos (by rw [List.length_mapIdx]; exact hl), h]
    simp [wFv, va_up]
  · rw [if_neg e]
    cases fs[j]? with
    | none => rfl
    | some o => cases o <;> simp [wFv, va_up, Ne.symm e]
theorem wW_len : (wW n cy ad sk S).length = n := by simp [wW]
theorem wW_get {i : Nat} (h : i < n) : (wW n cy ad sk S)[i]? = some (ad i, wC cy ad sk S i) := by
  unfold wW
  rw [List.getElem?_map, List.getElem?_range h]
  rfl
theorem wW_of {i : Nat} {q : Nat × va_E} (h : (wW n cy ad sk S)[i]? = some q) : i < n ∧ q = (ad i, wC cy ad sk S i) := by
  have hl : i < n := by
    have := (List.getElem?_eq_some_iff.mp h).1
    rwa [wW_len] at this
  rw [wW_get hl] at h
  exact ⟨hl, (Option.some.inj h).symm⟩
theorem wW_set {i : Nat} {e : va_E} (hi : i < n) (he : wC cy ad sk S' i = e) (ho : ∀ j, j ≠ i → wC cy ad sk S' j = wC cy ad sk S j) : (wW n cy ad sk S).set i (ad i, e) = wW n cy ad sk S' := by
  apply List.ext_getElem?
  intro j
  rw [List.getElem?_set]
  by_cases hj : j < n
  · rw [wW_get hj, wW_get hj, wW_len]
    by_cases e' : i = j
    · subst e'
      rw [if_pos rfl, if_pos hj, he]
    · rw [if_neg e', ho j (Ne.symm e')]
  · have h1 : (wW n cy ad sk S)[j]? = none := List.getElem?_eq_none (by rw [wW_len]; omega)
    have h2 : (wW n cy ad sk S')[j]? = none := List.getElem?_eq_none (by rw [wW_len]; omega)
    rw [h1, h2]
    by_cases e' : i = j
    · omega
    · rw [if_neg e']
theorem wW_D {A : Nat → Prop} (h : va_D A (wW n cy ad sk S)) : va_D A (wW n cy ad sk S') := by
  refine ⟨fun i j x y hx hy hxy => ?_, fun k q hk => ?_⟩
  · obtain ⟨h1, rfl⟩ := wW_of hx
    obtain ⟨h2, rfl⟩ := wW_of hy
    exact h.1 i j _ _ (wW_get h1) (wW_get h2) hxy
  · obtain ⟨h1, rfl⟩ := wW_of hk
    exact h.2 k (ad k, wC cy ad sk S k) (wW_get h1)
theorem wC_o {i ci : Nat} {fs : List (Option Nat)} (he : sk i = .inl (ci, fs)) : wC cy ad sk S i = .inr (ci, wFs ad (S.1 i) fs) := by
  unfold wC; rw [he]
theorem wC_i {i k len : Nat} {g : Nat → Option Nat} (he : sk i = .inr (k, len, g)) (hk : k < 2) : wC cy ad sk S i = .inl (cy k, len, .inl (S.2.1 i)) := by
  unfold wC; rw [he]; dsimp only; rw [if_neg (by omega), if_pos hk]
theorem wC_l {i len : Nat} {g : Nat → Option Nat} (he : sk i = .inr (2, len, g)) : wC cy ad sk S i = .inl (cy 2, len, .inr (.inl (S.2.2 i))) := by
  unfold wC; rw [he]; rfl
theorem wC_q {i k len : Nat} {g : Nat → Option Nat} (he : sk i = .inr (k, len, g)) (hk : 2 < k) : wC cy ad sk S i = .inl (cy k, len, .inr (.inr (.inr (.inr (fun j => (g j).map ad))))) := by
  unfold wC; rw [he]; dsimp only; rw [if_neg (by omega), if_neg (by omega)]
theorem wC_congr {i : Nat} (h1 : S'.1 i = S.1 i) (h2 : S'.2.1 i = S.2.1 i) (h3 : S'.2.2 i = S.2.2 i) : wC cy ad sk S' i = wC cy ad sk S i := by
  unfold wC; rw [h1, h2, h3]
end WW
/-- a world in a method's walk -/
def WB (D : va_G) (tys : List (ClassId × FieldType)) (n : Nat) (cy : Nat → ClassId) (ad : Nat → Nat) (sk : Nat → wK) (A : Nat → Prop) (s : State) (S : wS) (H : Heap) (locs : List Loc) : Prop :=
  va_K D vwCl tys s ∧ va_P D vwCl (wW n cy ad sk S) H ∧ va_D A (wW n cy ad sk S) ∧ va_S A s.heap H locs ∧ ∀ q, s.heap.size ≤ q → A q
section WR
variable {p : Program} {l : Launch} {e : Env} {R : Room} {s : State} {m : MethodId} {args : Array Value} {below : List Frame} {meth : Method} {c : Code} {H : Heap} {locs : List Loc} {cells slots : Nat} {Q : State → Prop}
variable {cc : ByteArray} {pc : Nat} {ls : Array Slot} {rest : List Value}
variable {D : va_G} {tys : List (ClassId × FieldType)} {n : Nat} {cy : Nat → ClassId} {ad : Nat → Nat} {sk : Nat → wK} {A : Nat → Prop} {S : wS} {own : String}
/-- an int field -/
theorem wb_gi (hx : p.tables.exec = Jvm.exec) (hb : c.code = cc) (hg : ∀ w ∈ wsG, w.before args s = true) (hown : s.vm.findClass own = some m.cls) (w : WB D tys n cy ad sk A s S H locs) {C : String} {T : u_T} {N : Nat} (hin : ∀ w ∈ u_ws C T N, w ∈ wsG) (i : Nat) (hi : i < n) {ci : Nat} {fs : List (Option Nat)} (he : sk i = .inl (ci, fs)) (hc : vwCl[ci]? = some (C, T, N)) (k : Nat) (hk : k < N) (hf : fs[k]? = some none) {index : Nat} (hl : Cond.fieldLink own index (T k).1 (T k).2.1 (T k).2.2.1 ∈ wsG) {v : Int32} (hv : S.1 i k = v) (hdg : decode cc pc = .ok (.getfield index, 3))
    (kk : W p l e R s m args below meth c H locs cells slots Q (F0 m (pc + 3) ls (.int v :: rest))) : W p l e R s m args below meth c H locs cells slots Q (F0 m pc ls (.ref (ad i) :: rest)) :=
  va_get hx hb hg hin hown w.1 w.2.1 i ((wW_get hi).trans (by rw [wC_o he])) hc k hk (hg _ hl) (fun _ h => h) ((wFs_get hf).trans (by rw [← hv]; rfl)) hdg kk
/-- a reference field -/
theorem wb_gr (hx : p.tables.exec = Jvm.exec) (hb : c.code = cc) (hg : ∀ w ∈ wsG, w.before args s = true) (hown : s.vm.findClass own = some m.cls) (w : WB D tys n cy ad sk A s S H locs) {C : String} {T : u_T} {N : Nat} (hin : ∀ w ∈ u_ws C T N, w ∈ wsG) (i : Nat) (hi : i < n) {ci : Nat} {fs : List (Option Nat)} (he : sk i = .inl (ci, fs)) (hc : vwCl[ci]? = some (C, T, N)) (k : Nat) (hk : k < N) {t : Nat} (hf : fs[k]? = some (some t)) {index : Nat} (hl : Cond.fieldLink own index (T k).1 (T k).2.1 (T k).2.2.1 ∈ wsG) (hdg : decode cc pc = .ok (.getfield index, 3))
    (kk : W p l e R s m args below meth c H locs cells slots Q (F0 m (pc + 3) ls (.ref (ad t) :: rest))) : W p l e R s m args below meth c H locs cells slots Q (F0 m pc ls (.ref (ad i) :: rest)) :=
  va_get hx hb hg hin hown w.1 w.2.1 i ((wW_get hi).trans (by rw [wC_o he])) hc k hk (hg _ hl) (fun _ h => h) (wFs_get hf) hdg kk
/-- writing an int field -/
theorem wb_pi (hx : p.tables.exec = Jvm.exec) (hb : c.code = cc) (hg : ∀ w ∈ wsG, w.before args s = true) (hown : s.vm.findClass own = some m.cls) (w : WB D tys n cy ad sk A s S H locs) {C : String} {T : u_T} {N : Nat} (hin : ∀ w ∈ u_ws C T N, w ∈ wsG) (ty0 : Nat → FieldType) (hty : ∀ k, k < N → parseFieldDescriptor (T k).2.2.1 = some (ty0 k)) (hnm : ∀ a, a < N → ∀ b, b < N → a ≠ b → (T a).2.1 ≠ (T b).2.1) (i : Nat) (hi : i < n) {ci : Nat} {fs : List (Option Nat)} (he : sk i = .inl (ci, fs)) (hc : vwCl[ci]? = some (C, T, N)) (k : Nat) (hk : k < N) (hf : fs[k]? = some none) {index : Nat} (hl : Cond.fieldLink own index (T k).1 (T k).2.1 (T k).2.2.1 ∈ wsG) (hfin : (T k).2.2.2 = false) {v : Int32} (hn : narrow (ty0 k) (.int v) = .int v) (hfit : fits (ty0 k) (.int v) = true) {S' : wS} (hS' : sI S i k v = S') (hdg : decode cc pc = .ok (.putfield index, 3))
    (kk : ∀ (H1 : Heap) (locs1 : List Loc), WB D tys n cy ad sk A s S' H1 locs1 → W p l e R s m args below meth c H1 locs1 cells slots Q (F0 m (pc + 3) ls rest)) : W p l e R s m args below meth c H locs cells slots Q (F0 m pc ls (.int v :: .ref (ad i) :: rest)) := by
  subst hS'
  have e1 : wC cy ad sk (sI S i k v) i = .inr (ci, (wFs ad (S.1 i) fs).set k (.int v)) := by
    rw [wC_o he, wFs_set hf]
    have : (sI S i k v).1 i = va_up (S.1 i) k v := by simp [sI, va_up]
    rw [this]
  have e2 : ∀ j, j ≠ i → wC cy ad sk (sI S i k v) j = wC cy ad sk S j := fun j hj => wC_congr (by simp [sI, va_up, hj]) rfl rfl
  refine va_put hx hb hg hin ty0 hty hnm hown w.1 w.2.1 w.2.2.1 w.2.2.2.1 i ((wW_get hi).trans (by rw [wC_o he])) hc k hk (hg _ hl) (fun _ h => h) hfin (hty k hk) hn hfit (by have := (List.getElem?_eq_some_iff.mp (wFs_get (ad := ad) (v := S.1 i) hf)).1; exact this) hdg (fun H1 locs1 hP hD hS => ?_)
  rw [wW_set hi e1 e2] at hP hD
  exact kk H1 locs1 ⟨w.1, hP, hD, hS, w.2.2.2.2⟩
/-- an int out of an array of ints -/
theorem wb_iald (hx : p.tables.exec = Jvm.exec) (hb : c.code = cc) (w : WB D tys n cy ad sk A s S H locs) (i : Nat) (hi : i < n) {len : Nat} {g : Nat → Option Nat} (he : sk i = .inr (0, len, g)) (t0 : Nat) (ht : tys[t0]? = some (cy 0, .int)) {x : Int32} {k : Nat} (hxk : x = nI k) (hk : k < len) (hlen : len < 2 ^ 31) {v : Int32} (hv : S.2.1 i k = v) (hdg : decode cc pc = .ok (.iaload, 1))
    (kk : W p l e R s m args below meth c H locs cells slots Q (F0 m (pc + 1) ls (.int v :: rest))) : W p l e R s m args below meth c H locs cells slots Q (F0 m pc ls (.int x :: .ref (ad i) :: rest)) := by
  subst hxk
  refine va_iald hx hb w.1 w.2.1 i t0 ((wW_get hi).trans (by rw [wC_i he (by decide)])) ht (vp_in_nI hk hlen) hdg ?_
  rw [nI_clamp (Nat.lt_trans hk hlen), hv]
  exact kk
theorem wb_bald (hx : p.tables.exec = Jvm.exec) (hb : c.code = cc) (w : WB D tys n cy ad sk A s S H locs) (i : Nat) (hi : i < n) {len : Nat} {g : Nat → Option Nat} (he : sk i = .inr (1, len, g)) (t0 : Nat) (ht : tys[t0]? = some (cy 1, .byte)) {x : Int32} {k : Nat} (hxk : x = nI k) (hk : k < len) (hlen : len < 2 ^ 31) {v : Int32} (hv : S.2.1 i k = v) (hdg : decode cc pc = .ok (.baload, 1))
    (kk : W p l e R s m args below meth c H locs cells slots Q (F0 m (pc + 1) ls (.int v :: rest))) : W p l e R s m args below meth c H locs cells slots Q (F0 m pc ls (.int x :: .ref (ad i) :: rest)) := by
  subst hxk
  refine va_bald hx hb w.1 w.2.1 i t0 ((wW_get hi).trans (by rw [wC_i he (by decide)])) ht (vp_in_nI hk hlen) hdg ?_
  rw [nI_clamp (Nat.lt_trans hk hlen), hv]
  exact kk
theorem wb_lald (hx : p.tables.exec = Jvm.exec) (hb : c.code = cc) (w : WB D tys n cy ad sk A s S H locs) (i : Nat) (hi : i < n) {len : Nat} {g : Nat → Option Nat} (he : sk i = .inr (2, len, g)) (t0 : Nat) (ht : tys[t0]? = some (cy 2, .long)) {x : Int32} {k : Nat} (hxk : x = nI k) (hk : k < len) (hlen : len < 2 ^ 31) {v : Int64} (hv : S.2.2 i k = v) (hdg : decode cc pc = .ok (.laload, 1))
    (kk : W p l e R s m args below meth c H locs cells slots Q (F0 m (pc + 1) ls (.long v :: rest))) : W p l e R s m args below meth c H locs cells slots Q (F0 m pc ls (.int x :: .ref (ad i) :: rest)) := by
  subst hxk
  refine va_lald hx hb w.1 w.2.1 i t0 ((wW_get hi).trans (by rw [wC_l he])) ht (vp_in_nI hk hlen) hdg ?_
  rw [nI_clamp (Nat.lt_trans hk hlen), hv]
  exact kk
theorem sB_o {i k len : Nat} {g : Nat → Option Nat} (he : sk i = .inr (k, len, g)) (hk : k < 2) (f : Nat → Int32) : wC cy ad sk (sB S i f) i = .inl (cy k, len, .inl f) := by
  rw [wC_i he hk]
  have : (sB S i f).2.1 i = f := by simp [sB, va_up]
  rw [this]
theorem sB_n {i : Nat} (f : Nat → Int32) : ∀ j, j ≠ i → wC cy ad sk (sB S i f) j = wC cy ad sk S j := fun j hj => wC_congr rfl (by simp [sB, va_up, hj]) rfl
theorem sJ_o {i len : Nat} {g : Nat → Option Nat} (he : sk i = .inr (2, len, g)) (f : Nat → Int64) : wC cy ad sk (sJ S i f) i = .inl (cy 2, len, .inr (.inl f)) := by
  rw [wC_l he]
  have : (sJ S i f).2.2 i = f := by simp [sJ, va_up]
  rw [this]
theorem sJ_n {i : Nat} (f : Nat → Int64) : ∀ j, j ≠ i → wC cy ad sk (sJ S i f) j = wC cy ad sk S j := fun j hj => wC_congr rfl rfl (by simp [sJ, va_up, hj])
theorem wb_iast (hx : p.tables.exec = Jvm.exec) (hb : c.code = cc) (w : WB D tys n cy ad sk A s S H locs) (i : Nat) (hi : i < n) {len : Nat} {g : Nat → Option Nat} (he : sk i = .inr (0, len, g)) (t0 : Nat) (ht : tys[t0]? = some (cy 0, .int)) {x y : Int32} {k : Nat} (hxk : x = nI k) (hk : k < len) (hlen : len < 2 ^ 31) {f : Nat → Int32} (hf : S.2.1 i = f) {S' : wS} (hS' : sB S i (upd f k y) = S') (hdg : decode cc pc = .ok (.iastore, 1))
    (kk : ∀ (H1 : Heap) (locs1 : List Loc), WB D tys n cy ad sk A s S' H1 locs1 → W p l e R s m args below meth c H1 locs1 cells slots Q (F0 m (pc + 1) ls rest)) : W p l e R s m args below meth c H locs cells slots Q (F0 m pc ls (.int y :: .int x :: .ref (ad i) :: rest)) := by
  subst hxk; subst hS'; subst hf
  refine va_iast hx hb w.1 w.2.1 w.2.2.1 w.2.2.2.1 i t0 ((wW_get hi).trans (by rw [wC_i he (by decide)])) ht (vp_in_nI hk hlen) hdg (fun H1 locs1 hP hD hS => ?_)
  rw [nI_clamp (Nat.lt_trans hk hlen), wW_set hi (sB_o he (by decide) _) (sB_n _)] at hP hD
  exact kk H1 locs1 ⟨w.1, hP, hD, hS, w.2.2.2.2⟩
theorem wb_bast (hx : p.tables.exec = Jvm.exec) (hb : c.code = cc) (w : WB D tys n cy ad sk A s S H locs) (i : Nat) (hi : i < n) {len : Nat} {g : Nat → Option Nat} (he : sk i = .inr (1, len, g)) (t0 : Nat) (ht : tys[t0]? = some (cy 1, .byte)) {x y z : Int32} {k : Nat} (hxk : x = nI k) (hk : k < len) (hlen : len < 2 ^ 31) {f : Nat → Int32} (hf : S.2.1 i = f) (hz : y.toInt8.toInt32 = z) {S' : wS} (hS' : sB S i (upd f k z) = S') (hdg : decode cc pc = .ok (.bastore, 1))
    (kk : ∀ (H1 : Heap) (locs1 : List Loc), WB D tys n cy ad sk A s S' H1 locs1 → W p l e R s m args below meth c H1 locs1 cells slots Q (F0 m (pc + 1) ls rest)) : W p l e R s m args below meth c H locs cells slots Q (F0 m pc ls (.int y :: .int x :: .ref (ad i) :: rest)) := by
  subst hxk; subst hS'; subst hf; subst hz
  refine va_bast hx hb w.1 w.2.1 w.2.2.1 w.2.2.2.1 i t0 ((wW_get hi).trans (by rw [wC_i he (by decide)])) ht (vp_in_nI hk hlen) hdg (fun H1 locs1 hP hD hS => ?_)
  rw [nI_clamp (Nat.lt_trans hk hlen), vp_nar_byte, wW_set hi (sB_o he (by decide) _) (sB_n _)] at hP hD
  exact kk H1 locs1 ⟨w.1, hP, hD, hS, w.2.2.2.2⟩
theorem wb_last (hx : p.tables.exec = Jvm.exec) (hb : c.code = cc) (w : WB D tys n cy ad sk A s S H locs) (i : Nat) (hi : i < n) {len : Nat} {g : Nat → Option Nat} (he : sk i = .inr (2, len, g)) (t0 : Nat) (ht : tys[t0]? = some (cy 2, .long)) {x : Int32} {y : Int64} {k : Nat} (hxk : x = nI k) (hk : k < len) (hlen : len < 2 ^ 31) {f : Nat → Int64} (hf : S.2.2 i = f) {S' : wS} (hS' : sJ S i (vp_updL f k y) = S') (hdg : decode cc pc = .ok (.lastore, 1))
    (kk : ∀ (H1 : Heap) (locs1 : List Loc), WB D tys n cy ad sk A s S' H1 locs1 → W p l e R s m args below meth c H1 locs1 cells slots Q (F0 m (pc + 1) ls rest)) : W p l e R s m args below meth c H locs cells slots Q (F0 m pc ls (.long y :: .int x :: .ref (ad i) :: rest)) := by
  subst hxk; subst hS'; subst hf
  refine va_last hx hb w.1 w.2.1 w.2.2.1 w.2.2.2.1 i t0 ((wW_get hi).trans (by rw [wC_l he])) ht (vp_in_nI hk hlen) hdg (fun H1 locs1 hP hD hS => ?_)
  rw [nI_clamp (Nat.lt_trans hk hlen), wW_set hi (sJ_o he _) (sJ_n _)] at hP hD
  exact kk H1 locs1 ⟨w.1, hP, hD, hS, w.2.2.2.2⟩
/-- a reference out of an array of objects -/
theorem wb_aald (hx : p.tables.exec = Jvm.exec) (hb : c.code = cc) (w : WB D tys n cy ad sk A s S H locs) (i : Nat) (hi : i < n) {kd len : Nat} {g : Nat → Option Nat} (he : sk i = .inr (kd, len, g)) (hkd : 2 < kd) (t0 : Nat) {C : String} (ht : tys[t0]? = some (cy kd, .object C)) {x : Int32} {k t : Nat} (hxk : x = nI k) (hk : k < len) (hlen : len < 2 ^ 31) (hg : g k = some t) (hdg : decode cc pc = .ok (.aaload, 1))
    (kk : W p l e R s m args below meth c H locs cells slots Q (F0 m (pc + 1) ls (.ref (ad t) :: rest))) : W p l e R s m args below meth c H locs cells slots Q (F0 m pc ls (.int x :: .ref (ad i) :: rest)) := by
  subst hxk
  refine va_aldq hx hb w.1 w.2.1 i t0 ((wW_get hi).trans (by rw [wC_q he hkd])) ht (vp_in_nI hk hlen) hdg ?_
  rw [nI_clamp (Nat.lt_trans hk hlen), hg]
  exact kk
/-- a row out of an array of arrays -/
theorem wb_aaldA (hx : p.tables.exec = Jvm.exec) (hb : c.code = cc) (w : WB D tys n cy ad sk A s S H locs) (i : Nat) (hi : i < n) {kd len : Nat} {g : Nat → Option Nat} (he : sk i = .inr (kd, len, g)) (hkd : 2 < kd) (t0 : Nat) {ty : FieldType} (ht : tys[t0]? = some (cy kd, .array ty)) {x : Int32} {k t : Nat} (hxk : x = nI k) (hk : k < len) (hlen : len < 2 ^ 31) (hg : g k = some t) (hdg : decode cc pc = .ok (.aaload, 1))
    (kk : W p l e R s m args below meth c H locs cells slots Q (F0 m (pc + 1) ls (.ref (ad t) :: rest))) : W p l e R s m args below meth c H locs cells slots Q (F0 m pc ls (.int x :: .ref (ad i) :: rest)) := by
  subst hxk
  have hin := vp_in_nI hk hlen
  have ha : (wW n cy ad sk S)[i]? = some (ad i, .inl (cy kd, len, .inr (.inr (.inr (.inr (fun j => (g j).map ad)))))) := (wW_get hi).trans (by rw [wC_q he hkd])
  have hlt : (nI k).toNatClampNeg < len := Nat.not_le.mp fun q => hin (Or.inr q)
  refine W.aald (v := va_rf ((g (nI k).toNatClampNeg).map ad)) (ty := .array ty) hx hb (w.2.1 i _ ha) ((w.1.2 t0 _ ht).1 len (fun j => va_rf ((g j).map ad))) rfl (fun q => by cases q) (by show ¬ (nI k < 0 ∨ (arrV _ _ _).slots.size ≤ _); rw [arrV_size]; exact hin) (by show (arrV _ _ _).slots[_]? = _; rw [arrV_read _ _ hlt]) rfl rfl hdg ?_
  rw [nI_clamp (Nat.lt_trans hk hlen), hg]
  exact kk
/-- an array's length -/
theorem wb_alen (hx : p.tables.exec = Jvm.exec) (hb : c.code = cc) (w : WB D tys n cy ad sk A s S H locs) (i : Nat) (hi : i < n) {kd len : Nat} {g : Nat → Option Nat} (he : sk i = .inr (kd, len, g)) (t0 : Nat) {ty : FieldType} (ht : tys[t0]? = some (cy kd, ty)) (hdg : decode cc pc = .ok (.arraylength, 1))
    (kk : W p l e R s m args below meth c H locs cells slots Q (F0 m (pc + 1) ls (.int (nI len) :: rest))) : W p l e R s m args below meth c H locs cells slots Q (F0 m pc ls (.ref (ad i) :: rest)) := by
  refine va_alen hx hb w.1 w.2.1 i t0 (cA := cy kd) (x := (len, if kd = 2 then .inr (.inl (S.2.2 i)) else if kd < 2 then .inl (S.2.1 i) else .inr (.inr (.inr (.inr (fun j => (g j).map ad)))))) ((wW_get hi).trans ?_) ht rfl hdg kk
  have : wC cy ad sk S i = .inl (cy kd, len, if kd = 2 then .inr (.inl (S.2.2 i)) else if kd < 2 then .inl (S.2.1 i) else .inr (.inr (.inr (.inr (fun j => (g j).map ad))))) := by unfold wC; rw [he]
  rw [this]
end WR
end
section
/-! Contracts over a world, and their calls -/
/-- what a premise beside the world must bear: being carried into a callee, and the callee's frame -/
def EOk (E : (Nat → Prop) → State → Prop) : Prop := (∀ (A A' : Nat → Prop) (s U : State) (H : Heap) (locs : List Loc), E A s → U.heap = H → va_S A s.heap H locs → s.WarmedH U.vm → (∀ q, A' q → A q) → E A' U) ∧ ∀ (A : Nat → Prop) (U : State) (g : JFrame) (mk : MethodId) (a : Array Value), E A U → E A (U.calling g mk a)
def E0 : (Nat → Prop) → State → Prop := fun _ _ => True
theorem E0_ok : EOk E0 := ⟨fun _ _ _ _ _ _ _ _ _ _ _ => trivial, fun _ _ _ _ _ _ => trivial⟩
def wPre (D : va_G) (tys : List (ClassId × FieldType)) (n : Nat) (cy : Nat → ClassId) (ad : Nat → Nat) (sk : Nat → wK) (E : (Nat → Prop) → State → Prop) (S : wS) (sz : Nat) : State → Prop := fun U => U.heap.size = sz ∧ va_P D vwCl (wW n cy ad sk S) U.heap ∧ va_K D vwCl tys U ∧ va_D (fun _ => True) (wW n cy ad sk S) ∧ E (va_A (wW n cy ad sk S) sz) U
def wPost (D : va_G) (tys : List (ClassId × FieldType)) (n : Nat) (cy : Nat → ClassId) (ad : Nat → Nat) (sk : Nat → wK) (S : wS) (sz : Nat) : wS → State → Prop := fun S' t => va_P D vwCl (wW n cy ad sk S') t.heap ∧ va_K D vwCl tys t ∧ va_D (va_A (wW n cy ad sk S) sz) (wW n cy ad sk S')
/-- a method that answers an int -/
def CtI (l : Launch) (y : MethodName) (ws : List Cond) (fr lo : Nat) (av : List Value) (D : va_G) (tys : List (ClassId × FieldType)) (n : Nat) (cy : Nat → ClassId) (ad : Nat → Nat) (sk : Nat → wK) (E : (Nat → Prop) → State → Prop) (S : wS) (post : Int32 → wS → Prop) : Prop :=
  ∀ sz : Nat, Met l y ws ({ frames := fr, cells := 0, slots := 0, locals := lo }) (va_Pc av (wPre D tys n cy ad sk E S sz)) (va_Qi post (wPost D tys n cy ad sk S sz) (va_A (wW n cy ad sk S) sz)) 0 0 (va_A (wW n cy ad sk S) sz)
/-- .. a long -/
def CtL (l : Launch) (y : MethodName) (ws : List Cond) (fr lo : Nat) (av : List Value) (D : va_G) (tys : List (ClassId × FieldType)) (n : Nat) (cy : Nat → ClassId) (ad : Nat → Nat) (sk : Nat → wK) (E : (Nat → Prop) → State → Prop) (S : wS) (post : Int64 → wS → Prop) : Prop :=
  ∀ sz : Nat, Met l y ws ({ frames := fr, cells := 0, slots := 0, locals := lo }) (va_Pc av (wPre D tys n cy ad sk E S sz)) (va_Ql post (wPost D tys n cy ad sk S sz) (va_A (wW n cy ad sk S) sz)) 0 0 (va_A (wW n cy ad sk S) sz)
/-- .. nothing -/
def CtV (l : Launch) (y : MethodName) (ws : List Cond) (fr lo : Nat) (av : List Value) (D : va_G) (tys : List (ClassId × FieldType)) (n : Nat) (cy : Nat → ClassId) (ad : Nat → Nat) (sk : Nat → wK) (E : (Nat → Prop) → State → Prop) (S : wS) (post : wS → Prop) : Prop :=
  ∀ sz : Nat, Met l y ws ({ frames := fr, cells := 0, slots := 0, locals := lo }) (va_Pc av (wPre D tys n cy ad sk E S sz)) (va_Qv post (wPost D tys n cy ad sk S sz) (va_A (wW n cy ad sk S) sz)) 0 0 (va_A (wW n cy ad sk S) sz)
/-- what a body begins with -/
def Bd (p : Program) (s : State) (m : MethodId) (args : Array Value) (meth : Method) (c : Code) (own : String) (cc : ByteArray) (maxL : Nat) (ret : Option FieldType) (av : List Value) (D : va_G) (tys : List (ClassId × FieldType)) (n : Nat) (cy : Nat → ClassId) (ad : Nat → Nat) (sk : Nat → wK) (E : (Nat → Prop) → State → Prop) (S : wS) (A : Nat → Prop) (ls : Array Slot) : Prop :=
  p.tables.exec = Jvm.exec ∧ c.code = cc ∧ meth.sig.returnType = ret ∧ (∀ w ∈ wsG, w.before args s = true) ∧ s.vm.findClass own = some m.cls ∧ c.maxLocals = maxL ∧ meth.locks = false ∧ WB D tys n cy ad sk A s S s.heap [] ∧ E A s ∧ lv_has ls maxL (lv_args 0 av)
section CT
variable {l : Launch} {y : MethodName} {cc : ByteArray} {maxL fr lo : Nat} {ret : Option FieldType} {av : List Value} {D : va_G} {tys : List (ClassId × FieldType)} {n : Nat} {cy : Nat → ClassId} {ad : Nat → Nat} {sk : Nat → wK} {E : (Nat → Prop) → State → Prop} {S : wS}
theorem Ct_body {Qc : Nat → Array Value → State → Outcome → State → Prop} (hy : plainName y.cls = true) (hlen : (lg_sl av).length ≤ maxL)
    (body : ∀ (p : Program) (e : Env) (s : State) (m : MethodId) (args : Array Value) (below : List Frame) (meth : Method) (c : Code) (A : Nat → Prop) (ls : Array Slot), A = va_A (wW n cy ad sk S) s.heap.size → Bd p s m args meth c y.cls cc maxL ret av D tys n cy ad sk E S A ls →
      W p l e ({ frames := fr, cells := 0, slots := 0, locals := lo }) s m args below meth c s.heap [] 0 0 (MQ below (Qc s.heap.size) args s 0 0 A) (F0 m 0 ls [])) :
    ∀ sz : Nat, Met l y (Cond.code y cc maxL ret :: wsG) ({ frames := fr, cells := 0, slots := 0, locals := lo }) (va_Pc av (wPre D tys n cy ad sk E S sz)) (Qc sz) 0 0 (va_A (wW n cy ad sk S) sz) := by
  intro sz
  refine Met.ofW (cc := cc) (maxL := maxL) (ret := ret) hy rfl ?_
  intro p e s m args below meth c s₁ B hml hv
  obtain ⟨rfl, hsz, hP, hK, hD0, hE⟩ := hv
  subst hsz
  have hts := atoms_spec (ws := Cond.code y cc maxL ret :: wsG) B.pre
  rw [lg_entry_eq]
  exact body p e s m av.toArray below meth c _ _ rfl ⟨B.exec, B.bytes, B.returns, fun w h => hts w (List.mem_cons_of_mem _ h), findClass_of_methodNamed B.named, hml, B.notSynchronized, ⟨hK, hP, hD0.self, va_S.rf, fun q h => Or.inr h⟩, hE, lv_entry av hlen⟩
end CT
section CR
variable {p : Program} {l : Launch} {e : Env} {R : Room} {s : State} {m : MethodId} {args : Array Value} {below : List Frame} {meth : Method} {c : Code} {H : Heap} {locs : List Loc} {cells slots : Nat} {Q : State → Prop}
variable {cc : ByteArray} {pc : Nat} {ls : Array Slot} {rest st0 : List Value}
variable {D : va_G} {tys : List (ClassId × FieldType)} {n : Nat} {cy : Nat → ClassId} {ad : Nat → Nat} {sk : Nat → wK} {A : Nat → Prop} {S S0 : wS} {own : String}
/-- the ends -/
theorem wb_iret {post : Int32 → wS → Prop} {v : Int32} {ty : FieldType} (hx : p.tables.exec = Jvm.exec) (hb : c.code = cc) (hr : meth.sig.returnType = some ty) (hn : narrow ty (.int v) = .int v) (hlk : meth.locks = false) (hA : A = va_A (wW n cy ad sk S0) s.heap.size) (w : WB D tys n cy ad sk A s S H locs) (hp : post v S) (hdg : decode cc pc = .ok (.ireturn, 1)) :
    W p l e R s m args below meth c H locs cells slots (MQ below (va_Qi post (wPost D tys n cy ad sk S0 s.heap.size) (va_A (wW n cy ad sk S0) s.heap.size)) args s cells slots A) (F0 m pc ls [.int v]) := by
  subst hA
  exact W.zret hx hb hr hn (fun t ht hW => ⟨⟨v, S, rfl, hp, by rw [ht]; exact w.2.1, va_K.moved hW.alike w.1, w.2.2.1⟩, w.2.2.2.1.F ht⟩) w.2.2.2.1.2.2 hdg hlk
theorem wb_lret {post : Int64 → wS → Prop} {v : Int64} (hx : p.tables.exec = Jvm.exec) (hb : c.code = cc) (hr : meth.sig.returnType = some .long) (hlk : meth.locks = false) (hA : A = va_A (wW n cy ad sk S0) s.heap.size) (w : WB D tys n cy ad sk A s S H locs) (hp : post v S) (hdg : decode cc pc = .ok (.lreturn, 1)) :
    W p l e R s m args below meth c H locs cells slots (MQ below (va_Ql post (wPost D tys n cy ad sk S0 s.heap.size) (va_A (wW n cy ad sk S0) s.heap.size)) args s cells slots A) (F0 m pc ls [.long v]) := by
  subst hA
  exact W.lret hx hb hr (fun t ht hW => ⟨⟨v, S, rfl, hp, by rw [ht]; exact w.2.1, va_K.moved hW.alike w.1, w.2.2.1⟩, w.2.2.2.1.F ht⟩) w.2.2.2.1.2.2 hdg hlk
theorem wb_vret {post : wS → Prop} (hx : p.tables.exec = Jvm.exec) (hb : c.code = cc) (hr : meth.sig.returnType = none) (hlk : meth.locks = false) (hA : A = va_A (wW n cy ad sk S0) s.heap.size) (w : WB D tys n cy ad sk A s S H locs) (hp : post S) (hdg : decode cc pc = .ok (.return_, 1)) :
    W p l e R s m args below meth c H locs cells slots (MQ below (va_Qv post (wPost D tys n cy ad sk S0 s.heap.size) (va_A (wW n cy ad sk S0) s.heap.size)) args s cells slots A) (F0 m pc ls []) := by
  subst hA
  exact W.vret hx hb hr (fun t ht hW => ⟨⟨S, rfl, hp, by rw [ht]; exact w.2.1, va_K.moved hW.alike w.1, w.2.2.1⟩, w.2.2.2.1.F ht⟩) w.2.2.2.1.2.2 hdg hlk
/-- a smaller world of n2 cells within the world: cell k is cell f k; what the callee leaves (S2') makes the whole up S2' -/
def Sub (n : Nat) (cy : Nat → ClassId) (ad : Nat → Nat) (sk : Nat → wK) (S : wS) (n2 : Nat) (ad2 : Nat → Nat) (sk2 : Nat → wK) (S2 : wS) (f : Nat → Nat) (up : wS → wS) : Prop :=
  (∀ k, k < n2 → f k < n ∧ ad2 k = ad (f k) ∧ wC cy ad2 sk2 S2 k = wC cy ad sk S (f k)) ∧ (∀ k k', k < n2 → k' < n2 → f k = f k' → k = k') ∧
  ∀ S2' : wS, (∀ k, k < n2 → wC cy ad sk (up S2') (f k) = wC cy ad2 sk2 S2' k) ∧ ∀ i, i < n → (∀ k, k < n2 → f k ≠ i) → wC cy ad sk (up S2') i = wC cy ad sk S i
theorem Sub.self : Sub n cy ad sk S n ad sk S id id := ⟨fun k hk => ⟨hk, rfl, rfl⟩, fun _ _ _ _ h => h, fun _ => ⟨fun _ _ => rfl, fun i hi h => absurd rfl (h i hi)⟩⟩
theorem Sub.none {ad2 : Nat → Nat} {sk2 : Nat → wK} {S2 : wS} : Sub n cy ad sk S 0 ad2 sk2 S2 id (fun _ => S) := ⟨fun k hk => absurd hk (Nat.not_lt_zero k), fun k _ hk _ _ => absurd hk (Nat.not_lt_zero k), fun _ => ⟨fun k hk => absurd hk (Nat.not_lt_zero k), fun _ _ _ => rfl⟩⟩
variable {n2 : Nat} {ad2 : Nat → Nat} {sk2 : Nat → wK} {S2 : wS} {f : Nat → Nat} {up : wS → wS} {tys2 : List (ClassId × FieldType)} {E E2 : (Nat → Prop) → State → Prop}
theorem Sub.P (h : Sub n cy ad sk S n2 ad2 sk2 S2 f up) (w : WB D tys n cy ad sk A s S H locs) : va_P D vwCl (wW n2 cy ad2 sk2 S2) H ∧ va_D (fun _ => True) (wW n2 cy ad2 sk2 S2) ∧ ∀ q, va_A (wW n2 cy ad2 sk2 S2) H.size q → A q := by
  refine ⟨fun k q hk => ?_, ⟨fun i j x z hi hj hxz => ?_, fun _ _ _ => trivial⟩, fun q hq => ?_⟩
  · obtain ⟨h1, rfl⟩ := wW_of hk
    obtain ⟨h2, h3, h4⟩ := h.1 k h1
    rw [h3, h4]
    exact w.2.1 _ _ (wW_get h2)
  · obtain ⟨h1, rfl⟩ := wW_of hi
    obtain ⟨h2, rfl⟩ := wW_of hj
    obtain ⟨a1, a2, a3⟩ := h.1 i h1
    obtain ⟨b1, b2, b3⟩ := h.1 j h2
    refine h.2.1 i j h1 h2 (w.2.2.1.1 _ _ _ _ (wW_get a1) (wW_get b1) ?_)
    exact a2.symm.trans (hxz.trans b2)
  · rcases hq with ⟨k, e9, hk⟩ | hq
    · obtain ⟨h1, h5⟩ := wW_of hk
      obtain ⟨h2, h3, h4⟩ := h.1 k h1
      have h6 : q = ad2 k := congrArg Prod.fst h5
      rw [h6, h3]
      exact w.2.2.1.2 _ _ (wW_get (S := S) h2)
    · exact w.2.2.2.2 q (Nat.le_trans w.2.2.2.1.1 hq)
theorem Sub.back (h : Sub n cy ad sk S n2 ad2 sk2 S2 f up) (w : WB D tys n cy ad sk A s S H locs) {H1 : Heap} {locs1 : List Loc} {S2' : wS} (hP1 : va_P D vwCl (wW n2 cy ad2 sk2 S2') H1) (hk : ∀ q : Nat, q < H.size → ¬ va_A (wW n2 cy ad2 sk2 S2) H.size q → H1[q]? = H[q]?) (hS : va_S A s.heap H1 locs1) : WB D tys n cy ad sk A s (up S2') H1 locs1 := by
  refine ⟨w.1, fun i q hi => ?_, wW_D w.2.2.1, hS, w.2.2.2.2⟩
  obtain ⟨h1, rfl⟩ := wW_of hi
  by_cases hx : ∃ k, k < n2 ∧ f k = i
  · obtain ⟨k, hk2, rfl⟩ := hx
    obtain ⟨g1, g2, g3⟩ := h.1 k hk2
    have h2 := hP1 k _ (wW_get hk2)
    rw [g2, ← (h.2.2 S2').1 k hk2] at h2
    exact h2
  · have hn : ∀ k, k < n2 → f k ≠ i := fun k h3 h4 => hx ⟨k, h3, h4⟩
    rw [(h.2.2 S2').2 i h1 hn]
    have h0 := w.2.1 i _ (wW_get h1)
    refine h0.kept (hk (ad i) h0.lt (fun hA => ?_))
    rcases hA with ⟨k, e9, hk2⟩ | hA
    · obtain ⟨h3, h5⟩ := wW_of hk2
      obtain ⟨g1, g2, g3⟩ := h.1 k h3
      have h6 : ad i = ad2 k := congrArg Prod.fst h5
      exact hn k h3 (w.2.2.1.1 _ _ _ _ (wW_get (S := S) g1) (wW_get (S := S) h1) (g2.symm.trans h6.symm))
    · have := h0.lt
      omega
theorem wPre_blind (hE2 : EOk E2) {av2 : List Value} {sz : Nat} : FrameBlind (va_Pc av2 (wPre D tys2 n2 cy ad2 sk2 E2 S2 sz)) := fun a U g mk q => by
  obtain ⟨q0, q1, qP, qK, qD, qE⟩ := q
  exact ⟨q0, q1, qP, va_K.moved (u := U) (U := U.calling g mk a) (Vm.Alike.refl U.vm) qK, qD, hE2.2 _ _ g mk a qE⟩
theorem wPre_of (hE2 : EOk E2) (h : Sub n cy ad sk S n2 ad2 sk2 S2 f up) (w : WB D tys n cy ad sk A s S H locs) (hE : E2 A s) (hty : va_K D vwCl tys2 s) {U : State} (hU : U.heap = H) (hW : s.WarmedH U.vm) (av2 : List Value) : va_Pc av2 (wPre D tys2 n2 cy ad2 sk2 E2 S2 H.size) av2.toArray U := by
  obtain ⟨h1, h2, h3⟩ := h.P w
  exact ⟨rfl, by rw [hU], by rw [hU]; exact h1, va_K.moved hW.alike hty, h2, hE2.1 A _ s U H locs hE hU w.2.2.2.1 hW h3⟩
variable {y : MethodName} {bytes : ByteArray} {maxL nL fr lo index na : Nat} {ret : Option FieldType} {As : List Value}
/-- the words and the room of a call -/
theorem wCallB (hg : ∀ w ∈ wsG, w.before args s = true) (hcd : Cond.code y bytes maxL ret ∈ wsG) (hini : Cond.initialized y.cls ∈ wsG) (hl : Cond.methodLink own index y ∈ wsG) (hd : y.cls ≠ "java/lang/invoke/MethodHandle" ∧ y.cls ≠ "java/lang/invoke/VarHandle" ∧ (parseMethodDescriptor y.desc).map (fun d => d.parameters.length) = some na) (hR : fr + 1 ≤ R.frames ∧ 8 + (maxL + 11) + lo ≤ R.locals) :
    CallB R s args own index y bytes maxL ret (Cond.code y bytes maxL ret :: wsG) ({ frames := fr, cells := 0, slots := 0, locals := lo }) 0 0 na := callB_of na hg (gdG hcd) rfl rfl rfl (hg _ hini) (hg _ hl) hd hR
/-- a virtual call, an int comes back -/
theorem wb_Vi {post : Int32 → wS → Prop} (hx : p.tables.exec = Jvm.exec) (hb : c.code = cc) (hml : c.maxLocals = nL) (hg : ∀ w ∈ wsG, w.before args s = true) (hown : s.vm.findClass own = some m.cls) (w : WB D tys n cy ad sk A s S H locs) (hE2 : EOk E2) (hE : E2 A s) (hty : va_K D vwCl tys2 s) (sub : Sub n cy ad sk S n2 ad2 sk2 S2 f up) (i : Nat) (hi : i < n) {ci : Nat} {fs : List (Option Nat)} (he : sk i = .inl (ci, fs)) {q : vw_C} (hc : vwCl[ci]? = some q) (hM : CtI l y (Cond.code y bytes maxL ret :: wsG) fr lo (.ref (ad i) :: As) D tys2 n2 cy ad2 sk2 E2 S2 post) (hcd : Cond.code y bytes maxL ret ∈ wsG) (hini : Cond.initialized y.cls ∈ wsG) (hl : Cond.methodLink own index y ∈ wsG) (him : Cond.instanceMethod y ∈ wsG) (hsel : Cond.selects q.1 y y ∈ wsG) (hd : y.cls ≠ "java/lang/invoke/MethodHandle" ∧ y.cls ≠ "java/lang/invoke/VarHandle" ∧ (parseMethodDescriptor y.desc).map (fun d => d.parameters.length) = some na) (hR : fr + 1 ≤ R.frames ∧ 8 + (maxL + 11) + lo ≤ R.locals) (hn : As.length = na) (hsz : ls.size = nL) (hst : st0 = As.reverse ++ .ref (ad i) :: rest) (hcat : (rest.map fun v => v.category).sum ≤ 8) (hdg : decode cc pc = .ok (.invokevirtual index, 3)) (hf : cells ≤ R.cells ∧ slots ≤ R.slots)
    (kk : ∀ (r : Int32) (S' : wS) (H1 : Heap) (locs1 : List Loc), post r S' → WB D tys n cy ad sk A s (up S') H1 locs1 → W p l e R s m args below meth c H1 locs1 cells slots Q (F0 m (pc + 3) ls (.int r :: rest))) : W p l e R s m args below meth c H locs cells slots Q (F0 m pc ls st0) := by
  have h3 := (sub.P w).2.2
  refine va_calli (va_runV (As := As) (rest := rest) ⟨hx, hb, hml, hown, hg⟩ (hM H.size) ⟨wCallB hg hcd hini hl hd hR, hg _ him, hg _ hsel⟩ ⟨wPre_blind hE2, va_recv w.1 w.2.1 hc ((wW_get hi).trans (by rw [wC_o he])), fun U hU hW => wPre_of hE2 sub w hE hty hU hW _⟩ rfl hn hsz hst (lv_room hcat) hdg hf) w.2.2.2.1 (fun q _ h => h3 q h) h3 (fun r u t H1 locs1 ht hvm hw hB hz1 hk1 hS => ?_)
  exact kk r u H1 locs1 hw (sub.back w (by rw [← ht]; exact hB.1) hk1 hS)
theorem wb_Vl {post : Int64 → wS → Prop} (hx : p.tables.exec = Jvm.exec) (hb : c.code = cc) (hml : c.maxLocals = nL) (hg : ∀ w ∈ wsG, w.before args s = true) (hown : s.vm.findClass own = some m.cls) (w : WB D tys n cy ad sk A s S H locs) (hE2 : EOk E2) (hE : E2 A s) (hty : va_K D vwCl tys2 s) (sub : Sub n cy ad sk S n2 ad2 sk2 S2 f up) (i : Nat) (hi : i < n) {ci : Nat} {fs : List (Option Nat)} (he : sk i = .inl (ci, fs)) {q : vw_C} (hc : vwCl[ci]? = some q) (hM : CtL l y (Cond.code y bytes maxL ret :: wsG) fr lo (.ref (ad i) :: As) D tys2 n2 cy ad2 sk2 E2 S2 post) (hcd : Cond.code y bytes maxL ret ∈ wsG) (hini : Cond.initialized y.cls ∈ wsG) (hl : Cond.methodLink own index y ∈ wsG) (him : Cond.instanceMethod y ∈ wsG) (hsel : Cond.selects q.1 y y ∈ wsG) (hd : y.cls ≠ "java/lang/invoke/MethodHandle" ∧ y.cls ≠ "java/lang/invoke/VarHandle" ∧ (parseMethodDescriptor y.desc).map (fun d => d.parameters.length) = some na) (hR : fr + 1 ≤ R.frames ∧ 8 + (maxL + 11) + lo ≤ R.locals) (hn : As.length = na) (hsz : ls.size = nL) (hst : st0 = As.reverse ++ .ref (ad i) :: rest) (hcat : (rest.map fun v => v.category).sum ≤ 8) (hdg : decode cc pc = .ok (.invokevirtual index, 3)) (hf : cells ≤ R.cells ∧ slots ≤ R.slots)
    (kk : ∀ (r : Int64) (S' : wS) (H1 : Heap) (locs1 : List Loc), post r S' → WB D tys n cy ad sk A s (up S') H1 locs1 → W p l e R s m args below meth c H1 locs1 cells slots Q (F0 m (pc + 3) ls (.long r :: rest))) : W p l e R s m args below meth c H locs cells slots Q (F0 m pc ls st0) := by
  have h3 := (sub.P w).2.2
  refine va_calll (va_runV (As := As) (rest := rest) ⟨hx, hb, hml, hown, hg⟩ (hM H.size) ⟨wCallB hg hcd hini hl hd hR, hg _ him, hg _ hsel⟩ ⟨wPre_blind hE2, va_recv w.1 w.2.1 hc ((wW_get hi).trans (by rw [wC_o he])), fun U hU hW => wPre_of hE2 sub w hE hty hU hW _⟩ rfl hn hsz hst (lv_room hcat) hdg hf) w.2.2.2.1 (fun q _ h => h3 q h) h3 (fun r u t H1 locs1 ht hvm hw hB hz1 hk1 hS => ?_)
  exact kk r u H1 locs1 hw (sub.back w (by rw [← ht]; exact hB.1) hk1 hS)
theorem wb_Vv {post : wS → Prop} (hx : p.tables.exec = Jvm.exec) (hb : c.code = cc) (hml : c.maxLocals = nL) (hg : ∀ w ∈ wsG, w.before args s = true) (hown : s.vm.findClass own = some m.cls) (w : WB D tys n cy ad sk A s S H locs) (hE2 : EOk E2) (hE : E2 A s) (hty : va_K D vwCl tys2 s) (sub : Sub n cy ad sk S n2 ad2 sk2 S2 f up) (i : Nat) (hi : i < n) {ci : Nat} {fs : List (Option Nat)} (he : sk i = .inl (ci, fs)) {q : vw_C} (hc : vwCl[ci]? = some q) (hM : CtV l y (Cond.code y bytes maxL ret :: wsG) fr lo (.ref (ad i) :: As) D tys2 n2 cy ad2 sk2 E2 S2 post) (hcd : Cond.code y bytes maxL ret ∈ wsG) (hini : Cond.initialized y.cls ∈ wsG) (hl : Cond.methodLink own index y ∈ wsG) (him : Cond.instanceMethod y ∈ wsG) (hsel : Cond.selects q.1 y y ∈ wsG) (hd : y.cls ≠ "java/lang/invoke/MethodHandle" ∧ y.cls ≠ "java/lang/invoke/VarHandle" ∧ (parseMethodDescriptor y.desc).map (fun d => d.parameters.length) = some na) (hR : fr + 1 ≤ R.frames ∧ 8 + (maxL + 11) + lo ≤ R.locals) (hn : As.length = na) (hsz : ls.size = nL) (hst : st0 = As.reverse ++ .ref (ad i) :: rest) (hcat : (rest.map fun v => v.category).sum ≤ 8) (hdg : decode cc pc = .ok (.invokevirtual index, 3)) (hf : cells ≤ R.cells ∧ slots ≤ R.slots)
    (kk : ∀ (S' : wS) (H1 : Heap) (locs1 : List Loc), post S' → WB D tys n cy ad sk A s (up S') H1 locs1 → W p l e R s m args below meth c H1 locs1 cells slots Q (F0 m (pc + 3) ls rest)) : W p l e R s m args below meth c H locs cells slots Q (F0 m pc ls st0) := by
  have h3 := (sub.P w).2.2
  refine va_callv (va_runV (As := As) (rest := rest) ⟨hx, hb, hml, hown, hg⟩ (hM H.size) ⟨wCallB hg hcd hini hl hd hR, hg _ him, hg _ hsel⟩ ⟨wPre_blind hE2, va_recv w.1 w.2.1 hc ((wW_get hi).trans (by rw [wC_o he])), fun U hU hW => wPre_of hE2 sub w hE hty hU hW _⟩ rfl hn hsz hst (lv_room hcat) hdg hf) w.2.2.2.1 (fun q _ h => h3 q h) h3 (fun u t H1 locs1 ht hvm hw hB hz1 hk1 hS => ?_)
  exact kk u H1 locs1 hw (sub.back w (by rw [← ht]; exact hB.1) hk1 hS)
/-- a static call -/
theorem wb_Si {post : Int32 → wS → Prop} (hx : p.tables.exec = Jvm.exec) (hb : c.code = cc) (hml : c.maxLocals = nL) (hg : ∀ w ∈ wsG, w.before args s = true) (hown : s.vm.findClass own = some m.cls) (w : WB D tys n cy ad sk A s S H locs) (hE2 : EOk E2) (hE : E2 A s) (hty : va_K D vwCl tys2 s) (sub : Sub n cy ad sk S n2 ad2 sk2 S2 f up) (hM : CtI l y (Cond.code y bytes maxL ret :: wsG) fr lo As D tys2 n2 cy ad2 sk2 E2 S2 post) (hcd : Cond.code y bytes maxL ret ∈ wsG) (hini : Cond.initialized y.cls ∈ wsG) (hl : Cond.methodLink own index y ∈ wsG) (hsta : Cond.static y ∈ wsG) (hd : y.cls ≠ "java/lang/invoke/MethodHandle" ∧ y.cls ≠ "java/lang/invoke/VarHandle" ∧ (parseMethodDescriptor y.desc).map (fun d => d.parameters.length) = some na) (hR : fr + 1 ≤ R.frames ∧ 8 + (maxL + 11) + lo ≤ R.locals) (hn : As.length = na) (hsz : ls.size = nL) (hst : st0 = As.reverse ++ rest) (hcat : (rest.map fun v => v.category).sum ≤ 8) (hdg : decode cc pc = .ok (.invokestatic index, 3)) (hf : cells ≤ R.cells ∧ slots ≤ R.slots)
    (kk : ∀ (r : Int32) (S' : wS) (H1 : Heap) (locs1 : List Loc), post r S' → WB D tys n cy ad sk A s (up S') H1 locs1 → W p l e R s m args below meth c H1 locs1 cells slots Q (F0 m (pc + 3) ls (.int r :: rest))) : W p l e R s m args below meth c H locs cells slots Q (F0 m pc ls st0) := by
  have h3 := (sub.P w).2.2
  refine va_calli (va_runS (As := As) (rest := rest) ⟨hx, hb, hml, hown, hg⟩ (hM H.size) ⟨wCallB hg hcd hini hl hd hR, hg _ hsta⟩ ⟨wPre_blind hE2, fun U hU hW => wPre_of hE2 sub w hE hty hU hW _⟩ rfl hn hsz hst (lv_room hcat) hdg hf) w.2.2.2.1 (fun q _ h => h3 q h) h3 (fun r u t H1 locs1 ht hvm hw hB hz1 hk1 hS => ?_)
  exact kk r u H1 locs1 hw (sub.back w (by rw [← ht]; exact hB.1) hk1 hS)
theorem wb_Sv {post : wS → Prop} (hx : p.tables.exec = Jvm.exec) (hb : c.code = cc) (hml : c.maxLocals = nL) (hg : ∀ w ∈ wsG, w.before args s = true) (hown : s.vm.findClass own = some m.cls) (w : WB D tys n cy ad sk A s S H locs) (hE2 : EOk E2) (hE : E2 A s) (hty : va_K D vwCl tys2 s) (sub : Sub n cy ad sk S n2 ad2 sk2 S2 f up) (hM : CtV l y (Cond.code y bytes maxL ret :: wsG) fr lo As D tys2 n2 cy ad2 sk2 E2 S2 post) (hcd : Cond.code y bytes maxL ret ∈ wsG) (hini : Cond.initialized y.cls ∈ wsG) (hl : Cond.methodLink own index y ∈ wsG) (hsta : Cond.static y ∈ wsG) (hd : y.cls ≠ "java/lang/invoke/MethodHandle" ∧ y.cls ≠ "java/lang/invoke/VarHandle" ∧ (parseMethodDescriptor y.desc).map (fun d => d.parameters.length) = some na) (hR : fr + 1 ≤ R.frames ∧ 8 + (maxL + 11) + lo ≤ R.locals) (hn : As.length = na) (hsz : ls.size = nL) (hst : st0 = As.reverse ++ rest) (hcat : (rest.map fun v => v.category).sum ≤ 8) (hdg : decode cc pc = .ok (.invokestatic index, 3)) (hf : cells ≤ R.cells ∧ slots ≤ R.slots)
    (kk : ∀ (S' : wS) (H1 : Heap) (locs1 : List Loc), post S' → WB D tys n cy ad sk A s (up S') H1 locs1 → W p l e R s m args below meth c H1 locs1 cells slots Q (F0 m (pc + 3) ls rest)) : W p l e R s m args below meth c H locs cells slots Q (F0 m pc ls st0) := by
  have h3 := (sub.P w).2.2
  refine va_callv (va_runS (As := As) (rest := rest) ⟨hx, hb, hml, hown, hg⟩ (hM H.size) ⟨wCallB hg hcd hini hl hd hR, hg _ hsta⟩ ⟨wPre_blind hE2, fun U hU hW => wPre_of hE2 sub w hE hty hU hW _⟩ rfl hn hsz hst (lv_room hcat) hdg hf) w.2.2.2.1 (fun q _ h => h3 q h) h3 (fun u t H1 locs1 ht hvm hw hB hz1 hk1 hS => ?_)
  exact kk u H1 locs1 hw (sub.back w (by rw [← ht]; exact hB.1) hk1 hS)
end CR
end
section
/-! A contract out of a walk: the end is a hypothesis of the walk -/
section ST
variable {l : Launch} {y : MethodName} {cc : ByteArray} {maxL fr lo : Nat} {av : List Value} {D : va_G} {tys : List (ClassId × FieldType)} {n : Nat} {cy : Nat → ClassId} {ad : Nat → Nat} {sk : Nat → wK} {E : (Nat → Prop) → State → Prop} {S : wS}
theorem CtI_of {post : Int32 → wS → Prop} {rt : FieldType} (hy : plainName y.cls = true) (hlen : (lg_sl av).length ≤ maxL)
    (body : ∀ (p : Program) (e : Env) (s : State) (m : MethodId) (args : Array Value) (below : List Frame) (meth : Method) (c : Code) (A : Nat → Prop) (ls : Array Slot) (R : Room) (Q : State → Prop), Bd p s m args meth c y.cls cc maxL (some rt) av D tys n cy ad sk E S A ls → R.frames = fr → R.locals = lo →
      (∀ (v : Int32) (S' : wS) (H : Heap) (locs : List Loc) (pc : Nat) (ls : Array Slot), post v S' → narrow rt (.int v) = .int v → WB D tys n cy ad sk A s S' H locs → decode cc pc = .ok (.ireturn, 1) → W p l e R s m args below meth c H locs 0 0 Q (F0 m pc ls [.int v])) →
      W p l e R s m args below meth c s.heap [] 0 0 Q (F0 m 0 ls [])) :
    CtI l y (Cond.code y cc maxL (some rt) :: wsG) fr lo av D tys n cy ad sk E S post :=
  Ct_body (Qc := fun sz => va_Qi post (wPost D tys n cy ad sk S sz) (va_A (wW n cy ad sk S) sz)) hy hlen (fun p e s m args below meth c A ls hA B => body p e s m args below meth c A ls _ _ B rfl rfl (fun v S' H locs pc ls hp hn w hdg => wb_iret B.1 B.2.1 B.2.2.1 hn B.2.2.2.2.2.2.1 hA w hp hdg))
theorem CtL_of {post : Int64 → wS → Prop} (hy : plainName y.cls = true) (hlen : (lg_sl av).length ≤ maxL)
    (body : ∀ (p : Program) (e : Env) (s : State) (m : MethodId) (args : Array Value) (below : List Frame) (meth : Method) (c : Code) (A : Nat → Prop) (ls : Array Slot) (R : Room) (Q : State → Prop), Bd p s m args meth c y.cls cc maxL (some .long) av D tys n cy ad sk E S A ls → R.frames = fr → R.locals = lo →
      (∀ (v : Int64) (S' : wS) (H : Heap) (locs : List Loc) (pc : Nat) (ls : Array Slot), post v S' → WB D tys n cy ad sk A s S' H locs → decode cc pc = .ok (.lreturn, 1) → W p l e R s m args below meth c H locs 0 0 Q (F0 m pc ls [.long v])) →
      W p l e R s m args below meth c s.heap [] 0 0 Q (F0 m 0 ls [])) :
    CtL l y (Cond.code y cc maxL (some .long) :: wsG) fr lo av D tys n cy ad sk E S post :=
  Ct_body (Qc := fun sz => va_Ql post (wPost D tys n cy ad sk S sz) (va_A (wW n cy ad sk S) sz)) hy hlen (fun p e s m args below meth c A ls hA B => body p e s m args below meth c A ls _ _ B rfl rfl (fun v S' H locs pc ls hp w hdg => wb_lret B.1 B.2.1 B.2.2.1 B.2.2.2.2.2.2.1 hA w hp hdg))
theorem CtV_of {post : wS → Prop} (hy : plainName y.cls = true) (hlen : (lg_sl av).length ≤ maxL)
    (body : ∀ (p : Program) (e : Env) (s : State) (m : MethodId) (args : Array Value) (below : List Frame) (meth : Method) (c : Code) (A : Nat → Prop) (ls : Array Slot) (R : Room) (Q : State → Prop), Bd p s m args meth c y.cls cc maxL none av D tys n cy ad sk E S A ls → R.frames = fr → R.locals = lo →
      (∀ (S' : wS) (H : Heap) (locs : List Loc) (pc : Nat) (ls : Array Slot), post S' → WB D tys n cy ad sk A s S' H locs → decode cc pc = .ok (.return_, 1) → W p l e R s m args below meth c H locs 0 0 Q (F0 m pc ls [])) →
      W p l e R s m args below meth c s.heap [] 0 0 Q (F0 m 0 ls [])) :
    CtV l y (Cond.code y cc maxL none :: wsG) fr lo av D tys n cy ad sk E S post :=
  Ct_body (Qc := fun sz => va_Qv post (wPost D tys n cy ad sk S sz) (va_A (wW n cy ad sk S) sz)) hy hlen (fun p e s m args below meth c A ls hA B => body p e s m args below meth c A ls _ _ B rfl rfl (fun S' H locs pc ls hp w hdg => wb_vret B.1 B.2.1 B.2.2.1 B.2.2.2.2.2.2.1 hA w hp hdg))
end ST
section NR
variable {p : Program} {l : Launch} {e : Env} {R : Room} {s : State} {m : MethodId} {args : Array Value} {below : List Frame} {meth : Method} {c : Code} {H : Heap} {locs : List Loc} {cells slots : Nat} {Q : State → Prop}
variable {cc : ByteArray} {pc : Nat} {ls : Array Slot} {rest : List Value}
theorem WB_cast {D : va_G} {tys : List (ClassId × FieldType)} {n : Nat} {cy : Nat → ClassId} {ad : Nat → Nat} {sk : Nat → wK} {A : Nat → Prop} {S S' : wS} (w : WB D tys n cy ad sk A s S H locs) (h : S = S') : WB D tys n cy ad sk A s S' H locs := h ▸ w
theorem ni_inc (a b : Nat) : nI a + Int32.ofInt (b : Int) = nI (a + b) := by
  rw [← nI_add]
  congr 1
theorem ni_dec (a b : Nat) (h : b ≤ a) : nI a + Int32.ofInt (-(b : Int)) = nI (a - b) := by
  have h1 : a = (a - b) + b := by omega
  have h2 : nI a = nI (a - b) + nI b := by rw [nI_add]; exact congrArg nI h1
  rw [h2, Int32.add_assoc]
  have h3 : nI b + Int32.ofInt (-(b : Int)) = 0 := by
    apply Int32.toBitVec_inj.mp
    simp [nI, Int32.toBitVec_add, Int32.toBitVec_ofInt]
    exact BitVec.add_right_neg _
  rw [h3, Int32.add_zero]
theorem n_iadd {a b : Nat} (hx : p.tables.exec = Jvm.exec) (hb : c.code = cc) (hdg : decode cc pc = .ok (.iadd, 1)) (k : W p l e R s m args below meth c H locs cells slots Q (F0 m (pc + 1) ls (.int (nI (a + b)) :: rest))) : W p l e R s m args below meth c H locs cells slots Q (F0 m pc ls (.int (nI b) :: .int (nI a) :: rest)) :=
  lv_iadd hx hb hdg (by rw [nI_add]; exact k)
theorem n_isub {a b : Nat} (h : b ≤ a) (hx : p.tables.exec = Jvm.exec) (hb : c.code = cc) (hdg : decode cc pc = .ok (.isub, 1)) (k : W p l e R s m args below meth c H locs cells slots Q (F0 m (pc + 1) ls (.int (nI (a - b)) :: rest))) : W p l e R s m args below meth c H locs cells slots Q (F0 m pc ls (.int (nI b) :: .int (nI a) :: rest)) :=
  lv_isub hx hb hdg (by rw [pk_sub h]; exact k)
theorem n_imul {a b : Nat} (hx : p.tables.exec = Jvm.exec) (hb : c.code = cc) (hdg : decode cc pc = .ok (.imul, 1)) (k : W p l e R s m args below meth c H locs cells slots Q (F0 m (pc + 1) ls (.int (nI (a * b)) :: rest))) : W p l e R s m args below meth c H locs cells slots Q (F0 m pc ls (.int (nI b) :: .int (nI a) :: rest)) :=
  lv_imul hx hb hdg (by rw [pk_mul]; exact k)
theorem n_idiv {a b : Nat} (ha : a < 2 ^ 31) (h0 : 0 < b) (h1 : b < 2 ^ 31) (hx : p.tables.exec = Jvm.exec) (hb : c.code = cc) (hdg : decode cc pc = .ok (.idiv, 1)) (k : W p l e R s m args below meth c H locs cells slots Q (F0 m (pc + 1) ls (.int (nI (a / b)) :: rest))) : W p l e R s m args below meth c H locs cells slots Q (F0 m pc ls (.int (nI b) :: .int (nI a) :: rest)) :=
  lv_idiv hx hb hdg (nI_ne0 h0 h1) (by rw [pk_div ha h0 h1]; exact k)
theorem n_irem {a b : Nat} (ha : a < 2 ^ 31) (h0 : 0 < b) (h1 : b < 2 ^ 31) (hx : p.tables.exec = Jvm.exec) (hb : c.code = cc) (hdg : decode cc pc = .ok (.irem, 1)) (k : W p l e R s m args below meth c H locs cells slots Q (F0 m (pc + 1) ls (.int (nI (a % b)) :: rest))) : W p l e R s m args below meth c H locs cells slots Q (F0 m pc ls (.int (nI b) :: .int (nI a) :: rest)) :=
  lv_irem hx hb hdg (nI_ne0 h0 h1) (by rw [pk_rem ha h0 h1]; exact k)
theorem n_cmp_ge {a b : Nat} (ha : a < 2 ^ 31) (h1 : b < 2 ^ 31) (hx : p.tables.exec = Jvm.exec) (hb : c.code = cc) {off : Int} {tgt : Nat} (hdg : decode cc pc = .ok (.if_icmp .ge off, 3)) (ht : (pc : Int) + off = (tgt : Int)) (kt : b ≤ a → W p l e R s m args below meth c H locs cells slots Q (F0 m tgt ls rest)) (kf : a < b → W p l e R s m args below meth c H locs cells slots Q (F0 m (pc + 3) ls rest)) : W p l e R s m args below meth c H locs cells slots Q (F0 m pc ls (.int (nI b) :: .int (nI a) :: rest)) :=
  lv_icmp_ge hx hb hdg ht (fun h => kt ((nI_leI h1 ha).mp h)) (fun h => kf (Nat.not_le.mp fun h2 => h ((nI_leI h1 ha).mpr h2)))
theorem n_cmp_gt {a b : Nat} (ha : a < 2 ^ 31) (h1 : b < 2 ^ 31) (hx : p.tables.exec = Jvm.exec) (hb : c.code = cc) {off : Int} {tgt : Nat} (hdg : decode cc pc = .ok (.if_icmp .gt off, 3)) (ht : (pc : Int) + off = (tgt : Int)) (kt : b < a → W p l e R s m args below meth c H locs cells slots Q (F0 m tgt ls rest)) (kf : a ≤ b → W p l e R s m args below meth c H locs cells slots Q (F0 m (pc + 3) ls rest)) : W p l e R s m args below meth c H locs cells slots Q (F0 m pc ls (.int (nI b) :: .int (nI a) :: rest)) :=
  lv_icmp_gt hx hb hdg ht (fun h => kt ((nI_ltI h1 ha).mp h)) (fun h => kf (Nat.not_lt.mp fun h2 => h ((nI_ltI h1 ha).mpr h2)))
theorem n_cmp_le {a b : Nat} (ha : a < 2 ^ 31) (h1 : b < 2 ^ 31) (hx : p.tables.exec = Jvm.exec) (hb : c.code = cc) {off : Int} {tgt : Nat} (hdg : decode cc pc = .ok (.if_icmp .le off, 3)) (ht : (pc : Int) + off = (tgt : Int)) (kt : a ≤ b → W p l e R s m args below meth c H locs cells slots Q (F0 m tgt ls rest)) (kf : b < a → W p l e R s m args below meth c H locs cells slots Q (F0 m (pc + 3) ls rest)) : W p l e R s m args below meth c H locs cells slots Q (F0 m pc ls (.int (nI b) :: .int (nI a) :: rest)) :=
  lv_icmp_le hx hb hdg ht (fun h => kt ((nI_leI ha h1).mp h)) (fun h => kf (Nat.not_le.mp fun h2 => h ((nI_leI ha h1).mpr h2)))
theorem n_cmp_lt {a b : Nat} (ha : a < 2 ^ 31) (h1 : b < 2 ^ 31) (hx : p.tables.exec = Jvm.exec) (hb : c.code = cc) {off : Int} {tgt : Nat} (hdg : decode cc pc = .ok (.if_icmp .lt off, 3)) (ht : (pc : Int) + off = (tgt : Int)) (kt : a < b → W p l e R s m args below meth c H locs cells slots Q (F0 m tgt ls rest)) (kf : b ≤ a → W p l e R s m args below meth c H locs cells slots Q (F0 m (pc + 3) ls rest)) : W p l e R s m args below meth c H locs cells slots Q (F0 m pc ls (.int (nI b) :: .int (nI a) :: rest)) :=
  lv_icmp_lt hx hb hdg ht (fun h => kt ((nI_ltI ha h1).mp h)) (fun h => kf (Nat.not_lt.mp fun h2 => h ((nI_ltI ha h1).mpr h2)))
theorem n_cmp_eq {a b : Nat} (ha : a < 2 ^ 31) (h1 : b < 2 ^ 31) (hx : p.tables.exec = Jvm.exec) (hb : c.code = cc) {off : Int} {tgt : Nat} (hdg : decode cc pc = .ok (.if_icmp .eq off, 3)) (ht : (pc : Int) + off = (tgt : Int)) (kt : a = b → W p l e R s m args below meth c H locs cells slots Q (F0 m tgt ls rest)) (kf : ¬ a = b → W p l e R s m args below meth c H locs cells slots Q (F0 m (pc + 3) ls rest)) : W p l e R s m args below meth c H locs cells slots Q (F0 m pc ls (.int (nI b) :: .int (nI a) :: rest)) :=
  lv_icmp_eq hx hb hdg ht (fun h => kt ((nI_eq ha h1).mp h)) (fun h => kf fun h2 => h ((nI_eq ha h1).mpr h2))
theorem n_cmp_ne {a b : Nat} (ha : a < 2 ^ 31) (h1 : b < 2 ^ 31) (hx : p.tables.exec = Jvm.exec) (hb : c.code = cc) {off : Int} {tgt : Nat} (hdg : decode cc pc = .ok (.if_icmp .ne off, 3)) (ht : (pc : Int) + off = (tgt : Int)) (kt : ¬ a = b → W p l e R s m args below meth c H locs cells slots Q (F0 m tgt ls rest)) (kf : a = b → W p l e R s m args below meth c H locs cells slots Q (F0 m (pc + 3) ls rest)) : W p l e R s m args below meth c H locs cells slots Q (F0 m pc ls (.int (nI b) :: .int (nI a) :: rest)) :=
  lv_icmp_ne hx hb hdg ht (fun h => kt fun h2 => h ((nI_eq ha h1).mpr h2)) (fun h => kf ((nI_eq ha h1).mp h))
end NR
end
section
theorem wk_0 : (Jvm.Cond.initialized "DigestTreesLaw") ∈ wsG := in_tables1 (List.mem_of_getElem? (i := 0) rfl) rfl
theorem wk_1 : (Jvm.Cond.initialized "DigestTrees") ∈ wsG := in_tables1 (List.mem_of_getElem? (i := 1) rfl) rfl
theorem wk_2 : (Jvm.Cond.initialized "DigestTrees$Bytes") ∈ wsG := in_tables1 (List.mem_of_getElem? (i := 2) rfl) rfl
theorem wk_3 : (Jvm.Cond.initialized "DigestTrees$Mill") ∈ wsG := in_tables1 (List.mem_of_getElem? (i := 3) rfl) rfl
theorem wk_4 : (Jvm.Cond.initialized "DigestTrees$Message") ∈ wsG := in_tables1 (List.mem_of_getElem? (i := 4) rfl) rfl
theorem wk_5 : (Jvm.Cond.initialized "DigestTrees$Shelf") ∈ wsG := in_tables1 (List.mem_of_getElem? (i := 5) rfl) rfl
theorem wk_6 : (Jvm.Cond.initialized "DigestTrees$Proof") ∈ wsG := in_tables1 (List.mem_of_getElem? (i := 6) rfl) rfl
theorem wk_7 : (Jvm.Cond.initialized "DigestTrees$Store") ∈ wsG := in_tables1 (List.mem_of_getElem? (i := 7) rfl) rfl
theorem wk_8 : (Jvm.Cond.initialized "DigestTrees$Tree") ∈ wsG := in_tables1 (List.mem_of_getElem? (i := 8) rfl) rfl
theorem wk_9 : (Jvm.Cond.initialized "DigestTreesModel") ∈ wsG := in_tables1 (List.mem_of_getElem? (i := 9) rfl) rfl
theorem wk_10 : (Jvm.Cond.initialized "java/lang/System") ∈ wsG := in_tables1 (List.mem_of_getElem? (i := 10) rfl) rfl
theorem wk_11 : (Jvm.Cond.initialized "java/util/Arrays") ∈ wsG := in_tables1 (List.mem_of_getElem? (i := 11) rfl) rfl
theorem wk_12 : (Jvm.Cond.initialized "java/lang/Integer") ∈ wsG := in_tables1 (List.mem_of_getElem? (i := 12) rfl) rfl
theorem wk_13 : (Jvm.Cond.initialized "java/lang/Throwable") ∈ wsG := in_tables1 (List.mem_of_getElem? (i := 13) rfl) rfl
theorem wk_14 : (Jvm.Cond.initialized "java/lang/Exception") ∈ wsG := in_tables1 (List.mem_of_getElem? (i := 14) rfl) rfl
theorem wk_15 : (Jvm.Cond.initialized "java/lang/RuntimeException") ∈ wsG := in_tables1 (List.mem_of_getElem? (i := 15) rfl) rfl
theorem wk_16 : (Jvm.Cond.initialized "java/lang/IndexOutOfBoundsException") ∈ wsG := in_tables1 (List.mem_of_getElem? (i := 16) rfl) rfl
theorem wk_17 : (Jvm.Cond.initialized "java/lang/ArrayIndexOutOfBoundsException") ∈ wsG := in_tables1 (List.mem_of_getElem? (i := 17) rfl) rfl
theorem wk_18 : (Jvm.Cond.initialized "java/lang/String") ∈ wsG := in_tables1 (List.mem_of_getElem? (i := 18) rfl) rfl
theorem wk_19 : (Jvm.Cond.initialized "java/lang/NullPointerException") ∈ wsG := in_tables1 (List.mem_of_getElem? (i := 19) rfl) rfl
theorem wk_20 : (Jvm.Cond.classLink "DigestTreesLaw" (8 : Nat) "DigestTrees") ∈ wsG := in_tables1 (List.mem_of_getElem? (i := 20) rfl) rfl
theorem wk_21 : (Jvm.Cond.instantiable "DigestTrees" (10 : Nat)) ∈ wsG := in_tables1 (List.mem_of_getElem? (i := 21) rfl) rfl
theorem wk_22 : (Jvm.Cond.methodLink "DigestTreesLaw" (29 : Nat) ({ cls := "DigestTrees", name := "<init>", desc := "()V" } : Jvm.MethodName)) ∈ wsG := in_tables1 (List.mem_of_getElem? (i := 22) rfl) rfl
theorem wk_23 : (Jvm.Cond.instanceMethod ({ cls := "DigestTrees", name := "<init>", desc := "()V" } : Jvm.MethodName)) ∈ wsG := in_tables1 (List.mem_of_getElem? (i := 23) rfl) rfl
theorem wk_24 : (Jvm.Cond.code ({ cls := "DigestTrees", name := "<init>", desc := "()V" } : Jvm.MethodName) prog_1_method_1_code (2 : Nat) (Option.none : Option Jvm.ClassFile.FieldType)) ∈ wsG := in_tables1 (List.mem_of_getElem? (i := 24) rfl) rfl
theorem wk_25 : (Jvm.Cond.methodLink "DigestTrees" (1 : Nat) ({ cls := "java/lang/Object", name := "<init>", desc := "()V" } : Jvm.MethodName)) ∈ wsG := in_tables1 (List.mem_of_getElem? (i := 25) rfl) rfl
theorem wk_26 : (Jvm.Cond.instanceMethod ({ cls := "java/lang/Object", name := "<init>", desc := "()V" } : Jvm.MethodName)) ∈ wsG := in_tables1 (List.mem_of_getElem? (i := 26) rfl) rfl
theorem wk_27 : (Jvm.Cond.code ({ cls := "java/lang/Object", name := "<init>", desc := "()V" } : Jvm.MethodName) object_method_1_code (1 : Nat) (Option.none : Option Jvm.ClassFile.FieldType)) ∈ wsG := in_tables1 (List.mem_of_getElem? (i := 27) rfl) rfl
theorem wk_28 : (Jvm.Cond.classLink "DigestTrees" (7 : Nat) "DigestTrees$Bytes") ∈ wsG := in_tables1 (List.mem_of_getElem? (i := 28) rfl) rfl
theorem wk_29 : (Jvm.Cond.instantiable "DigestTrees$Bytes" (2 : Nat)) ∈ wsG := in_tables1 (List.mem_of_getElem? (i := 29) rfl) rfl
theorem wk_31 : (Jvm.Cond.instanceMethod ({ cls := "DigestTrees$Bytes", name := "<init>", desc := "()V" } : Jvm.MethodName)) ∈ wsG := in_tables1 (List.mem_of_getElem? (i := 31) rfl) rfl
theorem wk_32 : (Jvm.Cond.code ({ cls := "DigestTrees$Bytes", name := "<init>", desc := "()V" } : Jvm.MethodName) prog_2_method_1_code (1 : Nat) (Option.none : Option Jvm.ClassFile.FieldType)) ∈ wsG := in_tables1 (List.mem_of_getElem? (i := 32) rfl) rfl
theorem wk_33 : (Jvm.Cond.methodLink "DigestTrees$Bytes" (3 : Nat) ({ cls := "java/lang/Object", name := "<init>", desc := "()V" } : Jvm.MethodName)) ∈ wsG := in_tables1 (List.mem_of_getElem? (i := 33) rfl) rfl
theorem wk_34 : (Jvm.Cond.fieldLink "DigestTrees$Bytes" (9 : Nat) "DigestTrees$Bytes" "room" "[B") ∈ wsG := in_tables1 (List.mem_of_getElem? (i := 34) rfl) rfl
theorem wk_35 : (Jvm.Cond.fieldLink "DigestTrees" (75 : Nat) "DigestTrees$Bytes" "room" "[B") ∈ wsG := in_tables1 (List.mem_of_getElem? (i := 35) rfl) rfl
theorem wk_36 : (Jvm.Cond.fieldLink "DigestTrees$Store" (35 : Nat) "DigestTrees$Bytes" "room" "[B") ∈ wsG := in_tables1 (List.mem_of_getElem? (i := 36) rfl) rfl
theorem wk_37 : (Jvm.Cond.fieldLink "DigestTrees$Message" (53 : Nat) "DigestTrees$Bytes" "room" "[B") ∈ wsG := in_tables1 (List.mem_of_getElem? (i := 37) rfl) rfl
theorem wk_38 : (Jvm.Cond.fieldLink "DigestTrees" (71 : Nat) "DigestTrees$Bytes" "size" "I") ∈ wsG := in_tables1 (List.mem_of_getElem? (i := 38) rfl) rfl
theorem wk_39 : (Jvm.Cond.fieldLink "DigestTrees$Store" (30 : Nat) "DigestTrees$Bytes" "size" "I") ∈ wsG := in_tables1 (List.mem_of_getElem? (i := 39) rfl) rfl
theorem wk_40 : (Jvm.Cond.fieldLink "DigestTrees$Message" (58 : Nat) "DigestTrees$Bytes" "size" "I") ∈ wsG := in_tables1 (List.mem_of_getElem? (i := 40) rfl) rfl
theorem wk_41 : (Jvm.Cond.laysFinal "DigestTrees$Bytes" "DigestTrees$Bytes" "room" "[B") ∈ wsG := in_tables1 (List.mem_of_getElem? (i := 41) rfl) rfl
theorem wk_43 : (Jvm.Cond.lays "DigestTrees$Bytes" "DigestTrees$Bytes" "size" "I") ∈ wsG := in_tables1 (List.mem_of_getElem? (i := 43) rfl) rfl
theorem wk_45 : (Jvm.Cond.superclass "DigestTrees$Bytes" "java/lang/Object") ∈ wsG := in_tables1 (List.mem_of_getElem? (i := 45) rfl) rfl
theorem wk_46 : (Jvm.Cond.arrayClass Jvm.ClassFile.FieldType.byte) ∈ wsG := in_tables1 (List.mem_of_getElem? (i := 46) rfl) rfl
theorem wk_47 : (Jvm.Cond.classLink "DigestTrees" (19 : Nat) "DigestTrees$Mill") ∈ wsG := in_tables1 (List.mem_of_getElem? (i := 47) rfl) rfl
theorem wk_48 : (Jvm.Cond.instantiable "DigestTrees$Mill" (5 : Nat)) ∈ wsG := in_tables1 (List.mem_of_getElem? (i := 48) rfl) rfl
theorem wk_50 : (Jvm.Cond.instanceMethod ({ cls := "DigestTrees$Mill", name := "<init>", desc := "()V" } : Jvm.MethodName)) ∈ wsG := in_tables1 (List.mem_of_getElem? (i := 50) rfl) rfl
theorem wk_51 : (Jvm.Cond.code ({ cls := "DigestTrees$Mill", name := "<init>", desc := "()V" } : Jvm.MethodName) prog_4_method_1_code (1 : Nat) (Option.none : Option Jvm.ClassFile.FieldType)) ∈ wsG := in_tables1 (List.mem_of_getElem? (i := 51) rfl) rfl
theorem wk_52 : (Jvm.Cond.methodLink "DigestTrees$Mill" (3 : Nat) ({ cls := "java/lang/Object", name := "<init>", desc := "()V" } : Jvm.MethodName)) ∈ wsG := in_tables1 (List.mem_of_getElem? (i := 52) rfl) rfl
theorem wk_53 : (Jvm.Cond.fieldLink "DigestTrees$Mill" (9 : Nat) "DigestTrees$Mill" "h" "[I") ∈ wsG := in_tables1 (List.mem_of_getElem? (i := 53) rfl) rfl
theorem wk_54 : (Jvm.Cond.fieldLink "DigestTrees$Mill" (15 : Nat) "DigestTrees$Mill" "w" "[I") ∈ wsG := in_tables1 (List.mem_of_getElem? (i := 54) rfl) rfl
theorem wk_55 : (Jvm.Cond.fieldLink "DigestTrees$Shelf" (45 : Nat) "DigestTrees$Mill" "w" "[I") ∈ wsG := in_tables1 (List.mem_of_getElem? (i := 55) rfl) rfl
theorem wk_56 : (Jvm.Cond.fieldLink "DigestTrees$Mill" (24 : Nat) "DigestTrees$Mill" "filled" "I") ∈ wsG := in_tables1 (List.mem_of_getElem? (i := 56) rfl) rfl
theorem wk_57 : (Jvm.Cond.fieldLink "DigestTrees$Mill" (28 : Nat) "DigestTrees$Mill" "came" "I") ∈ wsG := in_tables1 (List.mem_of_getElem? (i := 57) rfl) rfl
theorem wk_58 : (Jvm.Cond.fieldLink "DigestTrees$Mill" (31 : Nat) "DigestTrees$Mill" "blocks" "I") ∈ wsG := in_tables1 (List.mem_of_getElem? (i := 58) rfl) rfl
theorem wk_59 : (Jvm.Cond.fieldLink "DigestTrees$Message" (68 : Nat) "DigestTrees$Mill" "blocks" "I") ∈ wsG := in_tables1 (List.mem_of_getElem? (i := 59) rfl) rfl
theorem wk_60 : (Jvm.Cond.fieldLink "DigestTrees" (190 : Nat) "DigestTrees$Mill" "blocks" "I") ∈ wsG := in_tables1 (List.mem_of_getElem? (i := 60) rfl) rfl
theorem wk_61 : (Jvm.Cond.laysFinal "DigestTrees$Mill" "DigestTrees$Mill" "h" "[I") ∈ wsG := in_tables1 (List.mem_of_getElem? (i := 61) rfl) rfl
theorem wk_63 : (Jvm.Cond.laysFinal "DigestTrees$Mill" "DigestTrees$Mill" "w" "[I") ∈ wsG := in_tables1 (List.mem_of_getElem? (i := 63) rfl) rfl
theorem wk_65 : (Jvm.Cond.lays "DigestTrees$Mill" "DigestTrees$Mill" "filled" "I") ∈ wsG := in_tables1 (List.mem_of_getElem? (i := 65) rfl) rfl
theorem wk_67 : (Jvm.Cond.lays "DigestTrees$Mill" "DigestTrees$Mill" "came" "I") ∈ wsG := in_tables1 (List.mem_of_getElem? (i := 67) rfl) rfl
theorem wk_69 : (Jvm.Cond.lays "DigestTrees$Mill" "DigestTrees$Mill" "blocks" "I") ∈ wsG := in_tables1 (List.mem_of_getElem? (i := 69) rfl) rfl
theorem wk_71 : (Jvm.Cond.superclass "DigestTrees$Mill" "java/lang/Object") ∈ wsG := in_tables1 (List.mem_of_getElem? (i := 71) rfl) rfl
theorem wk_72 : (Jvm.Cond.arrayClass Jvm.ClassFile.FieldType.int) ∈ wsG := in_tables1 (List.mem_of_getElem? (i := 72) rfl) rfl
theorem wk_73 : (Jvm.Cond.classLink "DigestTrees" (26 : Nat) "DigestTrees$Message") ∈ wsG := in_tables1 (List.mem_of_getElem? (i := 73) rfl) rfl
theorem wk_74 : (Jvm.Cond.instantiable "DigestTrees$Message" (7 : Nat)) ∈ wsG := in_tables1 (List.mem_of_getElem? (i := 74) rfl) rfl
theorem wk_75 : (Jvm.Cond.methodLink "DigestTrees" (28 : Nat) ({ cls := "DigestTrees$Message", name := "<init>", desc := "(LDigestTrees$Mill;)V" } : Jvm.MethodName)) ∈ wsG := in_tables1 (List.mem_of_getElem? (i := 75) rfl) rfl
theorem wk_76 : (Jvm.Cond.instanceMethod ({ cls := "DigestTrees$Message", name := "<init>", desc := "(LDigestTrees$Mill;)V" } : Jvm.MethodName)) ∈ wsG := in_tables1 (List.mem_of_getElem? (i := 76) rfl) rfl
theorem wk_77 : (Jvm.Cond.code ({ cls := "DigestTrees$Message", name := "<init>", desc := "(LDigestTrees$Mill;)V" } : Jvm.MethodName) prog_3_method_1_code (2 : Nat) (Option.none : Option Jvm.ClassFile.FieldType)) ∈ wsG := in_tables1 (List.mem_of_getElem? (i := 77) rfl) rfl
theorem wk_78 : (Jvm.Cond.methodLink "DigestTrees$Message" (3 : Nat) ({ cls := "java/lang/Object", name := "<init>", desc := "()V" } : Jvm.MethodName)) ∈ wsG := in_tables1 (List.mem_of_getElem? (i := 78) rfl) rfl
theorem wk_79 : (Jvm.Cond.fieldLink "DigestTrees$Message" (18 : Nat) "DigestTrees$Message" "mill" "LDigestTrees$Mill;") ∈ wsG := in_tables1 (List.mem_of_getElem? (i := 79) rfl) rfl
theorem wk_80 : (Jvm.Cond.fieldLink "DigestTrees$Message" (9 : Nat) "DigestTrees$Message" "lock" "[B") ∈ wsG := in_tables1 (List.mem_of_getElem? (i := 80) rfl) rfl
theorem wk_81 : (Jvm.Cond.fieldLink "DigestTrees$Message" (15 : Nat) "DigestTrees$Message" "inner" "[B") ∈ wsG := in_tables1 (List.mem_of_getElem? (i := 81) rfl) rfl
theorem wk_82 : (Jvm.Cond.fieldLink "DigestTrees" (107 : Nat) "DigestTrees$Message" "isOpen" "Z") ∈ wsG := in_tables1 (List.mem_of_getElem? (i := 82) rfl) rfl
theorem wk_83 : (Jvm.Cond.fieldLink "DigestTrees$Message" (22 : Nat) "DigestTrees$Message" "sort" "I") ∈ wsG := in_tables1 (List.mem_of_getElem? (i := 83) rfl) rfl
theorem wk_84 : (Jvm.Cond.fieldLink "DigestTrees$Message" (26 : Nat) "DigestTrees$Message" "came" "I") ∈ wsG := in_tables1 (List.mem_of_getElem? (i := 84) rfl) rfl
theorem wk_85 : (Jvm.Cond.fieldLink "DigestTrees" (111 : Nat) "DigestTrees$Message" "came" "I") ∈ wsG := in_tables1 (List.mem_of_getElem? (i := 85) rfl) rfl
theorem wk_86 : (Jvm.Cond.fieldLink "DigestTrees$Message" (29 : Nat) "DigestTrees$Message" "blocks" "I") ∈ wsG := in_tables1 (List.mem_of_getElem? (i := 86) rfl) rfl
theorem wk_87 : (Jvm.Cond.laysFinal "DigestTrees$Message" "DigestTrees$Message" "mill" "LDigestTrees$Mill;") ∈ wsG := in_tables1 (List.mem_of_getElem? (i := 87) rfl) rfl
theorem wk_89 : (Jvm.Cond.laysFinal "DigestTrees$Message" "DigestTrees$Message" "lock" "[B") ∈ wsG := in_tables1 (List.mem_of_getElem? (i := 89) rfl) rfl
theorem wk_91 : (Jvm.Cond.laysFinal "DigestTrees$Message" "DigestTrees$Message" "inner" "[B") ∈ wsG := in_tables1 (List.mem_of_getElem? (i := 91) rfl) rfl
theorem wk_93 : (Jvm.Cond.lays "DigestTrees$Message" "DigestTrees$Message" "isOpen" "Z") ∈ wsG := in_tables1 (List.mem_of_getElem? (i := 93) rfl) rfl
theorem wk_95 : (Jvm.Cond.lays "DigestTrees$Message" "DigestTrees$Message" "sort" "I") ∈ wsG := in_tables1 (List.mem_of_getElem? (i := 95) rfl) rfl
theorem wk_97 : (Jvm.Cond.lays "DigestTrees$Message" "DigestTrees$Message" "came" "I") ∈ wsG := in_tables1 (List.mem_of_getElem? (i := 97) rfl) rfl
theorem wk_99 : (Jvm.Cond.lays "DigestTrees$Message" "DigestTrees$Message" "blocks" "I") ∈ wsG := in_tables1 (List.mem_of_getElem? (i := 99) rfl) rfl
theorem wk_101 : (Jvm.Cond.superclass "DigestTrees$Message" "java/lang/Object") ∈ wsG := in_tables1 (List.mem_of_getElem? (i := 101) rfl) rfl
theorem wk_103 : (Jvm.Cond.classLink "DigestTrees" (39 : Nat) "DigestTrees$Shelf") ∈ wsG := in_tables1 (List.mem_of_getElem? (i := 103) rfl) rfl
theorem wk_104 : (Jvm.Cond.instantiable "DigestTrees$Shelf" (6 : Nat)) ∈ wsG := in_tables1 (List.mem_of_getElem? (i := 104) rfl) rfl
theorem wk_106 : (Jvm.Cond.instanceMethod ({ cls := "DigestTrees$Shelf", name := "<init>", desc := "()V" } : Jvm.MethodName)) ∈ wsG := in_tables1 (List.mem_of_getElem? (i := 106) rfl) rfl
theorem wk_107 : (Jvm.Cond.code ({ cls := "DigestTrees$Shelf", name := "<init>", desc := "()V" } : Jvm.MethodName) prog_6_method_1_code (1 : Nat) (Option.none : Option Jvm.ClassFile.FieldType)) ∈ wsG := in_tables1 (List.mem_of_getElem? (i := 107) rfl) rfl
theorem wk_108 : (Jvm.Cond.methodLink "DigestTrees$Shelf" (3 : Nat) ({ cls := "java/lang/Object", name := "<init>", desc := "()V" } : Jvm.MethodName)) ∈ wsG := in_tables1 (List.mem_of_getElem? (i := 108) rfl) rfl
theorem wk_109 : (Jvm.Cond.classLink "DigestTrees$Shelf" (9 : Nat) "[[B") ∈ wsG := in_tables1 (List.mem_of_getElem? (i := 109) rfl) rfl
theorem wk_111 : (Jvm.Cond.classLink "DigestTrees$Shelf" (16 : Nat) "[[I") ∈ wsG := in_tables1 (List.mem_of_getElem? (i := 111) rfl) rfl
theorem wk_113 : (Jvm.Cond.fieldLink "DigestTrees$Shelf" (11 : Nat) "DigestTrees$Shelf" "bytes" "[[B") ∈ wsG := in_tables1 (List.mem_of_getElem? (i := 113) rfl) rfl
theorem wk_114 : (Jvm.Cond.fieldLink "DigestTrees" (142 : Nat) "DigestTrees$Shelf" "bytes" "[[B") ∈ wsG := in_tables1 (List.mem_of_getElem? (i := 114) rfl) rfl
theorem wk_115 : (Jvm.Cond.fieldLink "DigestTrees$Shelf" (18 : Nat) "DigestTrees$Shelf" "lasts" "[[I") ∈ wsG := in_tables1 (List.mem_of_getElem? (i := 115) rfl) rfl
theorem wk_116 : (Jvm.Cond.fieldLink "DigestTrees$Shelf" (21 : Nat) "DigestTrees$Shelf" "sorts" "[I") ∈ wsG := in_tables1 (List.mem_of_getElem? (i := 116) rfl) rfl
theorem wk_117 : (Jvm.Cond.fieldLink "DigestTrees" (117 : Nat) "DigestTrees$Shelf" "sorts" "[I") ∈ wsG := in_tables1 (List.mem_of_getElem? (i := 117) rfl) rfl
theorem wk_118 : (Jvm.Cond.fieldLink "DigestTrees$Shelf" (25 : Nat) "DigestTrees$Shelf" "blocks" "[I") ∈ wsG := in_tables1 (List.mem_of_getElem? (i := 118) rfl) rfl
theorem wk_119 : (Jvm.Cond.fieldLink "DigestTrees" (125 : Nat) "DigestTrees$Shelf" "blocks" "[I") ∈ wsG := in_tables1 (List.mem_of_getElem? (i := 119) rfl) rfl
theorem wk_120 : (Jvm.Cond.fieldLink "DigestTrees$Shelf" (28 : Nat) "DigestTrees$Shelf" "words" "[I") ∈ wsG := in_tables1 (List.mem_of_getElem? (i := 120) rfl) rfl
theorem wk_121 : (Jvm.Cond.fieldLink "DigestTrees$Shelf" (31 : Nat) "DigestTrees$Shelf" "count" "I") ∈ wsG := in_tables1 (List.mem_of_getElem? (i := 121) rfl) rfl
theorem wk_122 : (Jvm.Cond.fieldLink "DigestTrees" (251 : Nat) "DigestTrees$Shelf" "count" "I") ∈ wsG := in_tables1 (List.mem_of_getElem? (i := 122) rfl) rfl
theorem wk_123 : (Jvm.Cond.laysFinal "DigestTrees$Shelf" "DigestTrees$Shelf" "bytes" "[[B") ∈ wsG := in_tables1 (List.mem_of_getElem? (i := 123) rfl) rfl
theorem wk_125 : (Jvm.Cond.laysFinal "DigestTrees$Shelf" "DigestTrees$Shelf" "lasts" "[[I") ∈ wsG := in_tables1 (List.mem_of_getElem? (i := 125) rfl) rfl
theorem wk_127 : (Jvm.Cond.laysFinal "DigestTrees$Shelf" "DigestTrees$Shelf" "sorts" "[I") ∈ wsG := in_tables1 (List.mem_of_getElem? (i := 127) rfl) rfl
theorem wk_129 : (Jvm.Cond.laysFinal "DigestTrees$Shelf" "DigestTrees$Shelf" "blocks" "[I") ∈ wsG := in_tables1 (List.mem_of_getElem? (i := 129) rfl) rfl
theorem wk_131 : (Jvm.Cond.laysFinal "DigestTrees$Shelf" "DigestTrees$Shelf" "words" "[I") ∈ wsG := in_tables1 (List.mem_of_getElem? (i := 131) rfl) rfl
theorem wk_133 : (Jvm.Cond.lays "DigestTrees$Shelf" "DigestTrees$Shelf" "count" "I") ∈ wsG := in_tables1 (List.mem_of_getElem? (i := 133) rfl) rfl
theorem wk_135 : (Jvm.Cond.superclass "DigestTrees$Shelf" "java/lang/Object") ∈ wsG := in_tables1 (List.mem_of_getElem? (i := 135) rfl) rfl
theorem wk_136 : (Jvm.Cond.classLink "DigestTrees" (46 : Nat) "DigestTrees$Tree") ∈ wsG := in_tables1 (List.mem_of_getElem? (i := 136) rfl) rfl
theorem wk_138 : (Jvm.Cond.classLink "DigestTrees" (52 : Nat) "DigestTrees$Proof") ∈ wsG := in_tables1 (List.mem_of_getElem? (i := 138) rfl) rfl
theorem wk_139 : (Jvm.Cond.instantiable "DigestTrees$Proof" (2 : Nat)) ∈ wsG := in_tables1 (List.mem_of_getElem? (i := 139) rfl) rfl
theorem wk_141 : (Jvm.Cond.instanceMethod ({ cls := "DigestTrees$Proof", name := "<init>", desc := "()V" } : Jvm.MethodName)) ∈ wsG := in_tables1 (List.mem_of_getElem? (i := 141) rfl) rfl
theorem wk_142 : (Jvm.Cond.code ({ cls := "DigestTrees$Proof", name := "<init>", desc := "()V" } : Jvm.MethodName) prog_5_method_1_code (1 : Nat) (Option.none : Option Jvm.ClassFile.FieldType)) ∈ wsG := in_tables1 (List.mem_of_getElem? (i := 142) rfl) rfl
theorem wk_143 : (Jvm.Cond.methodLink "DigestTrees$Proof" (3 : Nat) ({ cls := "java/lang/Object", name := "<init>", desc := "()V" } : Jvm.MethodName)) ∈ wsG := in_tables1 (List.mem_of_getElem? (i := 143) rfl) rfl
theorem wk_144 : (Jvm.Cond.classLink "DigestTrees$Proof" (9 : Nat) "[[B") ∈ wsG := in_tables1 (List.mem_of_getElem? (i := 144) rfl) rfl
theorem wk_145 : (Jvm.Cond.fieldLink "DigestTrees$Proof" (11 : Nat) "DigestTrees$Proof" "beside" "[[B") ∈ wsG := in_tables1 (List.mem_of_getElem? (i := 145) rfl) rfl
theorem wk_146 : (Jvm.Cond.fieldLink "DigestTrees" (201 : Nat) "DigestTrees$Proof" "beside" "[[B") ∈ wsG := in_tables1 (List.mem_of_getElem? (i := 146) rfl) rfl
theorem wk_147 : (Jvm.Cond.fieldLink "DigestTrees$Proof" (16 : Nat) "DigestTrees$Proof" "count" "I") ∈ wsG := in_tables1 (List.mem_of_getElem? (i := 147) rfl) rfl
theorem wk_148 : (Jvm.Cond.fieldLink "DigestTrees" (200 : Nat) "DigestTrees$Proof" "count" "I") ∈ wsG := in_tables1 (List.mem_of_getElem? (i := 148) rfl) rfl
theorem wk_149 : (Jvm.Cond.laysFinal "DigestTrees$Proof" "DigestTrees$Proof" "beside" "[[B") ∈ wsG := in_tables1 (List.mem_of_getElem? (i := 149) rfl) rfl
theorem wk_151 : (Jvm.Cond.lays "DigestTrees$Proof" "DigestTrees$Proof" "count" "I") ∈ wsG := in_tables1 (List.mem_of_getElem? (i := 151) rfl) rfl
theorem wk_153 : (Jvm.Cond.superclass "DigestTrees$Proof" "java/lang/Object") ∈ wsG := in_tables1 (List.mem_of_getElem? (i := 153) rfl) rfl
theorem wk_154 : (Jvm.Cond.classLink "DigestTrees" (59 : Nat) "DigestTrees$Store") ∈ wsG := in_tables1 (List.mem_of_getElem? (i := 154) rfl) rfl
theorem wk_155 : (Jvm.Cond.instantiable "DigestTrees$Store" (6 : Nat)) ∈ wsG := in_tables1 (List.mem_of_getElem? (i := 155) rfl) rfl
theorem wk_157 : (Jvm.Cond.instanceMethod ({ cls := "DigestTrees$Store", name := "<init>", desc := "()V" } : Jvm.MethodName)) ∈ wsG := in_tables1 (List.mem_of_getElem? (i := 157) rfl) rfl
theorem wk_158 : (Jvm.Cond.code ({ cls := "DigestTrees$Store", name := "<init>", desc := "()V" } : Jvm.MethodName) prog_7_method_1_code (1 : Nat) (Option.none : Option Jvm.ClassFile.FieldType)) ∈ wsG := in_tables1 (List.mem_of_getElem? (i := 158) rfl) rfl
theorem wk_159 : (Jvm.Cond.methodLink "DigestTrees$Store" (3 : Nat) ({ cls := "java/lang/Object", name := "<init>", desc := "()V" } : Jvm.MethodName)) ∈ wsG := in_tables1 (List.mem_of_getElem? (i := 159) rfl) rfl
theorem wk_160 : (Jvm.Cond.classLink "DigestTrees$Store" (9 : Nat) "[[B") ∈ wsG := in_tables1 (List.mem_of_getElem? (i := 160) rfl) rfl
theorem wk_161 : (Jvm.Cond.fieldLink "DigestTrees$Store" (11 : Nat) "DigestTrees$Store" "rows" "[[B") ∈ wsG := in_tables1 (List.mem_of_getElem? (i := 161) rfl) rfl
theorem wk_162 : (Jvm.Cond.fieldLink "DigestTrees" (248 : Nat) "DigestTrees$Store" "rows" "[[B") ∈ wsG := in_tables1 (List.mem_of_getElem? (i := 162) rfl) rfl
theorem wk_163 : (Jvm.Cond.fieldLink "DigestTrees$Store" (16 : Nat) "DigestTrees$Store" "sizes" "[I") ∈ wsG := in_tables1 (List.mem_of_getElem? (i := 163) rfl) rfl
theorem wk_164 : (Jvm.Cond.fieldLink "DigestTrees" (243 : Nat) "DigestTrees$Store" "sizes" "[I") ∈ wsG := in_tables1 (List.mem_of_getElem? (i := 164) rfl) rfl
theorem wk_165 : (Jvm.Cond.fieldLink "DigestTrees$Store" (20 : Nat) "DigestTrees$Store" "spots" "[I") ∈ wsG := in_tables1 (List.mem_of_getElem? (i := 165) rfl) rfl
theorem wk_166 : (Jvm.Cond.fieldLink "DigestTrees$Store" (27 : Nat) "DigestTrees$Store" "count" "I") ∈ wsG := in_tables1 (List.mem_of_getElem? (i := 166) rfl) rfl
theorem wk_167 : (Jvm.Cond.fieldLink "DigestTrees" (227 : Nat) "DigestTrees$Store" "count" "I") ∈ wsG := in_tables1 (List.mem_of_getElem? (i := 167) rfl) rfl
theorem wk_168 : (Jvm.Cond.fieldLink "DigestTrees" (231 : Nat) "DigestTrees$Store" "compared" "I") ∈ wsG := in_tables1 (List.mem_of_getElem? (i := 168) rfl) rfl
theorem wk_169 : (Jvm.Cond.fieldLink "DigestTrees$Store" (23 : Nat) "DigestTrees$Store" "looked" "I") ∈ wsG := in_tables1 (List.mem_of_getElem? (i := 169) rfl) rfl
theorem wk_170 : (Jvm.Cond.fieldLink "DigestTrees" (228 : Nat) "DigestTrees$Store" "looked" "I") ∈ wsG := in_tables1 (List.mem_of_getElem? (i := 170) rfl) rfl
theorem wk_171 : (Jvm.Cond.laysFinal "DigestTrees$Store" "DigestTrees$Store" "rows" "[[B") ∈ wsG := in_tables1 (List.mem_of_getElem? (i := 171) rfl) rfl
theorem wk_173 : (Jvm.Cond.laysFinal "DigestTrees$Store" "DigestTrees$Store" "sizes" "[I") ∈ wsG := in_tables1 (List.mem_of_getElem? (i := 173) rfl) rfl
theorem wk_175 : (Jvm.Cond.laysFinal "DigestTrees$Store" "DigestTrees$Store" "spots" "[I") ∈ wsG := in_tables1 (List.mem_of_getElem? (i := 175) rfl) rfl
theorem wk_177 : (Jvm.Cond.lays "DigestTrees$Store" "DigestTrees$Store" "count" "I") ∈ wsG := in_tables1 (List.mem_of_getElem? (i := 177) rfl) rfl
theorem wk_179 : (Jvm.Cond.lays "DigestTrees$Store" "DigestTrees$Store" "compared" "I") ∈ wsG := in_tables1 (List.mem_of_getElem? (i := 179) rfl) rfl
theorem wk_181 : (Jvm.Cond.lays "DigestTrees$Store" "DigestTrees$Store" "looked" "I") ∈ wsG := in_tables1 (List.mem_of_getElem? (i := 181) rfl) rfl
theorem wk_183 : (Jvm.Cond.superclass "DigestTrees$Store" "java/lang/Object") ∈ wsG := in_tables1 (List.mem_of_getElem? (i := 183) rfl) rfl
theorem wk_184 : (Jvm.Cond.instantiable "DigestTrees$Tree" (3 : Nat)) ∈ wsG := in_tables1 (List.mem_of_getElem? (i := 184) rfl) rfl
theorem wk_186 : (Jvm.Cond.instanceMethod ({ cls := "DigestTrees$Tree", name := "<init>", desc := "()V" } : Jvm.MethodName)) ∈ wsG := in_tables1 (List.mem_of_getElem? (i := 186) rfl) rfl
theorem wk_187 : (Jvm.Cond.code ({ cls := "DigestTrees$Tree", name := "<init>", desc := "()V" } : Jvm.MethodName) prog_8_method_1_code (1 : Nat) (Option.none : Option Jvm.ClassFile.FieldType)) ∈ wsG := in_tables1 (List.mem_of_getElem? (i := 187) rfl) rfl
theorem wk_188 : (Jvm.Cond.methodLink "DigestTrees$Tree" (3 : Nat) ({ cls := "java/lang/Object", name := "<init>", desc := "()V" } : Jvm.MethodName)) ∈ wsG := in_tables1 (List.mem_of_getElem? (i := 188) rfl) rfl
theorem wk_189 : (Jvm.Cond.classLink "DigestTrees$Tree" (15 : Nat) "[[B") ∈ wsG := in_tables1 (List.mem_of_getElem? (i := 189) rfl) rfl
theorem wk_190 : (Jvm.Cond.fieldLink "DigestTrees$Tree" (9 : Nat) "DigestTrees$Tree" "kinds" "[I") ∈ wsG := in_tables1 (List.mem_of_getElem? (i := 190) rfl) rfl
theorem wk_191 : (Jvm.Cond.fieldLink "DigestTrees" (179 : Nat) "DigestTrees$Tree" "kinds" "[I") ∈ wsG := in_tables1 (List.mem_of_getElem? (i := 191) rfl) rfl
theorem wk_192 : (Jvm.Cond.fieldLink "DigestTrees$Tree" (17 : Nat) "DigestTrees$Tree" "nodes" "[[B") ∈ wsG := in_tables1 (List.mem_of_getElem? (i := 192) rfl) rfl
theorem wk_193 : (Jvm.Cond.fieldLink "DigestTrees$Proof" (23 : Nat) "DigestTrees$Tree" "nodes" "[[B") ∈ wsG := in_tables1 (List.mem_of_getElem? (i := 193) rfl) rfl
theorem wk_194 : (Jvm.Cond.fieldLink "DigestTrees" (256 : Nat) "DigestTrees$Tree" "nodes" "[[B") ∈ wsG := in_tables1 (List.mem_of_getElem? (i := 194) rfl) rfl
theorem wk_195 : (Jvm.Cond.fieldLink "DigestTrees$Tree" (20 : Nat) "DigestTrees$Tree" "count" "I") ∈ wsG := in_tables1 (List.mem_of_getElem? (i := 195) rfl) rfl
theorem wk_196 : (Jvm.Cond.fieldLink "DigestTrees$Proof" (20 : Nat) "DigestTrees$Tree" "count" "I") ∈ wsG := in_tables1 (List.mem_of_getElem? (i := 196) rfl) rfl
theorem wk_197 : (Jvm.Cond.fieldLink "DigestTrees" (171 : Nat) "DigestTrees$Tree" "count" "I") ∈ wsG := in_tables1 (List.mem_of_getElem? (i := 197) rfl) rfl
theorem wk_198 : (Jvm.Cond.laysFinal "DigestTrees$Tree" "DigestTrees$Tree" "kinds" "[I") ∈ wsG := in_tables1 (List.mem_of_getElem? (i := 198) rfl) rfl
theorem wk_200 : (Jvm.Cond.laysFinal "DigestTrees$Tree" "DigestTrees$Tree" "nodes" "[[B") ∈ wsG := in_tables1 (List.mem_of_getElem? (i := 200) rfl) rfl
theorem wk_202 : (Jvm.Cond.lays "DigestTrees$Tree" "DigestTrees$Tree" "count" "I") ∈ wsG := in_tables1 (List.mem_of_getElem? (i := 202) rfl) rfl
theorem wk_204 : (Jvm.Cond.superclass "DigestTrees$Tree" "java/lang/Object") ∈ wsG := in_tables1 (List.mem_of_getElem? (i := 204) rfl) rfl
theorem wk_205 : (Jvm.Cond.fieldLink "DigestTrees" (10 : Nat) "DigestTrees" "tape" "LDigestTrees$Bytes;") ∈ wsG := in_tables1 (List.mem_of_getElem? (i := 205) rfl) rfl
theorem wk_206 : (Jvm.Cond.fieldLink "DigestTrees" (16 : Nat) "DigestTrees" "secret" "LDigestTrees$Bytes;") ∈ wsG := in_tables1 (List.mem_of_getElem? (i := 206) rfl) rfl
theorem wk_207 : (Jvm.Cond.fieldLink "DigestTrees" (22 : Nat) "DigestTrees" "mill" "LDigestTrees$Mill;") ∈ wsG := in_tables1 (List.mem_of_getElem? (i := 207) rfl) rfl
theorem wk_208 : (Jvm.Cond.fieldLink "DigestTrees" (31 : Nat) "DigestTrees" "whole" "LDigestTrees$Message;") ∈ wsG := in_tables1 (List.mem_of_getElem? (i := 208) rfl) rfl
theorem wk_209 : (Jvm.Cond.fieldLink "DigestTrees" (35 : Nat) "DigestTrees" "streams" "[LDigestTrees$Message;") ∈ wsG := in_tables1 (List.mem_of_getElem? (i := 209) rfl) rfl
theorem wk_210 : (Jvm.Cond.fieldLink "DigestTrees" (42 : Nat) "DigestTrees" "shelf" "LDigestTrees$Shelf;") ∈ wsG := in_tables1 (List.mem_of_getElem? (i := 210) rfl) rfl
theorem wk_211 : (Jvm.Cond.fieldLink "DigestTrees" (48 : Nat) "DigestTrees" "trees" "[LDigestTrees$Tree;") ∈ wsG := in_tables1 (List.mem_of_getElem? (i := 211) rfl) rfl
theorem wk_212 : (Jvm.Cond.fieldLink "DigestTrees" (55 : Nat) "DigestTrees" "proof" "LDigestTrees$Proof;") ∈ wsG := in_tables1 (List.mem_of_getElem? (i := 212) rfl) rfl
theorem wk_213 : (Jvm.Cond.fieldLink "DigestTrees" (62 : Nat) "DigestTrees" "store" "LDigestTrees$Store;") ∈ wsG := in_tables1 (List.mem_of_getElem? (i := 213) rfl) rfl
theorem wk_214 : (Jvm.Cond.fieldLink "DigestTrees" (66 : Nat) "DigestTrees" "node" "[B") ∈ wsG := in_tables1 (List.mem_of_getElem? (i := 214) rfl) rfl
theorem wk_215 : (Jvm.Cond.laysFinal "DigestTrees" "DigestTrees" "tape" "LDigestTrees$Bytes;") ∈ wsG := in_tables1 (List.mem_of_getElem? (i := 215) rfl) rfl
theorem wk_217 : (Jvm.Cond.laysFinal "DigestTrees" "DigestTrees" "secret" "LDigestTrees$Bytes;") ∈ wsG := in_tables1 (List.mem_of_getElem? (i := 217) rfl) rfl
theorem wk_219 : (Jvm.Cond.laysFinal "DigestTrees" "DigestTrees" "mill" "LDigestTrees$Mill;") ∈ wsG := in_tables1 (List.mem_of_getElem? (i := 219) rfl) rfl
theorem wk_221 : (Jvm.Cond.laysFinal "DigestTrees" "DigestTrees" "whole" "LDigestTrees$Message;") ∈ wsG := in_tables1 (List.mem_of_getElem? (i := 221) rfl) rfl
theorem wk_223 : (Jvm.Cond.laysFinal "DigestTrees" "DigestTrees" "streams" "[LDigestTrees$Message;") ∈ wsG := in_tables1 (List.mem_of_getElem? (i := 223) rfl) rfl
theorem wk_225 : (Jvm.Cond.laysFinal "DigestTrees" "DigestTrees" "shelf" "LDigestTrees$Shelf;") ∈ wsG := in_tables1 (List.mem_of_getElem? (i := 225) rfl) rfl
theorem wk_227 : (Jvm.Cond.laysFinal "DigestTrees" "DigestTrees" "trees" "[LDigestTrees$Tree;") ∈ wsG := in_tables1 (List.mem_of_getElem? (i := 227) rfl) rfl
theorem wk_229 : (Jvm.Cond.laysFinal "DigestTrees" "DigestTrees" "proof" "LDigestTrees$Proof;") ∈ wsG := in_tables1 (List.mem_of_getElem? (i := 229) rfl) rfl
theorem wk_231 : (Jvm.Cond.laysFinal "DigestTrees" "DigestTrees" "store" "LDigestTrees$Store;") ∈ wsG := in_tables1 (List.mem_of_getElem? (i := 231) rfl) rfl
theorem wk_233 : (Jvm.Cond.laysFinal "DigestTrees" "DigestTrees" "node" "[B") ∈ wsG := in_tables1 (List.mem_of_getElem? (i := 233) rfl) rfl
theorem wk_235 : (Jvm.Cond.superclass "DigestTrees" "java/lang/Object") ∈ wsG := in_tables1 (List.mem_of_getElem? (i := 235) rfl) rfl
theorem wk_236 : (Jvm.Cond.methodLink "DigestTreesLaw" (35 : Nat) ({ cls := "DigestTrees", name := "feed", desc := "(IJ)I" } : Jvm.MethodName)) ∈ wsG := in_tables1 (List.mem_of_getElem? (i := 236) rfl) rfl
theorem wk_237 : (Jvm.Cond.instanceMethod ({ cls := "DigestTrees", name := "feed", desc := "(IJ)I" } : Jvm.MethodName)) ∈ wsG := in_tables1 (List.mem_of_getElem? (i := 237) rfl) rfl
theorem wk_238 : (Jvm.Cond.selects "DigestTrees" ({ cls := "DigestTrees", name := "feed", desc := "(IJ)I" } : Jvm.MethodName) ({ cls := "DigestTrees", name := "feed", desc := "(IJ)I" } : Jvm.MethodName)) ∈ wsG := in_tables1 (List.mem_of_getElem? (i := 238) rfl) rfl
theorem wk_239 : (Jvm.Cond.code ({ cls := "DigestTrees", name := "feed", desc := "(IJ)I" } : Jvm.MethodName) prog_1_method_2_code (5 : Nat) (Option.some Jvm.ClassFile.FieldType.int)) ∈ wsG := in_tables1 (List.mem_of_getElem? (i := 239) rfl) rfl
theorem wk_240 : (Jvm.Cond.methodLink "DigestTreesLaw" (40 : Nat) ({ cls := "DigestTrees", name := "key", desc := "()I" } : Jvm.MethodName)) ∈ wsG := in_tables2 (List.mem_of_getElem? (i := 0) rfl) rfl
theorem wk_241 : (Jvm.Cond.instanceMethod ({ cls := "DigestTrees", name := "key", desc := "()I" } : Jvm.MethodName)) ∈ wsG := in_tables2 (List.mem_of_getElem? (i := 1) rfl) rfl
theorem wk_242 : (Jvm.Cond.selects "DigestTrees" ({ cls := "DigestTrees", name := "key", desc := "()I" } : Jvm.MethodName) ({ cls := "DigestTrees", name := "key", desc := "()I" } : Jvm.MethodName)) ∈ wsG := in_tables2 (List.mem_of_getElem? (i := 2) rfl) rfl
theorem wk_243 : (Jvm.Cond.code ({ cls := "DigestTrees", name := "key", desc := "()I" } : Jvm.MethodName) prog_1_method_3_code (1 : Nat) (Option.some Jvm.ClassFile.FieldType.int)) ∈ wsG := in_tables2 (List.mem_of_getElem? (i := 3) rfl) rfl
theorem wk_244 : (Jvm.Cond.methodLink "DigestTrees" (78 : Nat) ({ cls := "java/lang/System", name := "arraycopy", desc := "(Ljava/lang/Object;ILjava/lang/Object;II)V" } : Jvm.MethodName)) ∈ wsG := in_tables2 (List.mem_of_getElem? (i := 4) rfl) rfl
theorem wk_245 : (Jvm.Cond.static ({ cls := "java/lang/System", name := "arraycopy", desc := "(Ljava/lang/Object;ILjava/lang/Object;II)V" } : Jvm.MethodName)) ∈ wsG := in_tables2 (List.mem_of_getElem? (i := 5) rfl) rfl
theorem wk_246 : (Jvm.Cond.native ({ cls := "java/lang/System", name := "arraycopy", desc := "(Ljava/lang/Object;ILjava/lang/Object;II)V" } : Jvm.MethodName)) ∈ wsG := in_tables2 (List.mem_of_getElem? (i := 6) rfl) rfl
theorem wk_247 : (Jvm.Cond.methodLink "DigestTreesLaw" (45 : Nat) ({ cls := "DigestTrees", name := "digest", desc := "(I)I" } : Jvm.MethodName)) ∈ wsG := in_tables2 (List.mem_of_getElem? (i := 7) rfl) rfl
theorem wk_248 : (Jvm.Cond.instanceMethod ({ cls := "DigestTrees", name := "digest", desc := "(I)I" } : Jvm.MethodName)) ∈ wsG := in_tables2 (List.mem_of_getElem? (i := 8) rfl) rfl
theorem wk_249 : (Jvm.Cond.selects "DigestTrees" ({ cls := "DigestTrees", name := "digest", desc := "(I)I" } : Jvm.MethodName) ({ cls := "DigestTrees", name := "digest", desc := "(I)I" } : Jvm.MethodName)) ∈ wsG := in_tables2 (List.mem_of_getElem? (i := 9) rfl) rfl
theorem wk_250 : (Jvm.Cond.code ({ cls := "DigestTrees", name := "digest", desc := "(I)I" } : Jvm.MethodName) prog_1_method_4_code (2 : Nat) (Option.some Jvm.ClassFile.FieldType.int)) ∈ wsG := in_tables2 (List.mem_of_getElem? (i := 10) rfl) rfl
theorem wk_251 : (Jvm.Cond.methodLink "DigestTrees" (84 : Nat) ({ cls := "DigestTrees", name := "isSort", desc := "(I)Z" } : Jvm.MethodName)) ∈ wsG := in_tables2 (List.mem_of_getElem? (i := 11) rfl) rfl
theorem wk_252 : (Jvm.Cond.static ({ cls := "DigestTrees", name := "isSort", desc := "(I)Z" } : Jvm.MethodName)) ∈ wsG := in_tables2 (List.mem_of_getElem? (i := 12) rfl) rfl
theorem wk_253 : (Jvm.Cond.code ({ cls := "DigestTrees", name := "isSort", desc := "(I)Z" } : Jvm.MethodName) prog_1_method_25_code (1 : Nat) (Option.some Jvm.ClassFile.FieldType.boolean)) ∈ wsG := in_tables2 (List.mem_of_getElem? (i := 13) rfl) rfl
theorem wk_254 : (Jvm.Cond.methodLink "DigestTrees" (88 : Nat) ({ cls := "DigestTrees$Shelf", name := "isFull", desc := "()Z" } : Jvm.MethodName)) ∈ wsG := in_tables2 (List.mem_of_getElem? (i := 14) rfl) rfl
theorem wk_255 : (Jvm.Cond.instanceMethod ({ cls := "DigestTrees$Shelf", name := "isFull", desc := "()Z" } : Jvm.MethodName)) ∈ wsG := in_tables2 (List.mem_of_getElem? (i := 15) rfl) rfl
theorem wk_256 : (Jvm.Cond.selects "DigestTrees$Shelf" ({ cls := "DigestTrees$Shelf", name := "isFull", desc := "()Z" } : Jvm.MethodName) ({ cls := "DigestTrees$Shelf", name := "isFull", desc := "()Z" } : Jvm.MethodName)) ∈ wsG := in_tables2 (List.mem_of_getElem? (i := 16) rfl) rfl
theorem wk_257 : (Jvm.Cond.code ({ cls := "DigestTrees$Shelf", name := "isFull", desc := "()Z" } : Jvm.MethodName) prog_6_method_3_code (1 : Nat) (Option.some Jvm.ClassFile.FieldType.boolean)) ∈ wsG := in_tables2 (List.mem_of_getElem? (i := 17) rfl) rfl
theorem wk_258 : (Jvm.Cond.methodLink "DigestTrees" (92 : Nat) ({ cls := "DigestTrees$Message", name := "begin", desc := "(ILDigestTrees$Bytes;)V" } : Jvm.MethodName)) ∈ wsG := in_tables2 (List.mem_of_getElem? (i := 18) rfl) rfl
theorem wk_259 : (Jvm.Cond.instanceMethod ({ cls := "DigestTrees$Message", name := "begin", desc := "(ILDigestTrees$Bytes;)V" } : Jvm.MethodName)) ∈ wsG := in_tables2 (List.mem_of_getElem? (i := 19) rfl) rfl
theorem wk_260 : (Jvm.Cond.selects "DigestTrees$Message" ({ cls := "DigestTrees$Message", name := "begin", desc := "(ILDigestTrees$Bytes;)V" } : Jvm.MethodName) ({ cls := "DigestTrees$Message", name := "begin", desc := "(ILDigestTrees$Bytes;)V" } : Jvm.MethodName)) ∈ wsG := in_tables2 (List.mem_of_getElem? (i := 20) rfl) rfl
theorem wk_261 : (Jvm.Cond.code ({ cls := "DigestTrees$Message", name := "begin", desc := "(ILDigestTrees$Bytes;)V" } : Jvm.MethodName) prog_3_method_2_code (3 : Nat) (Option.none : Option Jvm.ClassFile.FieldType)) ∈ wsG := in_tables2 (List.mem_of_getElem? (i := 21) rfl) rfl
theorem wk_262 : (Jvm.Cond.methodLink "DigestTrees$Message" (32 : Nat) ({ cls := "DigestTrees$Message", name := "makeLock", desc := "(LDigestTrees$Bytes;)V" } : Jvm.MethodName)) ∈ wsG := in_tables2 (List.mem_of_getElem? (i := 22) rfl) rfl
theorem wk_264 : (Jvm.Cond.instanceMethod ({ cls := "DigestTrees$Message", name := "makeLock", desc := "(LDigestTrees$Bytes;)V" } : Jvm.MethodName)) ∈ wsG := in_tables2 (List.mem_of_getElem? (i := 24) rfl) rfl
theorem wk_265 : (Jvm.Cond.code ({ cls := "DigestTrees$Message", name := "makeLock", desc := "(LDigestTrees$Bytes;)V" } : Jvm.MethodName) prog_3_method_5_code (2 : Nat) (Option.none : Option Jvm.ClassFile.FieldType)) ∈ wsG := in_tables2 (List.mem_of_getElem? (i := 25) rfl) rfl
theorem wk_266 : (Jvm.Cond.methodLink "DigestTrees$Message" (78 : Nat) ({ cls := "java/util/Arrays", name := "fill", desc := "([BB)V" } : Jvm.MethodName)) ∈ wsG := in_tables2 (List.mem_of_getElem? (i := 26) rfl) rfl
theorem wk_267 : (Jvm.Cond.static ({ cls := "java/util/Arrays", name := "fill", desc := "([BB)V" } : Jvm.MethodName)) ∈ wsG := in_tables2 (List.mem_of_getElem? (i := 27) rfl) rfl
theorem wk_268 : (Jvm.Cond.code ({ cls := "java/util/Arrays", name := "fill", desc := "([BB)V" } : Jvm.MethodName) prog_20_method_109_code (4 : Nat) (Option.none : Option Jvm.ClassFile.FieldType)) ∈ wsG := in_tables2 (List.mem_of_getElem? (i := 28) rfl) rfl
theorem wk_269 : (Jvm.Cond.methodLink "DigestTrees$Message" (84 : Nat) ({ cls := "java/lang/System", name := "arraycopy", desc := "(Ljava/lang/Object;ILjava/lang/Object;II)V" } : Jvm.MethodName)) ∈ wsG := in_tables2 (List.mem_of_getElem? (i := 29) rfl) rfl
theorem wk_272 : (Jvm.Cond.methodLink "DigestTrees$Message" (47 : Nat) ({ cls := "DigestTrees$Mill", name := "begin", desc := "([I)V" } : Jvm.MethodName)) ∈ wsG := in_tables2 (List.mem_of_getElem? (i := 32) rfl) rfl
theorem wk_273 : (Jvm.Cond.instanceMethod ({ cls := "DigestTrees$Mill", name := "begin", desc := "([I)V" } : Jvm.MethodName)) ∈ wsG := in_tables2 (List.mem_of_getElem? (i := 33) rfl) rfl
theorem wk_274 : (Jvm.Cond.selects "DigestTrees$Mill" ({ cls := "DigestTrees$Mill", name := "begin", desc := "([I)V" } : Jvm.MethodName) ({ cls := "DigestTrees$Mill", name := "begin", desc := "([I)V" } : Jvm.MethodName)) ∈ wsG := in_tables2 (List.mem_of_getElem? (i := 34) rfl) rfl
theorem wk_275 : (Jvm.Cond.code ({ cls := "DigestTrees$Mill", name := "begin", desc := "([I)V" } : Jvm.MethodName) prog_4_method_2_code (2 : Nat) (Option.none : Option Jvm.ClassFile.FieldType)) ∈ wsG := in_tables2 (List.mem_of_getElem? (i := 35) rfl) rfl
theorem wk_276 : (Jvm.Cond.methodLink "DigestTrees$Mill" (18 : Nat) ({ cls := "java/lang/System", name := "arraycopy", desc := "(Ljava/lang/Object;ILjava/lang/Object;II)V" } : Jvm.MethodName)) ∈ wsG := in_tables2 (List.mem_of_getElem? (i := 36) rfl) rfl
theorem wk_277 : (Jvm.Cond.methodLink "DigestTrees$Message" (61 : Nat) ({ cls := "DigestTrees$Mill", name := "take", desc := "([BI)V" } : Jvm.MethodName)) ∈ wsG := in_tables2 (List.mem_of_getElem? (i := 37) rfl) rfl
theorem wk_278 : (Jvm.Cond.instanceMethod ({ cls := "DigestTrees$Mill", name := "take", desc := "([BI)V" } : Jvm.MethodName)) ∈ wsG := in_tables2 (List.mem_of_getElem? (i := 38) rfl) rfl
theorem wk_279 : (Jvm.Cond.selects "DigestTrees$Mill" ({ cls := "DigestTrees$Mill", name := "take", desc := "([BI)V" } : Jvm.MethodName) ({ cls := "DigestTrees$Mill", name := "take", desc := "([BI)V" } : Jvm.MethodName)) ∈ wsG := in_tables2 (List.mem_of_getElem? (i := 39) rfl) rfl
theorem wk_280 : (Jvm.Cond.code ({ cls := "DigestTrees$Mill", name := "take", desc := "([BI)V" } : Jvm.MethodName) prog_4_method_3_code (4 : Nat) (Option.none : Option Jvm.ClassFile.FieldType)) ∈ wsG := in_tables2 (List.mem_of_getElem? (i := 40) rfl) rfl
theorem wk_281 : (Jvm.Cond.methodLink "DigestTrees$Mill" (34 : Nat) ({ cls := "DigestTrees$Mill", name := "put", desc := "(I)V" } : Jvm.MethodName)) ∈ wsG := in_tables2 (List.mem_of_getElem? (i := 41) rfl) rfl
theorem wk_283 : (Jvm.Cond.instanceMethod ({ cls := "DigestTrees$Mill", name := "put", desc := "(I)V" } : Jvm.MethodName)) ∈ wsG := in_tables2 (List.mem_of_getElem? (i := 43) rfl) rfl
theorem wk_284 : (Jvm.Cond.code ({ cls := "DigestTrees$Mill", name := "put", desc := "(I)V" } : Jvm.MethodName) prog_4_method_7_code (2 : Nat) (Option.none : Option Jvm.ClassFile.FieldType)) ∈ wsG := in_tables2 (List.mem_of_getElem? (i := 44) rfl) rfl
theorem wk_285 : (Jvm.Cond.methodLink "DigestTrees$Mill" (40 : Nat) ({ cls := "DigestTrees$Mill", name := "work", desc := "()V" } : Jvm.MethodName)) ∈ wsG := in_tables2 (List.mem_of_getElem? (i := 45) rfl) rfl
theorem wk_287 : (Jvm.Cond.instanceMethod ({ cls := "DigestTrees$Mill", name := "work", desc := "()V" } : Jvm.MethodName)) ∈ wsG := in_tables2 (List.mem_of_getElem? (i := 47) rfl) rfl
theorem wk_288 : (Jvm.Cond.code ({ cls := "DigestTrees$Mill", name := "work", desc := "()V" } : Jvm.MethodName) prog_4_method_8_code (12 : Nat) (Option.none : Option Jvm.ClassFile.FieldType)) ∈ wsG := in_tables2 (List.mem_of_getElem? (i := 48) rfl) rfl
theorem wk_290 : (Jvm.Cond.static ({ cls := "DigestTrees", name := "spread", desc := "([I)V" } : Jvm.MethodName)) ∈ wsG := in_tables2 (List.mem_of_getElem? (i := 50) rfl) rfl
theorem wk_291 : (Jvm.Cond.code ({ cls := "DigestTrees", name := "spread", desc := "([I)V" } : Jvm.MethodName) prog_1_method_37_code (6 : Nat) (Option.none : Option Jvm.ClassFile.FieldType)) ∈ wsG := in_tables2 (List.mem_of_getElem? (i := 51) rfl) rfl
theorem wk_292 : (Jvm.Cond.methodLink "DigestTrees" (273 : Nat) ({ cls := "java/lang/Integer", name := "rotateRight", desc := "(II)I" } : Jvm.MethodName)) ∈ wsG := in_tables2 (List.mem_of_getElem? (i := 52) rfl) rfl
theorem wk_293 : (Jvm.Cond.static ({ cls := "java/lang/Integer", name := "rotateRight", desc := "(II)I" } : Jvm.MethodName)) ∈ wsG := in_tables2 (List.mem_of_getElem? (i := 53) rfl) rfl
theorem wk_294 : (Jvm.Cond.code ({ cls := "java/lang/Integer", name := "rotateRight", desc := "(II)I" } : Jvm.MethodName) prog_14_method_51_code (2 : Nat) (Option.some Jvm.ClassFile.FieldType.int)) ∈ wsG := in_tables2 (List.mem_of_getElem? (i := 54) rfl) rfl
theorem wk_295 : (Jvm.Cond.methodLink "DigestTrees$Mill" (47 : Nat) ({ cls := "java/lang/Integer", name := "rotateRight", desc := "(II)I" } : Jvm.MethodName)) ∈ wsG := in_tables2 (List.mem_of_getElem? (i := 55) rfl) rfl
theorem wk_298 : (Jvm.Cond.methodLink "DigestTrees$Message" (65 : Nat) ({ cls := "DigestTrees$Mill", name := "finish", desc := "()V" } : Jvm.MethodName)) ∈ wsG := in_tables2 (List.mem_of_getElem? (i := 58) rfl) rfl
theorem wk_299 : (Jvm.Cond.instanceMethod ({ cls := "DigestTrees$Mill", name := "finish", desc := "()V" } : Jvm.MethodName)) ∈ wsG := in_tables2 (List.mem_of_getElem? (i := 59) rfl) rfl
theorem wk_300 : (Jvm.Cond.selects "DigestTrees$Mill" ({ cls := "DigestTrees$Mill", name := "finish", desc := "()V" } : Jvm.MethodName) ({ cls := "DigestTrees$Mill", name := "finish", desc := "()V" } : Jvm.MethodName)) ∈ wsG := in_tables2 (List.mem_of_getElem? (i := 60) rfl) rfl
theorem wk_301 : (Jvm.Cond.code ({ cls := "DigestTrees$Mill", name := "finish", desc := "()V" } : Jvm.MethodName) prog_4_method_5_code (5 : Nat) (Option.none : Option Jvm.ClassFile.FieldType)) ∈ wsG := in_tables2 (List.mem_of_getElem? (i := 61) rfl) rfl
theorem wk_302 : (Jvm.Cond.constantLong "DigestTrees$Mill" (38 : Nat) (8 : Int64)) ∈ wsG := in_tables2 (List.mem_of_getElem? (i := 62) rfl) rfl
theorem wk_303 : (Jvm.Cond.methodLink "DigestTrees$Message" (69 : Nat) ({ cls := "DigestTrees$Mill", name := "write", desc := "([BI)V" } : Jvm.MethodName)) ∈ wsG := in_tables2 (List.mem_of_getElem? (i := 63) rfl) rfl
theorem wk_304 : (Jvm.Cond.instanceMethod ({ cls := "DigestTrees$Mill", name := "write", desc := "([BI)V" } : Jvm.MethodName)) ∈ wsG := in_tables2 (List.mem_of_getElem? (i := 64) rfl) rfl
theorem wk_305 : (Jvm.Cond.selects "DigestTrees$Mill" ({ cls := "DigestTrees$Mill", name := "write", desc := "([BI)V" } : Jvm.MethodName) ({ cls := "DigestTrees$Mill", name := "write", desc := "([BI)V" } : Jvm.MethodName)) ∈ wsG := in_tables2 (List.mem_of_getElem? (i := 65) rfl) rfl
theorem wk_306 : (Jvm.Cond.code ({ cls := "DigestTrees$Mill", name := "write", desc := "([BI)V" } : Jvm.MethodName) prog_4_method_6_code (4 : Nat) (Option.none : Option Jvm.ClassFile.FieldType)) ∈ wsG := in_tables2 (List.mem_of_getElem? (i := 66) rfl) rfl
theorem wk_307 : (Jvm.Cond.methodLink "DigestTrees$Message" (36 : Nat) ({ cls := "DigestTrees$Message", name := "beginLocked", desc := "(I)V" } : Jvm.MethodName)) ∈ wsG := in_tables2 (List.mem_of_getElem? (i := 67) rfl) rfl
theorem wk_309 : (Jvm.Cond.instanceMethod ({ cls := "DigestTrees$Message", name := "beginLocked", desc := "(I)V" } : Jvm.MethodName)) ∈ wsG := in_tables2 (List.mem_of_getElem? (i := 69) rfl) rfl
theorem wk_310 : (Jvm.Cond.code ({ cls := "DigestTrees$Message", name := "beginLocked", desc := "(I)V" } : Jvm.MethodName) prog_3_method_6_code (3 : Nat) (Option.none : Option Jvm.ClassFile.FieldType)) ∈ wsG := in_tables2 (List.mem_of_getElem? (i := 70) rfl) rfl
theorem wk_311 : (Jvm.Cond.methodLink "DigestTrees$Message" (90 : Nat) ({ cls := "DigestTrees$Mill", name := "takeByte", desc := "(I)V" } : Jvm.MethodName)) ∈ wsG := in_tables2 (List.mem_of_getElem? (i := 71) rfl) rfl
theorem wk_312 : (Jvm.Cond.instanceMethod ({ cls := "DigestTrees$Mill", name := "takeByte", desc := "(I)V" } : Jvm.MethodName)) ∈ wsG := in_tables2 (List.mem_of_getElem? (i := 72) rfl) rfl
theorem wk_313 : (Jvm.Cond.selects "DigestTrees$Mill" ({ cls := "DigestTrees$Mill", name := "takeByte", desc := "(I)V" } : Jvm.MethodName) ({ cls := "DigestTrees$Mill", name := "takeByte", desc := "(I)V" } : Jvm.MethodName)) ∈ wsG := in_tables2 (List.mem_of_getElem? (i := 73) rfl) rfl
theorem wk_314 : (Jvm.Cond.code ({ cls := "DigestTrees$Mill", name := "takeByte", desc := "(I)V" } : Jvm.MethodName) prog_4_method_4_code (2 : Nat) (Option.none : Option Jvm.ClassFile.FieldType)) ∈ wsG := in_tables2 (List.mem_of_getElem? (i := 74) rfl) rfl
theorem wk_317 : (Jvm.Cond.methodLink "DigestTrees" (96 : Nat) ({ cls := "DigestTrees$Message", name := "take", desc := "(LDigestTrees$Bytes;)V" } : Jvm.MethodName)) ∈ wsG := in_tables2 (List.mem_of_getElem? (i := 77) rfl) rfl
theorem wk_318 : (Jvm.Cond.instanceMethod ({ cls := "DigestTrees$Message", name := "take", desc := "(LDigestTrees$Bytes;)V" } : Jvm.MethodName)) ∈ wsG := in_tables2 (List.mem_of_getElem? (i := 78) rfl) rfl
theorem wk_319 : (Jvm.Cond.selects "DigestTrees$Message" ({ cls := "DigestTrees$Message", name := "take", desc := "(LDigestTrees$Bytes;)V" } : Jvm.MethodName) ({ cls := "DigestTrees$Message", name := "take", desc := "(LDigestTrees$Bytes;)V" } : Jvm.MethodName)) ∈ wsG := in_tables2 (List.mem_of_getElem? (i := 79) rfl) rfl
theorem wk_320 : (Jvm.Cond.code ({ cls := "DigestTrees$Message", name := "take", desc := "(LDigestTrees$Bytes;)V" } : Jvm.MethodName) prog_3_method_3_code (2 : Nat) (Option.none : Option Jvm.ClassFile.FieldType)) ∈ wsG := in_tables2 (List.mem_of_getElem? (i := 80) rfl) rfl
theorem wk_321 : (Jvm.Cond.methodLink "DigestTrees" (100 : Nat) ({ cls := "DigestTrees$Message", name := "finish", desc := "(LDigestTrees$Shelf;)I" } : Jvm.MethodName)) ∈ wsG := in_tables2 (List.mem_of_getElem? (i := 81) rfl) rfl
theorem wk_322 : (Jvm.Cond.instanceMethod ({ cls := "DigestTrees$Message", name := "finish", desc := "(LDigestTrees$Shelf;)I" } : Jvm.MethodName)) ∈ wsG := in_tables2 (List.mem_of_getElem? (i := 82) rfl) rfl
theorem wk_323 : (Jvm.Cond.selects "DigestTrees$Message" ({ cls := "DigestTrees$Message", name := "finish", desc := "(LDigestTrees$Shelf;)I" } : Jvm.MethodName) ({ cls := "DigestTrees$Message", name := "finish", desc := "(LDigestTrees$Shelf;)I" } : Jvm.MethodName)) ∈ wsG := in_tables2 (List.mem_of_getElem? (i := 83) rfl) rfl
theorem wk_324 : (Jvm.Cond.code ({ cls := "DigestTrees$Message", name := "finish", desc := "(LDigestTrees$Shelf;)I" } : Jvm.MethodName) prog_3_method_4_code (2 : Nat) (Option.some Jvm.ClassFile.FieldType.int)) ∈ wsG := in_tables2 (List.mem_of_getElem? (i := 84) rfl) rfl
theorem wk_325 : (Jvm.Cond.methodLink "DigestTrees$Message" (72 : Nat) ({ cls := "DigestTrees$Shelf", name := "add", desc := "(IILDigestTrees$Mill;)I" } : Jvm.MethodName)) ∈ wsG := in_tables2 (List.mem_of_getElem? (i := 85) rfl) rfl
theorem wk_326 : (Jvm.Cond.instanceMethod ({ cls := "DigestTrees$Shelf", name := "add", desc := "(IILDigestTrees$Mill;)I" } : Jvm.MethodName)) ∈ wsG := in_tables2 (List.mem_of_getElem? (i := 86) rfl) rfl
theorem wk_327 : (Jvm.Cond.selects "DigestTrees$Shelf" ({ cls := "DigestTrees$Shelf", name := "add", desc := "(IILDigestTrees$Mill;)I" } : Jvm.MethodName) ({ cls := "DigestTrees$Shelf", name := "add", desc := "(IILDigestTrees$Mill;)I" } : Jvm.MethodName)) ∈ wsG := in_tables2 (List.mem_of_getElem? (i := 87) rfl) rfl
theorem wk_328 : (Jvm.Cond.code ({ cls := "DigestTrees$Shelf", name := "add", desc := "(IILDigestTrees$Mill;)I" } : Jvm.MethodName) prog_6_method_4_code (5 : Nat) (Option.some Jvm.ClassFile.FieldType.int)) ∈ wsG := in_tables2 (List.mem_of_getElem? (i := 88) rfl) rfl
theorem wk_330 : (Jvm.Cond.static ({ cls := "DigestTrees", name := "bytesOf", desc := "(I)I" } : Jvm.MethodName)) ∈ wsG := in_tables2 (List.mem_of_getElem? (i := 90) rfl) rfl
theorem wk_331 : (Jvm.Cond.code ({ cls := "DigestTrees", name := "bytesOf", desc := "(I)I" } : Jvm.MethodName) prog_1_method_29_code (1 : Nat) (Option.some Jvm.ClassFile.FieldType.int)) ∈ wsG := in_tables2 (List.mem_of_getElem? (i := 91) rfl) rfl
theorem wk_332 : (Jvm.Cond.methodLink "DigestTrees$Shelf" (39 : Nat) ({ cls := "DigestTrees$Mill", name := "write", desc := "([BI)V" } : Jvm.MethodName)) ∈ wsG := in_tables2 (List.mem_of_getElem? (i := 92) rfl) rfl
theorem wk_333 : (Jvm.Cond.methodLink "DigestTrees$Shelf" (48 : Nat) ({ cls := "java/lang/System", name := "arraycopy", desc := "(Ljava/lang/Object;ILjava/lang/Object;II)V" } : Jvm.MethodName)) ∈ wsG := in_tables2 (List.mem_of_getElem? (i := 93) rfl) rfl
theorem wk_334 : (Jvm.Cond.methodLink "DigestTreesLaw" (49 : Nat) ({ cls := "DigestTrees", name := "open", desc := "(II)I" } : Jvm.MethodName)) ∈ wsG := in_tables2 (List.mem_of_getElem? (i := 94) rfl) rfl
theorem wk_335 : (Jvm.Cond.instanceMethod ({ cls := "DigestTrees", name := "open", desc := "(II)I" } : Jvm.MethodName)) ∈ wsG := in_tables2 (List.mem_of_getElem? (i := 95) rfl) rfl
theorem wk_336 : (Jvm.Cond.selects "DigestTrees" ({ cls := "DigestTrees", name := "open", desc := "(II)I" } : Jvm.MethodName) ({ cls := "DigestTrees", name := "open", desc := "(II)I" } : Jvm.MethodName)) ∈ wsG := in_tables2 (List.mem_of_getElem? (i := 96) rfl) rfl
theorem wk_337 : (Jvm.Cond.code ({ cls := "DigestTrees", name := "open", desc := "(II)I" } : Jvm.MethodName) prog_1_method_5_code (3 : Nat) (Option.some Jvm.ClassFile.FieldType.int)) ∈ wsG := in_tables2 (List.mem_of_getElem? (i := 97) rfl) rfl
theorem wk_338 : (Jvm.Cond.methodLink "DigestTrees" (104 : Nat) ({ cls := "DigestTrees", name := "isStream", desc := "(I)Z" } : Jvm.MethodName)) ∈ wsG := in_tables2 (List.mem_of_getElem? (i := 98) rfl) rfl
theorem wk_339 : (Jvm.Cond.static ({ cls := "DigestTrees", name := "isStream", desc := "(I)Z" } : Jvm.MethodName)) ∈ wsG := in_tables2 (List.mem_of_getElem? (i := 99) rfl) rfl
theorem wk_340 : (Jvm.Cond.code ({ cls := "DigestTrees", name := "isStream", desc := "(I)Z" } : Jvm.MethodName) prog_1_method_26_code (1 : Nat) (Option.some Jvm.ClassFile.FieldType.boolean)) ∈ wsG := in_tables2 (List.mem_of_getElem? (i := 100) rfl) rfl
theorem wk_341 : (Jvm.Cond.methodLink "DigestTreesLaw" (54 : Nat) ({ cls := "DigestTrees", name := "more", desc := "(I)I" } : Jvm.MethodName)) ∈ wsG := in_tables2 (List.mem_of_getElem? (i := 101) rfl) rfl
theorem wk_342 : (Jvm.Cond.instanceMethod ({ cls := "DigestTrees", name := "more", desc := "(I)I" } : Jvm.MethodName)) ∈ wsG := in_tables2 (List.mem_of_getElem? (i := 102) rfl) rfl
theorem wk_343 : (Jvm.Cond.selects "DigestTrees" ({ cls := "DigestTrees", name := "more", desc := "(I)I" } : Jvm.MethodName) ({ cls := "DigestTrees", name := "more", desc := "(I)I" } : Jvm.MethodName)) ∈ wsG := in_tables2 (List.mem_of_getElem? (i := 103) rfl) rfl
theorem wk_344 : (Jvm.Cond.code ({ cls := "DigestTrees", name := "more", desc := "(I)I" } : Jvm.MethodName) prog_1_method_6_code (3 : Nat) (Option.some Jvm.ClassFile.FieldType.int)) ∈ wsG := in_tables2 (List.mem_of_getElem? (i := 104) rfl) rfl
theorem wk_345 : (Jvm.Cond.methodLink "DigestTreesLaw" (58 : Nat) ({ cls := "DigestTrees", name := "end", desc := "(I)I" } : Jvm.MethodName)) ∈ wsG := in_tables2 (List.mem_of_getElem? (i := 105) rfl) rfl
theorem wk_346 : (Jvm.Cond.instanceMethod ({ cls := "DigestTrees", name := "end", desc := "(I)I" } : Jvm.MethodName)) ∈ wsG := in_tables2 (List.mem_of_getElem? (i := 106) rfl) rfl
theorem wk_347 : (Jvm.Cond.selects "DigestTrees" ({ cls := "DigestTrees", name := "end", desc := "(I)I" } : Jvm.MethodName) ({ cls := "DigestTrees", name := "end", desc := "(I)I" } : Jvm.MethodName)) ∈ wsG := in_tables2 (List.mem_of_getElem? (i := 107) rfl) rfl
theorem wk_348 : (Jvm.Cond.code ({ cls := "DigestTrees", name := "end", desc := "(I)I" } : Jvm.MethodName) prog_1_method_7_code (2 : Nat) (Option.some Jvm.ClassFile.FieldType.int)) ∈ wsG := in_tables2 (List.mem_of_getElem? (i := 108) rfl) rfl
theorem wk_349 : (Jvm.Cond.methodLink "DigestTreesLaw" (62 : Nat) ({ cls := "DigestTrees", name := "told", desc := "(II)I" } : Jvm.MethodName)) ∈ wsG := in_tables2 (List.mem_of_getElem? (i := 109) rfl) rfl
theorem wk_350 : (Jvm.Cond.instanceMethod ({ cls := "DigestTrees", name := "told", desc := "(II)I" } : Jvm.MethodName)) ∈ wsG := in_tables2 (List.mem_of_getElem? (i := 110) rfl) rfl
theorem wk_351 : (Jvm.Cond.selects "DigestTrees" ({ cls := "DigestTrees", name := "told", desc := "(II)I" } : Jvm.MethodName) ({ cls := "DigestTrees", name := "told", desc := "(II)I" } : Jvm.MethodName)) ∈ wsG := in_tables2 (List.mem_of_getElem? (i := 111) rfl) rfl
theorem wk_352 : (Jvm.Cond.code ({ cls := "DigestTrees", name := "told", desc := "(II)I" } : Jvm.MethodName) prog_1_method_8_code (3 : Nat) (Option.some Jvm.ClassFile.FieldType.int)) ∈ wsG := in_tables2 (List.mem_of_getElem? (i := 112) rfl) rfl
theorem wk_353 : (Jvm.Cond.methodLink "DigestTrees" (114 : Nat) ({ cls := "DigestTrees$Shelf", name := "has", desc := "(I)Z" } : Jvm.MethodName)) ∈ wsG := in_tables2 (List.mem_of_getElem? (i := 113) rfl) rfl
theorem wk_354 : (Jvm.Cond.instanceMethod ({ cls := "DigestTrees$Shelf", name := "has", desc := "(I)Z" } : Jvm.MethodName)) ∈ wsG := in_tables2 (List.mem_of_getElem? (i := 114) rfl) rfl
theorem wk_355 : (Jvm.Cond.selects "DigestTrees$Shelf" ({ cls := "DigestTrees$Shelf", name := "has", desc := "(I)Z" } : Jvm.MethodName) ({ cls := "DigestTrees$Shelf", name := "has", desc := "(I)Z" } : Jvm.MethodName)) ∈ wsG := in_tables2 (List.mem_of_getElem? (i := 115) rfl) rfl
theorem wk_356 : (Jvm.Cond.code ({ cls := "DigestTrees$Shelf", name := "has", desc := "(I)Z" } : Jvm.MethodName) prog_6_method_2_code (2 : Nat) (Option.some Jvm.ClassFile.FieldType.boolean)) ∈ wsG := in_tables2 (List.mem_of_getElem? (i := 116) rfl) rfl
theorem wk_357 : (Jvm.Cond.methodLink "DigestTrees" (121 : Nat) ({ cls := "DigestTrees", name := "bytesOf", desc := "(I)I" } : Jvm.MethodName)) ∈ wsG := in_tables2 (List.mem_of_getElem? (i := 117) rfl) rfl
theorem wk_358 : (Jvm.Cond.methodLink "DigestTreesLaw" (79 : Nat) ({ cls := "DigestTrees", name := "same", desc := "(II)I" } : Jvm.MethodName)) ∈ wsG := in_tables2 (List.mem_of_getElem? (i := 118) rfl) rfl
theorem wk_359 : (Jvm.Cond.instanceMethod ({ cls := "DigestTrees", name := "same", desc := "(II)I" } : Jvm.MethodName)) ∈ wsG := in_tables2 (List.mem_of_getElem? (i := 119) rfl) rfl
theorem wk_360 : (Jvm.Cond.selects "DigestTrees" ({ cls := "DigestTrees", name := "same", desc := "(II)I" } : Jvm.MethodName) ({ cls := "DigestTrees", name := "same", desc := "(II)I" } : Jvm.MethodName)) ∈ wsG := in_tables2 (List.mem_of_getElem? (i := 120) rfl) rfl
theorem wk_361 : (Jvm.Cond.code ({ cls := "DigestTrees", name := "same", desc := "(II)I" } : Jvm.MethodName) prog_1_method_11_code (4 : Nat) (Option.some Jvm.ClassFile.FieldType.int)) ∈ wsG := in_tables2 (List.mem_of_getElem? (i := 121) rfl) rfl
theorem wk_362 : (Jvm.Cond.methodLink "DigestTrees" (156 : Nat) ({ cls := "DigestTrees", name := "alike", desc := "([B[BI)Z" } : Jvm.MethodName)) ∈ wsG := in_tables2 (List.mem_of_getElem? (i := 122) rfl) rfl
theorem wk_363 : (Jvm.Cond.static ({ cls := "DigestTrees", name := "alike", desc := "([B[BI)Z" } : Jvm.MethodName)) ∈ wsG := in_tables2 (List.mem_of_getElem? (i := 123) rfl) rfl
theorem wk_364 : (Jvm.Cond.code ({ cls := "DigestTrees", name := "alike", desc := "([B[BI)Z" } : Jvm.MethodName) prog_1_method_31_code (4 : Nat) (Option.some Jvm.ClassFile.FieldType.boolean)) ∈ wsG := in_tables2 (List.mem_of_getElem? (i := 124) rfl) rfl
theorem wk_365 : (Jvm.Cond.methodLink "DigestTreesLaw" (87 : Nat) ({ cls := "DigestTrees", name := "leaf", desc := "(II)I" } : Jvm.MethodName)) ∈ wsG := in_tables2 (List.mem_of_getElem? (i := 125) rfl) rfl
theorem wk_366 : (Jvm.Cond.instanceMethod ({ cls := "DigestTrees", name := "leaf", desc := "(II)I" } : Jvm.MethodName)) ∈ wsG := in_tables2 (List.mem_of_getElem? (i := 126) rfl) rfl
theorem wk_367 : (Jvm.Cond.selects "DigestTrees" ({ cls := "DigestTrees", name := "leaf", desc := "(II)I" } : Jvm.MethodName) ({ cls := "DigestTrees", name := "leaf", desc := "(II)I" } : Jvm.MethodName)) ∈ wsG := in_tables2 (List.mem_of_getElem? (i := 127) rfl) rfl
theorem wk_368 : (Jvm.Cond.code ({ cls := "DigestTrees", name := "leaf", desc := "(II)I" } : Jvm.MethodName) prog_1_method_13_code (4 : Nat) (Option.some Jvm.ClassFile.FieldType.int)) ∈ wsG := in_tables2 (List.mem_of_getElem? (i := 128) rfl) rfl
theorem wk_369 : (Jvm.Cond.methodLink "DigestTrees" (165 : Nat) ({ cls := "DigestTrees", name := "isTree", desc := "(I)Z" } : Jvm.MethodName)) ∈ wsG := in_tables2 (List.mem_of_getElem? (i := 129) rfl) rfl
theorem wk_370 : (Jvm.Cond.static ({ cls := "DigestTrees", name := "isTree", desc := "(I)Z" } : Jvm.MethodName)) ∈ wsG := in_tables2 (List.mem_of_getElem? (i := 130) rfl) rfl
theorem wk_371 : (Jvm.Cond.code ({ cls := "DigestTrees", name := "isTree", desc := "(I)Z" } : Jvm.MethodName) prog_1_method_27_code (1 : Nat) (Option.some Jvm.ClassFile.FieldType.boolean)) ∈ wsG := in_tables2 (List.mem_of_getElem? (i := 131) rfl) rfl
theorem wk_372 : (Jvm.Cond.methodLink "DigestTrees" (168 : Nat) ({ cls := "DigestTrees", name := "isLeaf", desc := "(I)Z" } : Jvm.MethodName)) ∈ wsG := in_tables2 (List.mem_of_getElem? (i := 132) rfl) rfl
theorem wk_374 : (Jvm.Cond.instanceMethod ({ cls := "DigestTrees", name := "isLeaf", desc := "(I)Z" } : Jvm.MethodName)) ∈ wsG := in_tables2 (List.mem_of_getElem? (i := 134) rfl) rfl
theorem wk_375 : (Jvm.Cond.code ({ cls := "DigestTrees", name := "isLeaf", desc := "(I)Z" } : Jvm.MethodName) prog_1_method_28_code (2 : Nat) (Option.some Jvm.ClassFile.FieldType.boolean)) ∈ wsG := in_tables2 (List.mem_of_getElem? (i := 135) rfl) rfl
theorem wk_376 : (Jvm.Cond.methodLink "DigestTrees" (174 : Nat) ({ cls := "DigestTrees", name := "setLeaf", desc := "(LDigestTrees$Tree;II)V" } : Jvm.MethodName)) ∈ wsG := in_tables2 (List.mem_of_getElem? (i := 136) rfl) rfl
theorem wk_378 : (Jvm.Cond.instanceMethod ({ cls := "DigestTrees", name := "setLeaf", desc := "(LDigestTrees$Tree;II)V" } : Jvm.MethodName)) ∈ wsG := in_tables2 (List.mem_of_getElem? (i := 138) rfl) rfl
theorem wk_379 : (Jvm.Cond.code ({ cls := "DigestTrees", name := "setLeaf", desc := "(LDigestTrees$Tree;II)V" } : Jvm.MethodName) prog_1_method_32_code (4 : Nat) (Option.none : Option Jvm.ClassFile.FieldType)) ∈ wsG := in_tables2 (List.mem_of_getElem? (i := 139) rfl) rfl
theorem wk_380 : (Jvm.Cond.methodLink "DigestTrees" (207 : Nat) ({ cls := "DigestTrees", name := "digestLeaf", desc := "(LDigestTrees$Mill;ILDigestTrees$Bytes;[B)V" } : Jvm.MethodName)) ∈ wsG := in_tables2 (List.mem_of_getElem? (i := 140) rfl) rfl
theorem wk_381 : (Jvm.Cond.static ({ cls := "DigestTrees", name := "digestLeaf", desc := "(LDigestTrees$Mill;ILDigestTrees$Bytes;[B)V" } : Jvm.MethodName)) ∈ wsG := in_tables2 (List.mem_of_getElem? (i := 141) rfl) rfl
theorem wk_382 : (Jvm.Cond.code ({ cls := "DigestTrees", name := "digestLeaf", desc := "(LDigestTrees$Mill;ILDigestTrees$Bytes;[B)V" } : Jvm.MethodName) prog_1_method_34_code (4 : Nat) (Option.none : Option Jvm.ClassFile.FieldType)) ∈ wsG := in_tables2 (List.mem_of_getElem? (i := 142) rfl) rfl
theorem wk_383 : (Jvm.Cond.fieldLink "DigestTrees" (259 : Nat) "DigestTrees" "WIDE_START" "[I") ∈ wsG := in_tables2 (List.mem_of_getElem? (i := 143) rfl) rfl
theorem wk_384 : (Jvm.Cond.methodLink "DigestTrees" (262 : Nat) ({ cls := "DigestTrees$Mill", name := "begin", desc := "([I)V" } : Jvm.MethodName)) ∈ wsG := in_tables2 (List.mem_of_getElem? (i := 144) rfl) rfl
theorem wk_385 : (Jvm.Cond.methodLink "DigestTrees" (269 : Nat) ({ cls := "DigestTrees$Mill", name := "takeByte", desc := "(I)V" } : Jvm.MethodName)) ∈ wsG := in_tables2 (List.mem_of_getElem? (i := 145) rfl) rfl
theorem wk_386 : (Jvm.Cond.methodLink "DigestTrees" (265 : Nat) ({ cls := "DigestTrees$Mill", name := "take", desc := "([BI)V" } : Jvm.MethodName)) ∈ wsG := in_tables2 (List.mem_of_getElem? (i := 146) rfl) rfl
theorem wk_387 : (Jvm.Cond.methodLink "DigestTrees" (267 : Nat) ({ cls := "DigestTrees$Mill", name := "finish", desc := "()V" } : Jvm.MethodName)) ∈ wsG := in_tables2 (List.mem_of_getElem? (i := 147) rfl) rfl
theorem wk_388 : (Jvm.Cond.methodLink "DigestTrees" (215 : Nat) ({ cls := "DigestTrees$Mill", name := "write", desc := "([BI)V" } : Jvm.MethodName)) ∈ wsG := in_tables2 (List.mem_of_getElem? (i := 148) rfl) rfl
theorem wk_389 : (Jvm.Cond.methodLink "DigestTreesLaw" (91 : Nat) ({ cls := "DigestTrees", name := "change", desc := "(III)I" } : Jvm.MethodName)) ∈ wsG := in_tables2 (List.mem_of_getElem? (i := 149) rfl) rfl
theorem wk_390 : (Jvm.Cond.instanceMethod ({ cls := "DigestTrees", name := "change", desc := "(III)I" } : Jvm.MethodName)) ∈ wsG := in_tables2 (List.mem_of_getElem? (i := 150) rfl) rfl
theorem wk_391 : (Jvm.Cond.selects "DigestTrees" ({ cls := "DigestTrees", name := "change", desc := "(III)I" } : Jvm.MethodName) ({ cls := "DigestTrees", name := "change", desc := "(III)I" } : Jvm.MethodName)) ∈ wsG := in_tables2 (List.mem_of_getElem? (i := 151) rfl) rfl
theorem wk_392 : (Jvm.Cond.code ({ cls := "DigestTrees", name := "change", desc := "(III)I" } : Jvm.MethodName) prog_1_method_14_code (5 : Nat) (Option.some Jvm.ClassFile.FieldType.int)) ∈ wsG := in_tables2 (List.mem_of_getElem? (i := 152) rfl) rfl
theorem wk_393 : (Jvm.Cond.methodLink "DigestTrees" (178 : Nat) ({ cls := "DigestTrees$Tree", name := "has", desc := "(I)Z" } : Jvm.MethodName)) ∈ wsG := in_tables2 (List.mem_of_getElem? (i := 153) rfl) rfl
theorem wk_394 : (Jvm.Cond.instanceMethod ({ cls := "DigestTrees$Tree", name := "has", desc := "(I)Z" } : Jvm.MethodName)) ∈ wsG := in_tables2 (List.mem_of_getElem? (i := 154) rfl) rfl
theorem wk_395 : (Jvm.Cond.selects "DigestTrees$Tree" ({ cls := "DigestTrees$Tree", name := "has", desc := "(I)Z" } : Jvm.MethodName) ({ cls := "DigestTrees$Tree", name := "has", desc := "(I)Z" } : Jvm.MethodName)) ∈ wsG := in_tables2 (List.mem_of_getElem? (i := 155) rfl) rfl
theorem wk_396 : (Jvm.Cond.code ({ cls := "DigestTrees$Tree", name := "has", desc := "(I)Z" } : Jvm.MethodName) prog_8_method_2_code (2 : Nat) (Option.some Jvm.ClassFile.FieldType.boolean)) ∈ wsG := in_tables2 (List.mem_of_getElem? (i := 156) rfl) rfl
theorem wk_397 : (Jvm.Cond.methodLink "DigestTreesLaw" (96 : Nat) ({ cls := "DigestTrees", name := "root", desc := "(I)I" } : Jvm.MethodName)) ∈ wsG := in_tables2 (List.mem_of_getElem? (i := 157) rfl) rfl
theorem wk_398 : (Jvm.Cond.instanceMethod ({ cls := "DigestTrees", name := "root", desc := "(I)I" } : Jvm.MethodName)) ∈ wsG := in_tables2 (List.mem_of_getElem? (i := 158) rfl) rfl
theorem wk_399 : (Jvm.Cond.selects "DigestTrees" ({ cls := "DigestTrees", name := "root", desc := "(I)I" } : Jvm.MethodName) ({ cls := "DigestTrees", name := "root", desc := "(I)I" } : Jvm.MethodName)) ∈ wsG := in_tables2 (List.mem_of_getElem? (i := 159) rfl) rfl
theorem wk_400 : (Jvm.Cond.code ({ cls := "DigestTrees", name := "root", desc := "(I)I" } : Jvm.MethodName) prog_1_method_15_code (3 : Nat) (Option.some Jvm.ClassFile.FieldType.int)) ∈ wsG := in_tables2 (List.mem_of_getElem? (i := 160) rfl) rfl
theorem wk_401 : (Jvm.Cond.methodLink "DigestTrees" (182 : Nat) ({ cls := "DigestTrees$Tree", name := "climb", desc := "(LDigestTrees$Mill;)[B" } : Jvm.MethodName)) ∈ wsG := in_tables2 (List.mem_of_getElem? (i := 161) rfl) rfl
theorem wk_402 : (Jvm.Cond.instanceMethod ({ cls := "DigestTrees$Tree", name := "climb", desc := "(LDigestTrees$Mill;)[B" } : Jvm.MethodName)) ∈ wsG := in_tables2 (List.mem_of_getElem? (i := 162) rfl) rfl
theorem wk_403 : (Jvm.Cond.selects "DigestTrees$Tree" ({ cls := "DigestTrees$Tree", name := "climb", desc := "(LDigestTrees$Mill;)[B" } : Jvm.MethodName) ({ cls := "DigestTrees$Tree", name := "climb", desc := "(LDigestTrees$Mill;)[B" } : Jvm.MethodName)) ∈ wsG := in_tables2 (List.mem_of_getElem? (i := 163) rfl) rfl
theorem wk_404 : (Jvm.Cond.code ({ cls := "DigestTrees$Tree", name := "climb", desc := "(LDigestTrees$Mill;)[B" } : Jvm.MethodName) prog_8_method_3_code (6 : Nat) (Option.some (Jvm.ClassFile.FieldType.array Jvm.ClassFile.FieldType.byte))) ∈ wsG := in_tables2 (List.mem_of_getElem? (i := 164) rfl) rfl
theorem wk_405 : (Jvm.Cond.methodLink "DigestTrees$Tree" (24 : Nat) ({ cls := "java/util/Arrays", name := "fill", desc := "([BB)V" } : Jvm.MethodName)) ∈ wsG := in_tables2 (List.mem_of_getElem? (i := 165) rfl) rfl
theorem wk_407 : (Jvm.Cond.static ({ cls := "DigestTrees", name := "digestPair", desc := "(LDigestTrees$Mill;[B[B[B)V" } : Jvm.MethodName)) ∈ wsG := in_tables2 (List.mem_of_getElem? (i := 167) rfl) rfl
theorem wk_408 : (Jvm.Cond.code ({ cls := "DigestTrees", name := "digestPair", desc := "(LDigestTrees$Mill;[B[B[B)V" } : Jvm.MethodName) prog_1_method_35_code (4 : Nat) (Option.none : Option Jvm.ClassFile.FieldType)) ∈ wsG := in_tables2 (List.mem_of_getElem? (i := 168) rfl) rfl
theorem wk_409 : (Jvm.Cond.methodLink "DigestTrees$Tree" (34 : Nat) ({ cls := "java/lang/System", name := "arraycopy", desc := "(Ljava/lang/Object;ILjava/lang/Object;II)V" } : Jvm.MethodName)) ∈ wsG := in_tables2 (List.mem_of_getElem? (i := 169) rfl) rfl
theorem wk_410 : (Jvm.Cond.methodLink "DigestTrees" (186 : Nat) ({ cls := "DigestTrees", name := "digestRoot", desc := "(LDigestTrees$Mill;I[B)V" } : Jvm.MethodName)) ∈ wsG := in_tables2 (List.mem_of_getElem? (i := 170) rfl) rfl
theorem wk_411 : (Jvm.Cond.static ({ cls := "DigestTrees", name := "digestRoot", desc := "(LDigestTrees$Mill;I[B)V" } : Jvm.MethodName)) ∈ wsG := in_tables2 (List.mem_of_getElem? (i := 171) rfl) rfl
theorem wk_412 : (Jvm.Cond.code ({ cls := "DigestTrees", name := "digestRoot", desc := "(LDigestTrees$Mill;I[B)V" } : Jvm.MethodName) prog_1_method_36_code (3 : Nat) (Option.none : Option Jvm.ClassFile.FieldType)) ∈ wsG := in_tables2 (List.mem_of_getElem? (i := 172) rfl) rfl
theorem wk_413 : (Jvm.Cond.methodLink "DigestTrees" (192 : Nat) ({ cls := "DigestTrees$Shelf", name := "add", desc := "(IILDigestTrees$Mill;)I" } : Jvm.MethodName)) ∈ wsG := in_tables2 (List.mem_of_getElem? (i := 173) rfl) rfl
theorem wk_414 : (Jvm.Cond.methodLink "DigestTreesLaw" (100 : Nat) ({ cls := "DigestTrees", name := "drop", desc := "(I)I" } : Jvm.MethodName)) ∈ wsG := in_tables2 (List.mem_of_getElem? (i := 174) rfl) rfl
theorem wk_415 : (Jvm.Cond.instanceMethod ({ cls := "DigestTrees", name := "drop", desc := "(I)I" } : Jvm.MethodName)) ∈ wsG := in_tables2 (List.mem_of_getElem? (i := 175) rfl) rfl
theorem wk_416 : (Jvm.Cond.selects "DigestTrees" ({ cls := "DigestTrees", name := "drop", desc := "(I)I" } : Jvm.MethodName) ({ cls := "DigestTrees", name := "drop", desc := "(I)I" } : Jvm.MethodName)) ∈ wsG := in_tables2 (List.mem_of_getElem? (i := 176) rfl) rfl
theorem wk_417 : (Jvm.Cond.code ({ cls := "DigestTrees", name := "drop", desc := "(I)I" } : Jvm.MethodName) prog_1_method_16_code (3 : Nat) (Option.some Jvm.ClassFile.FieldType.int)) ∈ wsG := in_tables2 (List.mem_of_getElem? (i := 177) rfl) rfl
theorem wk_418 : (Jvm.Cond.methodLink "DigestTreesLaw" (104 : Nat) ({ cls := "DigestTrees", name := "prove", desc := "(II)I" } : Jvm.MethodName)) ∈ wsG := in_tables2 (List.mem_of_getElem? (i := 178) rfl) rfl
theorem wk_419 : (Jvm.Cond.instanceMethod ({ cls := "DigestTrees", name := "prove", desc := "(II)I" } : Jvm.MethodName)) ∈ wsG := in_tables2 (List.mem_of_getElem? (i := 179) rfl) rfl
theorem wk_420 : (Jvm.Cond.selects "DigestTrees" ({ cls := "DigestTrees", name := "prove", desc := "(II)I" } : Jvm.MethodName) ({ cls := "DigestTrees", name := "prove", desc := "(II)I" } : Jvm.MethodName)) ∈ wsG := in_tables2 (List.mem_of_getElem? (i := 180) rfl) rfl
theorem wk_421 : (Jvm.Cond.code ({ cls := "DigestTrees", name := "prove", desc := "(II)I" } : Jvm.MethodName) prog_1_method_17_code (3 : Nat) (Option.some Jvm.ClassFile.FieldType.int)) ∈ wsG := in_tables2 (List.mem_of_getElem? (i := 181) rfl) rfl
theorem wk_422 : (Jvm.Cond.methodLink "DigestTrees" (196 : Nat) ({ cls := "DigestTrees$Proof", name := "gather", desc := "(LDigestTrees$Tree;I)V" } : Jvm.MethodName)) ∈ wsG := in_tables2 (List.mem_of_getElem? (i := 182) rfl) rfl
theorem wk_423 : (Jvm.Cond.instanceMethod ({ cls := "DigestTrees$Proof", name := "gather", desc := "(LDigestTrees$Tree;I)V" } : Jvm.MethodName)) ∈ wsG := in_tables2 (List.mem_of_getElem? (i := 183) rfl) rfl
theorem wk_424 : (Jvm.Cond.selects "DigestTrees$Proof" ({ cls := "DigestTrees$Proof", name := "gather", desc := "(LDigestTrees$Tree;I)V" } : Jvm.MethodName) ({ cls := "DigestTrees$Proof", name := "gather", desc := "(LDigestTrees$Tree;I)V" } : Jvm.MethodName)) ∈ wsG := in_tables2 (List.mem_of_getElem? (i := 184) rfl) rfl
theorem wk_425 : (Jvm.Cond.code ({ cls := "DigestTrees$Proof", name := "gather", desc := "(LDigestTrees$Tree;I)V" } : Jvm.MethodName) prog_5_method_3_code (7 : Nat) (Option.none : Option Jvm.ClassFile.FieldType)) ∈ wsG := in_tables2 (List.mem_of_getElem? (i := 185) rfl) rfl
theorem wk_426 : (Jvm.Cond.methodLink "DigestTrees$Proof" (26 : Nat) ({ cls := "java/lang/System", name := "arraycopy", desc := "(Ljava/lang/Object;ILjava/lang/Object;II)V" } : Jvm.MethodName)) ∈ wsG := in_tables2 (List.mem_of_getElem? (i := 186) rfl) rfl
theorem wk_427 : (Jvm.Cond.methodLink "DigestTreesLaw" (108 : Nat) ({ cls := "DigestTrees", name := "alter", desc := "(III)I" } : Jvm.MethodName)) ∈ wsG := in_tables2 (List.mem_of_getElem? (i := 187) rfl) rfl
theorem wk_428 : (Jvm.Cond.instanceMethod ({ cls := "DigestTrees", name := "alter", desc := "(III)I" } : Jvm.MethodName)) ∈ wsG := in_tables2 (List.mem_of_getElem? (i := 188) rfl) rfl
theorem wk_429 : (Jvm.Cond.selects "DigestTrees" ({ cls := "DigestTrees", name := "alter", desc := "(III)I" } : Jvm.MethodName) ({ cls := "DigestTrees", name := "alter", desc := "(III)I" } : Jvm.MethodName)) ∈ wsG := in_tables2 (List.mem_of_getElem? (i := 189) rfl) rfl
theorem wk_430 : (Jvm.Cond.code ({ cls := "DigestTrees", name := "alter", desc := "(III)I" } : Jvm.MethodName) prog_1_method_18_code (5 : Nat) (Option.some Jvm.ClassFile.FieldType.int)) ∈ wsG := in_tables2 (List.mem_of_getElem? (i := 190) rfl) rfl
theorem wk_431 : (Jvm.Cond.methodLink "DigestTreesLaw" (112 : Nat) ({ cls := "DigestTrees", name := "check", desc := "(IIII)I" } : Jvm.MethodName)) ∈ wsG := in_tables2 (List.mem_of_getElem? (i := 191) rfl) rfl
theorem wk_432 : (Jvm.Cond.instanceMethod ({ cls := "DigestTrees", name := "check", desc := "(IIII)I" } : Jvm.MethodName)) ∈ wsG := in_tables2 (List.mem_of_getElem? (i := 192) rfl) rfl
theorem wk_433 : (Jvm.Cond.selects "DigestTrees" ({ cls := "DigestTrees", name := "check", desc := "(IIII)I" } : Jvm.MethodName) ({ cls := "DigestTrees", name := "check", desc := "(IIII)I" } : Jvm.MethodName)) ∈ wsG := in_tables2 (List.mem_of_getElem? (i := 193) rfl) rfl
theorem wk_434 : (Jvm.Cond.code ({ cls := "DigestTrees", name := "check", desc := "(IIII)I" } : Jvm.MethodName) prog_1_method_19_code (5 : Nat) (Option.some Jvm.ClassFile.FieldType.int)) ∈ wsG := in_tables2 (List.mem_of_getElem? (i := 194) rfl) rfl
theorem wk_435 : (Jvm.Cond.methodLink "DigestTrees" (204 : Nat) ({ cls := "DigestTrees$Proof", name := "due", desc := "(II)I" } : Jvm.MethodName)) ∈ wsG := in_tables2 (List.mem_of_getElem? (i := 195) rfl) rfl
theorem wk_436 : (Jvm.Cond.static ({ cls := "DigestTrees$Proof", name := "due", desc := "(II)I" } : Jvm.MethodName)) ∈ wsG := in_tables2 (List.mem_of_getElem? (i := 196) rfl) rfl
theorem wk_437 : (Jvm.Cond.code ({ cls := "DigestTrees$Proof", name := "due", desc := "(II)I" } : Jvm.MethodName) prog_5_method_2_code (5 : Nat) (Option.some Jvm.ClassFile.FieldType.int)) ∈ wsG := in_tables2 (List.mem_of_getElem? (i := 197) rfl) rfl
theorem wk_438 : (Jvm.Cond.methodLink "DigestTrees" (211 : Nat) ({ cls := "DigestTrees$Proof", name := "follow", desc := "(LDigestTrees$Mill;II[B)V" } : Jvm.MethodName)) ∈ wsG := in_tables2 (List.mem_of_getElem? (i := 198) rfl) rfl
theorem wk_439 : (Jvm.Cond.instanceMethod ({ cls := "DigestTrees$Proof", name := "follow", desc := "(LDigestTrees$Mill;II[B)V" } : Jvm.MethodName)) ∈ wsG := in_tables2 (List.mem_of_getElem? (i := 199) rfl) rfl
theorem wk_440 : (Jvm.Cond.selects "DigestTrees$Proof" ({ cls := "DigestTrees$Proof", name := "follow", desc := "(LDigestTrees$Mill;II[B)V" } : Jvm.MethodName) ({ cls := "DigestTrees$Proof", name := "follow", desc := "(LDigestTrees$Mill;II[B)V" } : Jvm.MethodName)) ∈ wsG := in_tables2 (List.mem_of_getElem? (i := 200) rfl) rfl
theorem wk_441 : (Jvm.Cond.code ({ cls := "DigestTrees$Proof", name := "follow", desc := "(LDigestTrees$Mill;II[B)V" } : Jvm.MethodName) prog_5_method_4_code (9 : Nat) (Option.none : Option Jvm.ClassFile.FieldType)) ∈ wsG := in_tables2 (List.mem_of_getElem? (i := 201) rfl) rfl
theorem wk_443 : (Jvm.Cond.methodLink "DigestTreesLaw" (117 : Nat) ({ cls := "DigestTrees", name := "keep", desc := "()I" } : Jvm.MethodName)) ∈ wsG := in_tables2 (List.mem_of_getElem? (i := 203) rfl) rfl
theorem wk_444 : (Jvm.Cond.instanceMethod ({ cls := "DigestTrees", name := "keep", desc := "()I" } : Jvm.MethodName)) ∈ wsG := in_tables2 (List.mem_of_getElem? (i := 204) rfl) rfl
theorem wk_445 : (Jvm.Cond.selects "DigestTrees" ({ cls := "DigestTrees", name := "keep", desc := "()I" } : Jvm.MethodName) ({ cls := "DigestTrees", name := "keep", desc := "()I" } : Jvm.MethodName)) ∈ wsG := in_tables2 (List.mem_of_getElem? (i := 205) rfl) rfl
theorem wk_446 : (Jvm.Cond.code ({ cls := "DigestTrees", name := "keep", desc := "()I" } : Jvm.MethodName) prog_1_method_20_code (3 : Nat) (Option.some Jvm.ClassFile.FieldType.int)) ∈ wsG := in_tables2 (List.mem_of_getElem? (i := 206) rfl) rfl
theorem wk_447 : (Jvm.Cond.methodLink "DigestTrees" (219 : Nat) ({ cls := "DigestTrees", name := "spotOf", desc := "(LDigestTrees$Bytes;)I" } : Jvm.MethodName)) ∈ wsG := in_tables2 (List.mem_of_getElem? (i := 207) rfl) rfl
theorem wk_449 : (Jvm.Cond.instanceMethod ({ cls := "DigestTrees", name := "spotOf", desc := "(LDigestTrees$Bytes;)I" } : Jvm.MethodName)) ∈ wsG := in_tables2 (List.mem_of_getElem? (i := 209) rfl) rfl
theorem wk_450 : (Jvm.Cond.code ({ cls := "DigestTrees", name := "spotOf", desc := "(LDigestTrees$Bytes;)I" } : Jvm.MethodName) prog_1_method_33_code (2 : Nat) (Option.some Jvm.ClassFile.FieldType.int)) ∈ wsG := in_tables2 (List.mem_of_getElem? (i := 210) rfl) rfl
theorem wk_451 : (Jvm.Cond.methodLink "DigestTrees" (223 : Nat) ({ cls := "DigestTrees$Store", name := "seek", desc := "(LDigestTrees$Bytes;I)I" } : Jvm.MethodName)) ∈ wsG := in_tables2 (List.mem_of_getElem? (i := 211) rfl) rfl
theorem wk_452 : (Jvm.Cond.instanceMethod ({ cls := "DigestTrees$Store", name := "seek", desc := "(LDigestTrees$Bytes;I)I" } : Jvm.MethodName)) ∈ wsG := in_tables2 (List.mem_of_getElem? (i := 212) rfl) rfl
theorem wk_453 : (Jvm.Cond.selects "DigestTrees$Store" ({ cls := "DigestTrees$Store", name := "seek", desc := "(LDigestTrees$Bytes;I)I" } : Jvm.MethodName) ({ cls := "DigestTrees$Store", name := "seek", desc := "(LDigestTrees$Bytes;I)I" } : Jvm.MethodName)) ∈ wsG := in_tables2 (List.mem_of_getElem? (i := 213) rfl) rfl
theorem wk_454 : (Jvm.Cond.code ({ cls := "DigestTrees$Store", name := "seek", desc := "(LDigestTrees$Bytes;I)I" } : Jvm.MethodName) prog_7_method_2_code (4 : Nat) (Option.some Jvm.ClassFile.FieldType.int)) ∈ wsG := in_tables2 (List.mem_of_getElem? (i := 214) rfl) rfl
theorem wk_456 : (Jvm.Cond.methodLink "DigestTrees" (234 : Nat) ({ cls := "DigestTrees$Store", name := "add", desc := "(LDigestTrees$Bytes;I)I" } : Jvm.MethodName)) ∈ wsG := in_tables2 (List.mem_of_getElem? (i := 216) rfl) rfl
theorem wk_457 : (Jvm.Cond.instanceMethod ({ cls := "DigestTrees$Store", name := "add", desc := "(LDigestTrees$Bytes;I)I" } : Jvm.MethodName)) ∈ wsG := in_tables2 (List.mem_of_getElem? (i := 217) rfl) rfl
theorem wk_458 : (Jvm.Cond.selects "DigestTrees$Store" ({ cls := "DigestTrees$Store", name := "add", desc := "(LDigestTrees$Bytes;I)I" } : Jvm.MethodName) ({ cls := "DigestTrees$Store", name := "add", desc := "(LDigestTrees$Bytes;I)I" } : Jvm.MethodName)) ∈ wsG := in_tables2 (List.mem_of_getElem? (i := 218) rfl) rfl
theorem wk_459 : (Jvm.Cond.code ({ cls := "DigestTrees$Store", name := "add", desc := "(LDigestTrees$Bytes;I)I" } : Jvm.MethodName) prog_7_method_3_code (4 : Nat) (Option.some Jvm.ClassFile.FieldType.int)) ∈ wsG := in_tables2 (List.mem_of_getElem? (i := 219) rfl) rfl
theorem wk_460 : (Jvm.Cond.methodLink "DigestTrees$Store" (43 : Nat) ({ cls := "java/lang/System", name := "arraycopy", desc := "(Ljava/lang/Object;ILjava/lang/Object;II)V" } : Jvm.MethodName)) ∈ wsG := in_tables2 (List.mem_of_getElem? (i := 220) rfl) rfl
theorem wk_461 : (Jvm.Cond.methodLink "DigestTreesLaw" (121 : Nat) ({ cls := "DigestTrees", name := "find", desc := "()I" } : Jvm.MethodName)) ∈ wsG := in_tables2 (List.mem_of_getElem? (i := 221) rfl) rfl
theorem wk_462 : (Jvm.Cond.instanceMethod ({ cls := "DigestTrees", name := "find", desc := "()I" } : Jvm.MethodName)) ∈ wsG := in_tables2 (List.mem_of_getElem? (i := 222) rfl) rfl
theorem wk_463 : (Jvm.Cond.selects "DigestTrees" ({ cls := "DigestTrees", name := "find", desc := "()I" } : Jvm.MethodName) ({ cls := "DigestTrees", name := "find", desc := "()I" } : Jvm.MethodName)) ∈ wsG := in_tables2 (List.mem_of_getElem? (i := 223) rfl) rfl
theorem wk_464 : (Jvm.Cond.code ({ cls := "DigestTrees", name := "find", desc := "()I" } : Jvm.MethodName) prog_1_method_21_code (2 : Nat) (Option.some Jvm.ClassFile.FieldType.int)) ∈ wsG := in_tables2 (List.mem_of_getElem? (i := 224) rfl) rfl
theorem wk_465 : (Jvm.Cond.methodLink "DigestTreesLaw" (128 : Nat) ({ cls := "DigestTrees", name := "about", desc := "(I)I" } : Jvm.MethodName)) ∈ wsG := in_tables2 (List.mem_of_getElem? (i := 225) rfl) rfl
theorem wk_466 : (Jvm.Cond.instanceMethod ({ cls := "DigestTrees", name := "about", desc := "(I)I" } : Jvm.MethodName)) ∈ wsG := in_tables2 (List.mem_of_getElem? (i := 226) rfl) rfl
theorem wk_467 : (Jvm.Cond.selects "DigestTrees" ({ cls := "DigestTrees", name := "about", desc := "(I)I" } : Jvm.MethodName) ({ cls := "DigestTrees", name := "about", desc := "(I)I" } : Jvm.MethodName)) ∈ wsG := in_tables2 (List.mem_of_getElem? (i := 227) rfl) rfl
theorem wk_468 : (Jvm.Cond.code ({ cls := "DigestTrees", name := "about", desc := "(I)I" } : Jvm.MethodName) prog_1_method_23_code (2 : Nat) (Option.some Jvm.ClassFile.FieldType.int)) ∈ wsG := in_tables2 (List.mem_of_getElem? (i := 228) rfl) rfl
theorem wk_469 : (Jvm.Cond.methodLink "DigestTrees" (252 : Nat) ({ cls := "DigestTrees$Store", name := "pairsThatMeet", desc := "()I" } : Jvm.MethodName)) ∈ wsG := in_tables2 (List.mem_of_getElem? (i := 229) rfl) rfl
theorem wk_470 : (Jvm.Cond.instanceMethod ({ cls := "DigestTrees$Store", name := "pairsThatMeet", desc := "()I" } : Jvm.MethodName)) ∈ wsG := in_tables2 (List.mem_of_getElem? (i := 230) rfl) rfl
theorem wk_471 : (Jvm.Cond.selects "DigestTrees$Store" ({ cls := "DigestTrees$Store", name := "pairsThatMeet", desc := "()I" } : Jvm.MethodName) ({ cls := "DigestTrees$Store", name := "pairsThatMeet", desc := "()I" } : Jvm.MethodName)) ∈ wsG := in_tables2 (List.mem_of_getElem? (i := 231) rfl) rfl
theorem wk_472 : (Jvm.Cond.code ({ cls := "DigestTrees$Store", name := "pairsThatMeet", desc := "()I" } : Jvm.MethodName) prog_7_method_4_code (4 : Nat) (Option.some Jvm.ClassFile.FieldType.int)) ∈ wsG := in_tables2 (List.mem_of_getElem? (i := 232) rfl) rfl
theorem wk_473 : (Jvm.Cond.methodLink "DigestTreesLaw" (132 : Nat) ({ cls := "DigestTrees", name := "clear", desc := "()I" } : Jvm.MethodName)) ∈ wsG := in_tables2 (List.mem_of_getElem? (i := 233) rfl) rfl
theorem wk_474 : (Jvm.Cond.instanceMethod ({ cls := "DigestTrees", name := "clear", desc := "()I" } : Jvm.MethodName)) ∈ wsG := in_tables2 (List.mem_of_getElem? (i := 234) rfl) rfl
theorem wk_475 : (Jvm.Cond.selects "DigestTrees" ({ cls := "DigestTrees", name := "clear", desc := "()I" } : Jvm.MethodName) ({ cls := "DigestTrees", name := "clear", desc := "()I" } : Jvm.MethodName)) ∈ wsG := in_tables2 (List.mem_of_getElem? (i := 235) rfl) rfl
theorem wk_476 : (Jvm.Cond.code ({ cls := "DigestTrees", name := "clear", desc := "()I" } : Jvm.MethodName) prog_1_method_24_code (3 : Nat) (Option.some Jvm.ClassFile.FieldType.int)) ∈ wsG := in_tables2 (List.mem_of_getElem? (i := 236) rfl) rfl
theorem wk_477 : (Jvm.Cond.methodLink "DigestTreesLaw" (66 : Nat) ({ cls := "DigestTreesLaw", name := "read", desc := "(LDigestTrees;III[J)I" } : Jvm.MethodName)) ∈ wsG := in_tables2 (List.mem_of_getElem? (i := 237) rfl) rfl
theorem wk_478 : (Jvm.Cond.static ({ cls := "DigestTreesLaw", name := "read", desc := "(LDigestTrees;III[J)I" } : Jvm.MethodName)) ∈ wsG := in_tables2 (List.mem_of_getElem? (i := 238) rfl) rfl
theorem wk_479 : (Jvm.Cond.codeWith ({ cls := "DigestTreesLaw", name := "read", desc := "(LDigestTrees;III[J)I" } : Jvm.MethodName) method_3_code (6 : Nat) (Option.some Jvm.ClassFile.FieldType.int) [((0 : Nat), (11 : Nat), (14 : Nat), (13 : Nat))]) ∈ wsG := in_tables2 (List.mem_of_getElem? (i := 239) rfl) rfl
theorem wk_480 : (Jvm.Cond.classLink "DigestTreesLaw" (13 : Nat) "java/lang/ArrayIndexOutOfBoundsException") ∈ wsG := in_tables3 (List.mem_of_getElem? (i := 0) rfl) rfl
theorem wk_481 : (Jvm.Cond.instantiable "java/lang/ArrayIndexOutOfBoundsException" (6 : Nat)) ∈ wsG := in_tables3 (List.mem_of_getElem? (i := 1) rfl) rfl
theorem wk_482 : (Jvm.Cond.instanceMethod ({ cls := "java/lang/ArrayIndexOutOfBoundsException", name := "<init>", desc := "(Ljava/lang/String;)V" } : Jvm.MethodName)) ∈ wsG := in_tables3 (List.mem_of_getElem? (i := 2) rfl) rfl
theorem wk_483 : (Jvm.Cond.code ({ cls := "java/lang/ArrayIndexOutOfBoundsException", name := "<init>", desc := "(Ljava/lang/String;)V" } : Jvm.MethodName) prog_11_method_2_code (2 : Nat) (Option.none : Option Jvm.ClassFile.FieldType)) ∈ wsG := in_tables3 (List.mem_of_getElem? (i := 3) rfl) rfl
theorem wk_484 : (Jvm.Cond.methodLink "java/lang/ArrayIndexOutOfBoundsException" (7 : Nat) ({ cls := "java/lang/IndexOutOfBoundsException", name := "<init>", desc := "(Ljava/lang/String;)V" } : Jvm.MethodName)) ∈ wsG := in_tables3 (List.mem_of_getElem? (i := 4) rfl) rfl
theorem wk_485 : (Jvm.Cond.instanceMethod ({ cls := "java/lang/IndexOutOfBoundsException", name := "<init>", desc := "(Ljava/lang/String;)V" } : Jvm.MethodName)) ∈ wsG := in_tables3 (List.mem_of_getElem? (i := 5) rfl) rfl
theorem wk_486 : (Jvm.Cond.code ({ cls := "java/lang/IndexOutOfBoundsException", name := "<init>", desc := "(Ljava/lang/String;)V" } : Jvm.MethodName) prog_13_method_2_code (2 : Nat) (Option.none : Option Jvm.ClassFile.FieldType)) ∈ wsG := in_tables3 (List.mem_of_getElem? (i := 6) rfl) rfl
theorem wk_487 : (Jvm.Cond.methodLink "java/lang/IndexOutOfBoundsException" (7 : Nat) ({ cls := "java/lang/RuntimeException", name := "<init>", desc := "(Ljava/lang/String;)V" } : Jvm.MethodName)) ∈ wsG := in_tables3 (List.mem_of_getElem? (i := 7) rfl) rfl
theorem wk_488 : (Jvm.Cond.instanceMethod ({ cls := "java/lang/RuntimeException", name := "<init>", desc := "(Ljava/lang/String;)V" } : Jvm.MethodName)) ∈ wsG := in_tables3 (List.mem_of_getElem? (i := 8) rfl) rfl
theorem wk_489 : (Jvm.Cond.code ({ cls := "java/lang/RuntimeException", name := "<init>", desc := "(Ljava/lang/String;)V" } : Jvm.MethodName) prog_16_method_2_code (2 : Nat) (Option.none : Option Jvm.ClassFile.FieldType)) ∈ wsG := in_tables3 (List.mem_of_getElem? (i := 9) rfl) rfl
theorem wk_490 : (Jvm.Cond.methodLink "java/lang/RuntimeException" (7 : Nat) ({ cls := "java/lang/Exception", name := "<init>", desc := "(Ljava/lang/String;)V" } : Jvm.MethodName)) ∈ wsG := in_tables3 (List.mem_of_getElem? (i := 10) rfl) rfl
theorem wk_491 : (Jvm.Cond.instanceMethod ({ cls := "java/lang/Exception", name := "<init>", desc := "(Ljava/lang/String;)V" } : Jvm.MethodName)) ∈ wsG := in_tables3 (List.mem_of_getElem? (i := 11) rfl) rfl
theorem wk_492 : (Jvm.Cond.code ({ cls := "java/lang/Exception", name := "<init>", desc := "(Ljava/lang/String;)V" } : Jvm.MethodName) prog_12_method_2_code (2 : Nat) (Option.none : Option Jvm.ClassFile.FieldType)) ∈ wsG := in_tables3 (List.mem_of_getElem? (i := 12) rfl) rfl
theorem wk_493 : (Jvm.Cond.methodLink "java/lang/Exception" (7 : Nat) ({ cls := "java/lang/Throwable", name := "<init>", desc := "(Ljava/lang/String;)V" } : Jvm.MethodName)) ∈ wsG := in_tables3 (List.mem_of_getElem? (i := 13) rfl) rfl
theorem wk_494 : (Jvm.Cond.instanceMethod ({ cls := "java/lang/Throwable", name := "<init>", desc := "(Ljava/lang/String;)V" } : Jvm.MethodName)) ∈ wsG := in_tables3 (List.mem_of_getElem? (i := 14) rfl) rfl
theorem wk_495 : (Jvm.Cond.code ({ cls := "java/lang/Throwable", name := "<init>", desc := "(Ljava/lang/String;)V" } : Jvm.MethodName) prog_19_method_2_code (2 : Nat) (Option.none : Option Jvm.ClassFile.FieldType)) ∈ wsG := in_tables3 (List.mem_of_getElem? (i := 15) rfl) rfl
theorem wk_496 : (Jvm.Cond.methodLink "java/lang/Throwable" (1 : Nat) ({ cls := "java/lang/Object", name := "<init>", desc := "()V" } : Jvm.MethodName)) ∈ wsG := in_tables3 (List.mem_of_getElem? (i := 16) rfl) rfl
theorem wk_497 : (Jvm.Cond.fieldLink "java/lang/Throwable" (13 : Nat) "java/lang/Throwable" "UNASSIGNED_STACK" "[Ljava/lang/StackTraceElement;") ∈ wsG := in_tables3 (List.mem_of_getElem? (i := 17) rfl) rfl
theorem wk_499 : (Jvm.Cond.fieldLink "java/lang/Throwable" (20 : Nat) "java/lang/Throwable" "SUPPRESSED_SENTINEL" "Ljava/util/List;") ∈ wsG := in_tables3 (List.mem_of_getElem? (i := 19) rfl) rfl
theorem wk_501 : (Jvm.Cond.methodLink "java/lang/Throwable" (27 : Nat) ({ cls := "java/lang/Throwable", name := "fillInStackTrace", desc := "()Ljava/lang/Throwable;" } : Jvm.MethodName)) ∈ wsG := in_tables3 (List.mem_of_getElem? (i := 21) rfl) rfl
theorem wk_502 : (Jvm.Cond.instanceMethod ({ cls := "java/lang/Throwable", name := "fillInStackTrace", desc := "()Ljava/lang/Throwable;" } : Jvm.MethodName)) ∈ wsG := in_tables3 (List.mem_of_getElem? (i := 22) rfl) rfl
theorem wk_503 : (Jvm.Cond.sameMethod "java/lang/Throwable" "java/lang/Throwable" "fillInStackTrace" "()Ljava/lang/Throwable;") ∈ wsG := in_tables3 (List.mem_of_getElem? (i := 23) rfl) rfl
theorem wk_504 : (Jvm.Cond.selects "java/lang/ArrayIndexOutOfBoundsException" ({ cls := "java/lang/Throwable", name := "fillInStackTrace", desc := "()Ljava/lang/Throwable;" } : Jvm.MethodName) ({ cls := "java/lang/Throwable", name := "fillInStackTrace", desc := "()Ljava/lang/Throwable;" } : Jvm.MethodName)) ∈ wsG := in_tables3 (List.mem_of_getElem? (i := 24) rfl) rfl
theorem wk_505 : (Jvm.Cond.selects "java/lang/NullPointerException" ({ cls := "java/lang/Throwable", name := "fillInStackTrace", desc := "()Ljava/lang/Throwable;" } : Jvm.MethodName) ({ cls := "java/lang/NullPointerException", name := "fillInStackTrace", desc := "()Ljava/lang/Throwable;" } : Jvm.MethodName)) ∈ wsG := in_tables3 (List.mem_of_getElem? (i := 25) rfl) rfl
theorem wk_506 : (Jvm.Cond.instanceMethod ({ cls := "java/lang/NullPointerException", name := "fillInStackTrace", desc := "()Ljava/lang/Throwable;" } : Jvm.MethodName)) ∈ wsG := in_tables3 (List.mem_of_getElem? (i := 26) rfl) rfl
theorem wk_507 : (Jvm.Cond.codeSync ({ cls := "java/lang/NullPointerException", name := "fillInStackTrace", desc := "()Ljava/lang/Throwable;" } : Jvm.MethodName) prog_15_method_3_code (1 : Nat) (Option.some (Jvm.ClassFile.FieldType.object "java/lang/Throwable"))) ∈ wsG := in_tables3 (List.mem_of_getElem? (i := 27) rfl) rfl
theorem wk_508 : (Jvm.Cond.methodLink "java/lang/NullPointerException" (16 : Nat) ({ cls := "java/lang/NullPointerException", name := "getExtendedNPEMessage", desc := "()Ljava/lang/String;" } : Jvm.MethodName)) ∈ wsG := in_tables3 (List.mem_of_getElem? (i := 28) rfl) rfl
theorem wk_510 : (Jvm.Cond.instanceMethod ({ cls := "java/lang/NullPointerException", name := "getExtendedNPEMessage", desc := "()Ljava/lang/String;" } : Jvm.MethodName)) ∈ wsG := in_tables3 (List.mem_of_getElem? (i := 30) rfl) rfl
theorem wk_511 : (Jvm.Cond.instantiable "java/lang/NullPointerException" (8 : Nat)) ∈ wsG := in_tables3 (List.mem_of_getElem? (i := 31) rfl) rfl
theorem wk_512 : (Jvm.Cond.native ({ cls := "java/lang/NullPointerException", name := "getExtendedNPEMessage", desc := "()Ljava/lang/String;" } : Jvm.MethodName)) ∈ wsG := in_tables3 (List.mem_of_getElem? (i := 32) rfl) rfl
theorem wk_513 : (Jvm.Cond.methodLink "java/lang/NullPointerException" (24 : Nat) ({ cls := "java/lang/RuntimeException", name := "fillInStackTrace", desc := "()Ljava/lang/Throwable;" } : Jvm.MethodName)) ∈ wsG := in_tables3 (List.mem_of_getElem? (i := 33) rfl) rfl
theorem wk_514 : (Jvm.Cond.sameMethod "java/lang/RuntimeException" "java/lang/Throwable" "fillInStackTrace" "()Ljava/lang/Throwable;") ∈ wsG := in_tables3 (List.mem_of_getElem? (i := 34) rfl) rfl
theorem wk_516 : (Jvm.Cond.codeSync ({ cls := "java/lang/Throwable", name := "fillInStackTrace", desc := "()Ljava/lang/Throwable;" } : Jvm.MethodName) prog_19_method_18_code (1 : Nat) (Option.some (Jvm.ClassFile.FieldType.object "java/lang/Throwable"))) ∈ wsG := in_tables3 (List.mem_of_getElem? (i := 36) rfl) rfl
theorem wk_517 : (Jvm.Cond.methodLink "java/lang/Throwable" (202 : Nat) ({ cls := "java/lang/Throwable", name := "fillInStackTrace", desc := "(I)Ljava/lang/Throwable;" } : Jvm.MethodName)) ∈ wsG := in_tables3 (List.mem_of_getElem? (i := 37) rfl) rfl
theorem wk_519 : (Jvm.Cond.instanceMethod ({ cls := "java/lang/Throwable", name := "fillInStackTrace", desc := "(I)Ljava/lang/Throwable;" } : Jvm.MethodName)) ∈ wsG := in_tables3 (List.mem_of_getElem? (i := 39) rfl) rfl
theorem wk_520 : (Jvm.Cond.instantiable "java/lang/Throwable" (6 : Nat)) ∈ wsG := in_tables3 (List.mem_of_getElem? (i := 40) rfl) rfl
theorem wk_521 : (Jvm.Cond.native ({ cls := "java/lang/Throwable", name := "fillInStackTrace", desc := "(I)Ljava/lang/Throwable;" } : Jvm.MethodName)) ∈ wsG := in_tables3 (List.mem_of_getElem? (i := 41) rfl) rfl
theorem wk_522 : (Jvm.Cond.fieldLink "java/lang/Throwable" (198 : Nat) "java/lang/Throwable" "backtrace" "Ljava/lang/Object;") ∈ wsG := in_tables3 (List.mem_of_getElem? (i := 42) rfl) rfl
theorem wk_523 : (Jvm.Cond.fieldLink "java/lang/Throwable" (31 : Nat) "java/lang/Throwable" "detailMessage" "Ljava/lang/String;") ∈ wsG := in_tables3 (List.mem_of_getElem? (i := 43) rfl) rfl
theorem wk_524 : (Jvm.Cond.fieldLink "java/lang/Throwable" (7 : Nat) "java/lang/Throwable" "cause" "Ljava/lang/Throwable;") ∈ wsG := in_tables3 (List.mem_of_getElem? (i := 44) rfl) rfl
theorem wk_525 : (Jvm.Cond.fieldLink "java/lang/Throwable" (17 : Nat) "java/lang/Throwable" "stackTrace" "[Ljava/lang/StackTraceElement;") ∈ wsG := in_tables3 (List.mem_of_getElem? (i := 45) rfl) rfl
theorem wk_526 : (Jvm.Cond.fieldLink "java/lang/Throwable" (24 : Nat) "java/lang/Throwable" "suppressedExceptions" "Ljava/util/List;") ∈ wsG := in_tables3 (List.mem_of_getElem? (i := 46) rfl) rfl
theorem wk_527 : (Jvm.Cond.lays "java/lang/ArrayIndexOutOfBoundsException" "java/lang/Throwable" "backtrace" "Ljava/lang/Object;") ∈ wsG := in_tables3 (List.mem_of_getElem? (i := 47) rfl) rfl
theorem wk_529 : (Jvm.Cond.lays "java/lang/ArrayIndexOutOfBoundsException" "java/lang/Throwable" "detailMessage" "Ljava/lang/String;") ∈ wsG := in_tables3 (List.mem_of_getElem? (i := 49) rfl) rfl
theorem wk_531 : (Jvm.Cond.lays "java/lang/ArrayIndexOutOfBoundsException" "java/lang/Throwable" "cause" "Ljava/lang/Throwable;") ∈ wsG := in_tables3 (List.mem_of_getElem? (i := 51) rfl) rfl
theorem wk_533 : (Jvm.Cond.lays "java/lang/ArrayIndexOutOfBoundsException" "java/lang/Throwable" "stackTrace" "[Ljava/lang/StackTraceElement;") ∈ wsG := in_tables3 (List.mem_of_getElem? (i := 53) rfl) rfl
theorem wk_535 : (Jvm.Cond.lays "java/lang/ArrayIndexOutOfBoundsException" "java/lang/Throwable" "depth" "I") ∈ wsG := in_tables3 (List.mem_of_getElem? (i := 55) rfl) rfl
theorem wk_537 : (Jvm.Cond.lays "java/lang/ArrayIndexOutOfBoundsException" "java/lang/Throwable" "suppressedExceptions" "Ljava/util/List;") ∈ wsG := in_tables3 (List.mem_of_getElem? (i := 57) rfl) rfl
theorem wk_539 : (Jvm.Cond.superclass "java/lang/ArrayIndexOutOfBoundsException" "java/lang/IndexOutOfBoundsException") ∈ wsG := in_tables3 (List.mem_of_getElem? (i := 59) rfl) rfl
theorem wk_549 : (Jvm.Cond.selects "java/lang/ArrayIndexOutOfBoundsException" ({ cls := "java/lang/Throwable", name := "fillInStackTrace", desc := "(I)Ljava/lang/Throwable;" } : Jvm.MethodName) ({ cls := "java/lang/Throwable", name := "fillInStackTrace", desc := "(I)Ljava/lang/Throwable;" } : Jvm.MethodName)) ∈ wsG := in_tables3 (List.mem_of_getElem? (i := 69) rfl) rfl
theorem wk_550 : (Jvm.Cond.lays "java/lang/Throwable" "java/lang/Throwable" "cause" "Ljava/lang/Throwable;") ∈ wsG := in_tables3 (List.mem_of_getElem? (i := 70) rfl) rfl
theorem wk_551 : (Jvm.Cond.lays "java/lang/Throwable" "java/lang/Throwable" "stackTrace" "[Ljava/lang/StackTraceElement;") ∈ wsG := in_tables3 (List.mem_of_getElem? (i := 71) rfl) rfl
theorem wk_552 : (Jvm.Cond.lays "java/lang/Throwable" "java/lang/Throwable" "suppressedExceptions" "Ljava/util/List;") ∈ wsG := in_tables3 (List.mem_of_getElem? (i := 72) rfl) rfl
theorem wk_553 : (Jvm.Cond.lays "java/lang/Throwable" "java/lang/Throwable" "detailMessage" "Ljava/lang/String;") ∈ wsG := in_tables3 (List.mem_of_getElem? (i := 73) rfl) rfl
theorem wk_554 : (Jvm.Cond.lays "java/lang/Throwable" "java/lang/Throwable" "backtrace" "Ljava/lang/Object;") ∈ wsG := in_tables3 (List.mem_of_getElem? (i := 74) rfl) rfl
theorem wk_555 : (Jvm.Cond.fieldLink "java/lang/Throwable" (198 : Nat) "java/lang/Throwable" "backtrace" "Ljava/lang/Object;") ∈ wsG := in_tables3 (List.mem_of_getElem? (i := 75) rfl) rfl
theorem wk_556 : (Jvm.Cond.superclass "java/lang/Throwable" "java/lang/Object") ∈ wsG := in_tables3 (List.mem_of_getElem? (i := 76) rfl) rfl
theorem wk_557 : (Jvm.Cond.instanceMethod ({ cls := "java/lang/Throwable", name := "<init>", desc := "()V" } : Jvm.MethodName)) ∈ wsG := in_tables3 (List.mem_of_getElem? (i := 77) rfl) rfl
theorem wk_558 : (Jvm.Cond.code ({ cls := "java/lang/Throwable", name := "<init>", desc := "()V" } : Jvm.MethodName) prog_19_method_1_code (1 : Nat) (Option.none : Option Jvm.ClassFile.FieldType)) ∈ wsG := in_tables3 (List.mem_of_getElem? (i := 78) rfl) rfl
theorem wk_559 : (Jvm.Cond.instantiable "java/lang/String" (4 : Nat)) ∈ wsG := in_tables3 (List.mem_of_getElem? (i := 79) rfl) rfl
theorem wk_560 : (Jvm.Cond.laysFinal "java/lang/String" "java/lang/String" "value" "[B") ∈ wsG := in_tables3 (List.mem_of_getElem? (i := 80) rfl) rfl
theorem wk_562 : (Jvm.Cond.laysFinal "java/lang/String" "java/lang/String" "coder" "B") ∈ wsG := in_tables3 (List.mem_of_getElem? (i := 82) rfl) rfl
theorem wk_564 : (Jvm.Cond.methodLink "DigestTreesLaw" (7 : Nat) ({ cls := "DigestTrees", name := "read", desc := "(III)J" } : Jvm.MethodName)) ∈ wsG := in_tables3 (List.mem_of_getElem? (i := 84) rfl) rfl
theorem wk_565 : (Jvm.Cond.instanceMethod ({ cls := "DigestTrees", name := "read", desc := "(III)J" } : Jvm.MethodName)) ∈ wsG := in_tables3 (List.mem_of_getElem? (i := 85) rfl) rfl
theorem wk_566 : (Jvm.Cond.selects "DigestTrees" ({ cls := "DigestTrees", name := "read", desc := "(III)J" } : Jvm.MethodName) ({ cls := "DigestTrees", name := "read", desc := "(III)J" } : Jvm.MethodName)) ∈ wsG := in_tables3 (List.mem_of_getElem? (i := 86) rfl) rfl
theorem wk_567 : (Jvm.Cond.code ({ cls := "DigestTrees", name := "read", desc := "(III)J" } : Jvm.MethodName) prog_1_method_9_code (8 : Nat) (Option.some Jvm.ClassFile.FieldType.long)) ∈ wsG := in_tables3 (List.mem_of_getElem? (i := 87) rfl) rfl
theorem wk_568 : (Jvm.Cond.constantLong "DigestTrees" (128 : Nat) (-101 : Int64)) ∈ wsG := in_tables3 (List.mem_of_getElem? (i := 88) rfl) rfl
theorem wk_569 : (Jvm.Cond.fieldLink "DigestTrees" (130 : Nat) "DigestTrees" "WIDTH_BYTES" "[I") ∈ wsG := in_tables3 (List.mem_of_getElem? (i := 89) rfl) rfl
theorem wk_571 : (Jvm.Cond.constantLong "DigestTrees" (133 : Nat) (-102 : Int64)) ∈ wsG := in_tables3 (List.mem_of_getElem? (i := 91) rfl) rfl
theorem wk_572 : (Jvm.Cond.classLink "DigestTrees" (135 : Nat) "java/lang/ArrayIndexOutOfBoundsException") ∈ wsG := in_tables3 (List.mem_of_getElem? (i := 92) rfl) rfl
theorem wk_574 : (Jvm.Cond.methodLink "DigestTrees" (139 : Nat) ({ cls := "java/lang/ArrayIndexOutOfBoundsException", name := "<init>", desc := "(Ljava/lang/String;)V" } : Jvm.MethodName)) ∈ wsG := in_tables3 (List.mem_of_getElem? (i := 94) rfl) rfl
theorem wk_575 : (Jvm.Cond.methodLink "DigestTrees" (146 : Nat) ({ cls := "DigestTrees", name := "ofWidth", desc := "(IJ)J" } : Jvm.MethodName)) ∈ wsG := in_tables3 (List.mem_of_getElem? (i := 95) rfl) rfl
theorem wk_576 : (Jvm.Cond.static ({ cls := "DigestTrees", name := "ofWidth", desc := "(IJ)J" } : Jvm.MethodName)) ∈ wsG := in_tables3 (List.mem_of_getElem? (i := 96) rfl) rfl
theorem wk_577 : (Jvm.Cond.code ({ cls := "DigestTrees", name := "ofWidth", desc := "(IJ)J" } : Jvm.MethodName) prog_1_method_30_code (3 : Nat) (Option.some Jvm.ClassFile.FieldType.long)) ∈ wsG := in_tables3 (List.mem_of_getElem? (i := 97) rfl) rfl
theorem wk_578 : (Jvm.Cond.methodLink "DigestTreesLaw" (75 : Nat) ({ cls := "DigestTreesLaw", name := "plan", desc := "(LDigestTrees;II[J)I" } : Jvm.MethodName)) ∈ wsG := in_tables3 (List.mem_of_getElem? (i := 98) rfl) rfl
theorem wk_579 : (Jvm.Cond.static ({ cls := "DigestTreesLaw", name := "plan", desc := "(LDigestTrees;II[J)I" } : Jvm.MethodName)) ∈ wsG := in_tables3 (List.mem_of_getElem? (i := 99) rfl) rfl
theorem wk_580 : (Jvm.Cond.codeWith ({ cls := "DigestTreesLaw", name := "plan", desc := "(LDigestTrees;II[J)I" } : Jvm.MethodName) method_4_code (5 : Nat) (Option.some Jvm.ClassFile.FieldType.int) [((0 : Nat), (9 : Nat), (12 : Nat), (13 : Nat))]) ∈ wsG := in_tables3 (List.mem_of_getElem? (i := 100) rfl) rfl
theorem wk_581 : (Jvm.Cond.methodLink "DigestTreesLaw" (15 : Nat) ({ cls := "DigestTrees", name := "plan", desc := "(II)J" } : Jvm.MethodName)) ∈ wsG := in_tables3 (List.mem_of_getElem? (i := 101) rfl) rfl
theorem wk_582 : (Jvm.Cond.instanceMethod ({ cls := "DigestTrees", name := "plan", desc := "(II)J" } : Jvm.MethodName)) ∈ wsG := in_tables3 (List.mem_of_getElem? (i := 102) rfl) rfl
theorem wk_583 : (Jvm.Cond.selects "DigestTrees" ({ cls := "DigestTrees", name := "plan", desc := "(II)J" } : Jvm.MethodName) ({ cls := "DigestTrees", name := "plan", desc := "(II)J" } : Jvm.MethodName)) ∈ wsG := in_tables3 (List.mem_of_getElem? (i := 103) rfl) rfl
theorem wk_584 : (Jvm.Cond.code ({ cls := "DigestTrees", name := "plan", desc := "(II)J" } : Jvm.MethodName) prog_1_method_10_code (3 : Nat) (Option.some Jvm.ClassFile.FieldType.long)) ∈ wsG := in_tables3 (List.mem_of_getElem? (i := 104) rfl) rfl
theorem wk_586 : (Jvm.Cond.methodLink "DigestTrees" (152 : Nat) ({ cls := "DigestTrees$Shelf", name := "wordOfLast", desc := "(II)I" } : Jvm.MethodName)) ∈ wsG := in_tables3 (List.mem_of_getElem? (i := 106) rfl) rfl
theorem wk_587 : (Jvm.Cond.instanceMethod ({ cls := "DigestTrees$Shelf", name := "wordOfLast", desc := "(II)I" } : Jvm.MethodName)) ∈ wsG := in_tables3 (List.mem_of_getElem? (i := 107) rfl) rfl
theorem wk_588 : (Jvm.Cond.selects "DigestTrees$Shelf" ({ cls := "DigestTrees$Shelf", name := "wordOfLast", desc := "(II)I" } : Jvm.MethodName) ({ cls := "DigestTrees$Shelf", name := "wordOfLast", desc := "(II)I" } : Jvm.MethodName)) ∈ wsG := in_tables3 (List.mem_of_getElem? (i := 108) rfl) rfl
theorem wk_589 : (Jvm.Cond.code ({ cls := "DigestTrees$Shelf", name := "wordOfLast", desc := "(II)I" } : Jvm.MethodName) prog_6_method_5_code (3 : Nat) (Option.some Jvm.ClassFile.FieldType.int)) ∈ wsG := in_tables3 (List.mem_of_getElem? (i := 109) rfl) rfl
theorem wk_591 : (Jvm.Cond.methodLink "DigestTreesLaw" (83 : Nat) ({ cls := "DigestTreesLaw", name := "table", desc := "(LDigestTrees;I[J)I" } : Jvm.MethodName)) ∈ wsG := in_tables3 (List.mem_of_getElem? (i := 111) rfl) rfl
theorem wk_592 : (Jvm.Cond.static ({ cls := "DigestTreesLaw", name := "table", desc := "(LDigestTrees;I[J)I" } : Jvm.MethodName)) ∈ wsG := in_tables3 (List.mem_of_getElem? (i := 112) rfl) rfl
theorem wk_593 : (Jvm.Cond.codeWith ({ cls := "DigestTreesLaw", name := "table", desc := "(LDigestTrees;I[J)I" } : Jvm.MethodName) method_5_code (4 : Nat) (Option.some Jvm.ClassFile.FieldType.int) [((0 : Nat), (9 : Nat), (12 : Nat), (13 : Nat))]) ∈ wsG := in_tables3 (List.mem_of_getElem? (i := 113) rfl) rfl
theorem wk_594 : (Jvm.Cond.methodLink "DigestTreesLaw" (19 : Nat) ({ cls := "DigestTrees", name := "table", desc := "(I)I" } : Jvm.MethodName)) ∈ wsG := in_tables3 (List.mem_of_getElem? (i := 114) rfl) rfl
theorem wk_595 : (Jvm.Cond.instanceMethod ({ cls := "DigestTrees", name := "table", desc := "(I)I" } : Jvm.MethodName)) ∈ wsG := in_tables3 (List.mem_of_getElem? (i := 115) rfl) rfl
theorem wk_596 : (Jvm.Cond.selects "DigestTrees" ({ cls := "DigestTrees", name := "table", desc := "(I)I" } : Jvm.MethodName) ({ cls := "DigestTrees", name := "table", desc := "(I)I" } : Jvm.MethodName)) ∈ wsG := in_tables3 (List.mem_of_getElem? (i := 116) rfl) rfl
theorem wk_597 : (Jvm.Cond.code ({ cls := "DigestTrees", name := "table", desc := "(I)I" } : Jvm.MethodName) prog_1_method_12_code (2 : Nat) (Option.some Jvm.ClassFile.FieldType.int)) ∈ wsG := in_tables3 (List.mem_of_getElem? (i := 117) rfl) rfl
theorem wk_599 : (Jvm.Cond.fieldLink "DigestTrees" (162 : Nat) "DigestTrees" "K" "[I") ∈ wsG := in_tables3 (List.mem_of_getElem? (i := 119) rfl) rfl
theorem wk_600 : (Jvm.Cond.methodLink "DigestTreesLaw" (125 : Nat) ({ cls := "DigestTreesLaw", name := "row", desc := "(LDigestTrees;II[J)I" } : Jvm.MethodName)) ∈ wsG := in_tables3 (List.mem_of_getElem? (i := 120) rfl) rfl
theorem wk_601 : (Jvm.Cond.static ({ cls := "DigestTreesLaw", name := "row", desc := "(LDigestTrees;II[J)I" } : Jvm.MethodName)) ∈ wsG := in_tables3 (List.mem_of_getElem? (i := 121) rfl) rfl
theorem wk_602 : (Jvm.Cond.codeWith ({ cls := "DigestTreesLaw", name := "row", desc := "(LDigestTrees;II[J)I" } : Jvm.MethodName) method_6_code (5 : Nat) (Option.some Jvm.ClassFile.FieldType.int) [((0 : Nat), (10 : Nat), (13 : Nat), (27 : Nat)), ((0 : Nat), (10 : Nat), (17 : Nat), (13 : Nat))]) ∈ wsG := in_tables3 (List.mem_of_getElem? (i := 122) rfl) rfl
theorem wk_603 : (Jvm.Cond.classLink "DigestTreesLaw" (27 : Nat) "java/lang/NullPointerException") ∈ wsG := in_tables3 (List.mem_of_getElem? (i := 123) rfl) rfl
theorem wk_604 : (Jvm.Cond.instanceMethod ({ cls := "java/lang/NullPointerException", name := "<init>", desc := "()V" } : Jvm.MethodName)) ∈ wsG := in_tables3 (List.mem_of_getElem? (i := 124) rfl) rfl
theorem wk_605 : (Jvm.Cond.code ({ cls := "java/lang/NullPointerException", name := "<init>", desc := "()V" } : Jvm.MethodName) prog_15_method_1_code (1 : Nat) (Option.none : Option Jvm.ClassFile.FieldType)) ∈ wsG := in_tables3 (List.mem_of_getElem? (i := 125) rfl) rfl
theorem wk_606 : (Jvm.Cond.methodLink "java/lang/NullPointerException" (1 : Nat) ({ cls := "java/lang/RuntimeException", name := "<init>", desc := "()V" } : Jvm.MethodName)) ∈ wsG := in_tables3 (List.mem_of_getElem? (i := 126) rfl) rfl
theorem wk_607 : (Jvm.Cond.instanceMethod ({ cls := "java/lang/RuntimeException", name := "<init>", desc := "()V" } : Jvm.MethodName)) ∈ wsG := in_tables3 (List.mem_of_getElem? (i := 127) rfl) rfl
theorem wk_608 : (Jvm.Cond.code ({ cls := "java/lang/RuntimeException", name := "<init>", desc := "()V" } : Jvm.MethodName) prog_16_method_1_code (1 : Nat) (Option.none : Option Jvm.ClassFile.FieldType)) ∈ wsG := in_tables3 (List.mem_of_getElem? (i := 128) rfl) rfl
theorem wk_609 : (Jvm.Cond.methodLink "java/lang/RuntimeException" (1 : Nat) ({ cls := "java/lang/Exception", name := "<init>", desc := "()V" } : Jvm.MethodName)) ∈ wsG := in_tables3 (List.mem_of_getElem? (i := 129) rfl) rfl
theorem wk_610 : (Jvm.Cond.instanceMethod ({ cls := "java/lang/Exception", name := "<init>", desc := "()V" } : Jvm.MethodName)) ∈ wsG := in_tables3 (List.mem_of_getElem? (i := 130) rfl) rfl
theorem wk_611 : (Jvm.Cond.code ({ cls := "java/lang/Exception", name := "<init>", desc := "()V" } : Jvm.MethodName) prog_12_method_1_code (1 : Nat) (Option.none : Option Jvm.ClassFile.FieldType)) ∈ wsG := in_tables3 (List.mem_of_getElem? (i := 131) rfl) rfl
theorem wk_612 : (Jvm.Cond.methodLink "java/lang/Exception" (1 : Nat) ({ cls := "java/lang/Throwable", name := "<init>", desc := "()V" } : Jvm.MethodName)) ∈ wsG := in_tables3 (List.mem_of_getElem? (i := 132) rfl) rfl
theorem wk_613 : (Jvm.Cond.fieldLink "java/lang/NullPointerException" (10 : Nat) "java/lang/NullPointerException" "extendedMessageState" "I") ∈ wsG := in_tables3 (List.mem_of_getElem? (i := 133) rfl) rfl
theorem wk_614 : (Jvm.Cond.fieldLink "java/lang/NullPointerException" (20 : Nat) "java/lang/NullPointerException" "extendedMessage" "Ljava/lang/String;") ∈ wsG := in_tables3 (List.mem_of_getElem? (i := 134) rfl) rfl
theorem wk_615 : (Jvm.Cond.lays "java/lang/NullPointerException" "java/lang/NullPointerException" "extendedMessageState" "I") ∈ wsG := in_tables3 (List.mem_of_getElem? (i := 135) rfl) rfl
theorem wk_617 : (Jvm.Cond.lays "java/lang/NullPointerException" "java/lang/NullPointerException" "extendedMessage" "Ljava/lang/String;") ∈ wsG := in_tables3 (List.mem_of_getElem? (i := 137) rfl) rfl
theorem wk_619 : (Jvm.Cond.lays "java/lang/NullPointerException" "java/lang/Throwable" "backtrace" "Ljava/lang/Object;") ∈ wsG := in_tables3 (List.mem_of_getElem? (i := 139) rfl) rfl
theorem wk_620 : (Jvm.Cond.lays "java/lang/NullPointerException" "java/lang/Throwable" "detailMessage" "Ljava/lang/String;") ∈ wsG := in_tables3 (List.mem_of_getElem? (i := 140) rfl) rfl
theorem wk_621 : (Jvm.Cond.lays "java/lang/NullPointerException" "java/lang/Throwable" "cause" "Ljava/lang/Throwable;") ∈ wsG := in_tables3 (List.mem_of_getElem? (i := 141) rfl) rfl
theorem wk_622 : (Jvm.Cond.lays "java/lang/NullPointerException" "java/lang/Throwable" "stackTrace" "[Ljava/lang/StackTraceElement;") ∈ wsG := in_tables3 (List.mem_of_getElem? (i := 142) rfl) rfl
theorem wk_623 : (Jvm.Cond.lays "java/lang/NullPointerException" "java/lang/Throwable" "depth" "I") ∈ wsG := in_tables3 (List.mem_of_getElem? (i := 143) rfl) rfl
theorem wk_624 : (Jvm.Cond.lays "java/lang/NullPointerException" "java/lang/Throwable" "suppressedExceptions" "Ljava/util/List;") ∈ wsG := in_tables3 (List.mem_of_getElem? (i := 144) rfl) rfl
theorem wk_625 : (Jvm.Cond.superclass "java/lang/NullPointerException" "java/lang/RuntimeException") ∈ wsG := in_tables3 (List.mem_of_getElem? (i := 145) rfl) rfl
theorem wk_627 : (Jvm.Cond.selects "java/lang/NullPointerException" ({ cls := "java/lang/Throwable", name := "fillInStackTrace", desc := "(I)Ljava/lang/Throwable;" } : Jvm.MethodName) ({ cls := "java/lang/Throwable", name := "fillInStackTrace", desc := "(I)Ljava/lang/Throwable;" } : Jvm.MethodName)) ∈ wsG := in_tables3 (List.mem_of_getElem? (i := 147) rfl) rfl
theorem wk_629 : (Jvm.Cond.methodLink "DigestTreesLaw" (23 : Nat) ({ cls := "DigestTrees", name := "row", desc := "(II)B" } : Jvm.MethodName)) ∈ wsG := in_tables3 (List.mem_of_getElem? (i := 149) rfl) rfl
theorem wk_630 : (Jvm.Cond.instanceMethod ({ cls := "DigestTrees", name := "row", desc := "(II)B" } : Jvm.MethodName)) ∈ wsG := in_tables3 (List.mem_of_getElem? (i := 150) rfl) rfl
theorem wk_631 : (Jvm.Cond.selects "DigestTrees" ({ cls := "DigestTrees", name := "row", desc := "(II)B" } : Jvm.MethodName) ({ cls := "DigestTrees", name := "row", desc := "(II)B" } : Jvm.MethodName)) ∈ wsG := in_tables3 (List.mem_of_getElem? (i := 151) rfl) rfl
theorem wk_632 : (Jvm.Cond.code ({ cls := "DigestTrees", name := "row", desc := "(II)B" } : Jvm.MethodName) prog_1_method_22_code (3 : Nat) (Option.some Jvm.ClassFile.FieldType.byte)) ∈ wsG := in_tables3 (List.mem_of_getElem? (i := 152) rfl) rfl
theorem wk_634 : (Jvm.Cond.classLink "DigestTrees" (238 : Nat) "java/lang/NullPointerException") ∈ wsG := in_tables3 (List.mem_of_getElem? (i := 154) rfl) rfl
theorem wk_636 : (Jvm.Cond.methodLink "DigestTrees" (242 : Nat) ({ cls := "java/lang/NullPointerException", name := "<init>", desc := "(Ljava/lang/String;)V" } : Jvm.MethodName)) ∈ wsG := in_tables3 (List.mem_of_getElem? (i := 156) rfl) rfl
theorem wk_637 : (Jvm.Cond.instanceMethod ({ cls := "java/lang/NullPointerException", name := "<init>", desc := "(Ljava/lang/String;)V" } : Jvm.MethodName)) ∈ wsG := in_tables3 (List.mem_of_getElem? (i := 157) rfl) rfl
theorem wk_638 : (Jvm.Cond.code ({ cls := "java/lang/NullPointerException", name := "<init>", desc := "(Ljava/lang/String;)V" } : Jvm.MethodName) prog_15_method_2_code (2 : Nat) (Option.none : Option Jvm.ClassFile.FieldType)) ∈ wsG := in_tables3 (List.mem_of_getElem? (i := 158) rfl) rfl
theorem wk_639 : (Jvm.Cond.methodLink "java/lang/NullPointerException" (7 : Nat) ({ cls := "java/lang/RuntimeException", name := "<init>", desc := "(Ljava/lang/String;)V" } : Jvm.MethodName)) ∈ wsG := in_tables3 (List.mem_of_getElem? (i := 159) rfl) rfl
theorem wk_641 : (Jvm.Cond.classLink "DigestTreesLaw" (30 : Nat) "DigestTreesModel") ∈ wsG := in_tables3 (List.mem_of_getElem? (i := 161) rfl) rfl
theorem wk_642 : (Jvm.Cond.instantiable "DigestTreesModel" (40 : Nat)) ∈ wsG := in_tables3 (List.mem_of_getElem? (i := 162) rfl) rfl
theorem wk_643 : (Jvm.Cond.methodLink "DigestTreesLaw" (32 : Nat) ({ cls := "DigestTreesModel", name := "<init>", desc := "()V" } : Jvm.MethodName)) ∈ wsG := in_tables3 (List.mem_of_getElem? (i := 163) rfl) rfl
theorem wk_644 : (Jvm.Cond.instanceMethod ({ cls := "DigestTreesModel", name := "<init>", desc := "()V" } : Jvm.MethodName)) ∈ wsG := in_tables3 (List.mem_of_getElem? (i := 164) rfl) rfl
theorem wk_645 : (Jvm.Cond.code ({ cls := "DigestTreesModel", name := "<init>", desc := "()V" } : Jvm.MethodName) prog_10_method_1_code (5 : Nat) (Option.none : Option Jvm.ClassFile.FieldType)) ∈ wsG := in_tables3 (List.mem_of_getElem? (i := 165) rfl) rfl
theorem wk_646 : (Jvm.Cond.methodLink "DigestTreesModel" (1 : Nat) ({ cls := "java/lang/Object", name := "<init>", desc := "()V" } : Jvm.MethodName)) ∈ wsG := in_tables3 (List.mem_of_getElem? (i := 166) rfl) rfl
theorem wk_647 : (Jvm.Cond.methodLink "DigestTreesModel" (101 : Nat) ({ cls := "DigestTreesModel", name := "cubeBits", desc := "(I)I" } : Jvm.MethodName)) ∈ wsG := in_tables3 (List.mem_of_getElem? (i := 167) rfl) rfl
theorem wk_649 : (Jvm.Cond.instanceMethod ({ cls := "DigestTreesModel", name := "cubeBits", desc := "(I)I" } : Jvm.MethodName)) ∈ wsG := in_tables3 (List.mem_of_getElem? (i := 169) rfl) rfl
theorem wk_650 : (Jvm.Cond.code ({ cls := "DigestTreesModel", name := "cubeBits", desc := "(I)I" } : Jvm.MethodName) prog_10_method_4_code (4 : Nat) (Option.some Jvm.ClassFile.FieldType.int)) ∈ wsG := in_tables3 (List.mem_of_getElem? (i := 170) rfl) rfl
theorem wk_651 : (Jvm.Cond.methodLink "DigestTreesModel" (114 : Nat) ({ cls := "DigestTreesModel", name := "multiply", desc := "([J[JII)V" } : Jvm.MethodName)) ∈ wsG := in_tables3 (List.mem_of_getElem? (i := 171) rfl) rfl
theorem wk_653 : (Jvm.Cond.instanceMethod ({ cls := "DigestTreesModel", name := "multiply", desc := "([J[JII)V" } : Jvm.MethodName)) ∈ wsG := in_tables3 (List.mem_of_getElem? (i := 173) rfl) rfl
theorem wk_654 : (Jvm.Cond.code ({ cls := "DigestTreesModel", name := "multiply", desc := "([J[JII)V" } : Jvm.MethodName) prog_10_method_2_code (7 : Nat) (Option.none : Option Jvm.ClassFile.FieldType)) ∈ wsG := in_tables3 (List.mem_of_getElem? (i := 174) rfl) rfl
theorem wk_655 : (Jvm.Cond.constantLong "DigestTreesModel" (112 : Nat) (65535 : Int64)) ∈ wsG := in_tables3 (List.mem_of_getElem? (i := 175) rfl) rfl
theorem wk_656 : (Jvm.Cond.methodLink "DigestTreesModel" (118 : Nat) ({ cls := "DigestTreesModel", name := "isUpTo", desc := "([JII)Z" } : Jvm.MethodName)) ∈ wsG := in_tables3 (List.mem_of_getElem? (i := 176) rfl) rfl
theorem wk_657 : (Jvm.Cond.static ({ cls := "DigestTreesModel", name := "isUpTo", desc := "([JII)Z" } : Jvm.MethodName)) ∈ wsG := in_tables3 (List.mem_of_getElem? (i := 177) rfl) rfl
theorem wk_658 : (Jvm.Cond.code ({ cls := "DigestTreesModel", name := "isUpTo", desc := "([JII)Z" } : Jvm.MethodName) prog_10_method_5_code (7 : Nat) (Option.some Jvm.ClassFile.FieldType.boolean)) ∈ wsG := in_tables3 (List.mem_of_getElem? (i := 178) rfl) rfl
theorem wk_659 : (Jvm.Cond.methodLink "DigestTreesModel" (105 : Nat) ({ cls := "DigestTreesModel", name := "squareBits", desc := "(II)I" } : Jvm.MethodName)) ∈ wsG := in_tables3 (List.mem_of_getElem? (i := 179) rfl) rfl
theorem wk_661 : (Jvm.Cond.instanceMethod ({ cls := "DigestTreesModel", name := "squareBits", desc := "(II)I" } : Jvm.MethodName)) ∈ wsG := in_tables3 (List.mem_of_getElem? (i := 181) rfl) rfl
theorem wk_662 : (Jvm.Cond.code ({ cls := "DigestTreesModel", name := "squareBits", desc := "(II)I" } : Jvm.MethodName) prog_10_method_3_code (4 : Nat) (Option.some Jvm.ClassFile.FieldType.int)) ∈ wsG := in_tables3 (List.mem_of_getElem? (i := 182) rfl) rfl
theorem wk_663 : (Jvm.Cond.methodLink "DigestTreesModel" (109 : Nat) ({ cls := "DigestTreesModel", name := "rowsBegin", desc := "()V" } : Jvm.MethodName)) ∈ wsG := in_tables3 (List.mem_of_getElem? (i := 183) rfl) rfl
theorem wk_665 : (Jvm.Cond.instanceMethod ({ cls := "DigestTreesModel", name := "rowsBegin", desc := "()V" } : Jvm.MethodName)) ∈ wsG := in_tables3 (List.mem_of_getElem? (i := 185) rfl) rfl
theorem wk_666 : (Jvm.Cond.code ({ cls := "DigestTreesModel", name := "rowsBegin", desc := "()V" } : Jvm.MethodName) prog_10_method_44_code (2 : Nat) (Option.none : Option Jvm.ClassFile.FieldType)) ∈ wsG := in_tables3 (List.mem_of_getElem? (i := 186) rfl) rfl
theorem wk_667 : (Jvm.Cond.fieldLink "DigestTreesModel" (143 : Nat) "DigestTreesModel" "thrown" "I") ∈ wsG := in_tables3 (List.mem_of_getElem? (i := 187) rfl) rfl
theorem wk_668 : (Jvm.Cond.fieldLink "DigestTreesModel" (7 : Nat) "DigestTreesModel" "table" "[I") ∈ wsG := in_tables3 (List.mem_of_getElem? (i := 188) rfl) rfl
theorem wk_669 : (Jvm.Cond.fieldLink "DigestTreesModel" (13 : Nat) "DigestTreesModel" "wideBegin" "[I") ∈ wsG := in_tables3 (List.mem_of_getElem? (i := 189) rfl) rfl
theorem wk_670 : (Jvm.Cond.fieldLink "DigestTreesModel" (16 : Nat) "DigestTreesModel" "narrowBegin" "[I") ∈ wsG := in_tables3 (List.mem_of_getElem? (i := 190) rfl) rfl
theorem wk_671 : (Jvm.Cond.fieldLink "DigestTreesModel" (19 : Nat) "DigestTreesModel" "places" "[J") ∈ wsG := in_tables3 (List.mem_of_getElem? (i := 191) rfl) rfl
theorem wk_672 : (Jvm.Cond.fieldLink "DigestTreesModel" (23 : Nat) "DigestTreesModel" "product" "[J") ∈ wsG := in_tables3 (List.mem_of_getElem? (i := 192) rfl) rfl
theorem wk_673 : (Jvm.Cond.fieldLink "DigestTreesModel" (26 : Nat) "DigestTreesModel" "square" "[J") ∈ wsG := in_tables3 (List.mem_of_getElem? (i := 193) rfl) rfl
theorem wk_674 : (Jvm.Cond.fieldLink "DigestTreesModel" (29 : Nat) "DigestTreesModel" "message" "[I") ∈ wsG := in_tables3 (List.mem_of_getElem? (i := 194) rfl) rfl
theorem wk_675 : (Jvm.Cond.fieldLink "DigestTreesModel" (122 : Nat) "DigestTreesModel" "size" "I") ∈ wsG := in_tables3 (List.mem_of_getElem? (i := 195) rfl) rfl
theorem wk_676 : (Jvm.Cond.fieldLink "DigestTreesModel" (32 : Nat) "DigestTreesModel" "h" "[I") ∈ wsG := in_tables3 (List.mem_of_getElem? (i := 196) rfl) rfl
theorem wk_677 : (Jvm.Cond.fieldLink "DigestTreesModel" (35 : Nat) "DigestTreesModel" "w" "[I") ∈ wsG := in_tables3 (List.mem_of_getElem? (i := 197) rfl) rfl
theorem wk_678 : (Jvm.Cond.fieldLink "DigestTreesModel" (137 : Nat) "DigestTreesModel" "gone" "I") ∈ wsG := in_tables3 (List.mem_of_getElem? (i := 198) rfl) rfl
theorem wk_679 : (Jvm.Cond.fieldLink "DigestTreesModel" (150 : Nat) "DigestTreesModel" "taped" "I") ∈ wsG := in_tables3 (List.mem_of_getElem? (i := 199) rfl) rfl
theorem wk_680 : (Jvm.Cond.fieldLink "DigestTreesModel" (38 : Nat) "DigestTreesModel" "tape" "[I") ∈ wsG := in_tables3 (List.mem_of_getElem? (i := 200) rfl) rfl
theorem wk_681 : (Jvm.Cond.fieldLink "DigestTreesModel" (153 : Nat) "DigestTreesModel" "keySize" "I") ∈ wsG := in_tables3 (List.mem_of_getElem? (i := 201) rfl) rfl
theorem wk_682 : (Jvm.Cond.fieldLink "DigestTreesModel" (41 : Nat) "DigestTreesModel" "key" "[I") ∈ wsG := in_tables3 (List.mem_of_getElem? (i := 202) rfl) rfl
theorem wk_683 : (Jvm.Cond.fieldLink "DigestTreesModel" (156 : Nat) "DigestTreesModel" "digests" "I") ∈ wsG := in_tables3 (List.mem_of_getElem? (i := 203) rfl) rfl
theorem wk_684 : (Jvm.Cond.fieldLink "DigestTreesModel" (44 : Nat) "DigestTreesModel" "sortOf" "[I") ∈ wsG := in_tables3 (List.mem_of_getElem? (i := 204) rfl) rfl
theorem wk_685 : (Jvm.Cond.fieldLink "DigestTreesModel" (47 : Nat) "DigestTreesModel" "blocksOf" "[I") ∈ wsG := in_tables3 (List.mem_of_getElem? (i := 205) rfl) rfl
theorem wk_686 : (Jvm.Cond.fieldLink "DigestTreesModel" (50 : Nat) "DigestTreesModel" "bytesOf" "[I") ∈ wsG := in_tables3 (List.mem_of_getElem? (i := 206) rfl) rfl
theorem wk_687 : (Jvm.Cond.fieldLink "DigestTreesModel" (53 : Nat) "DigestTreesModel" "plans" "[I") ∈ wsG := in_tables3 (List.mem_of_getElem? (i := 207) rfl) rfl
theorem wk_688 : (Jvm.Cond.fieldLink "DigestTreesModel" (56 : Nat) "DigestTreesModel" "padded" "[I") ∈ wsG := in_tables3 (List.mem_of_getElem? (i := 208) rfl) rfl
theorem wk_689 : (Jvm.Cond.fieldLink "DigestTreesModel" (59 : Nat) "DigestTreesModel" "keyBlocks" "[I") ∈ wsG := in_tables3 (List.mem_of_getElem? (i := 209) rfl) rfl
theorem wk_690 : (Jvm.Cond.fieldLink "DigestTreesModel" (62 : Nat) "DigestTreesModel" "streamBytes" "[I") ∈ wsG := in_tables3 (List.mem_of_getElem? (i := 210) rfl) rfl
theorem wk_691 : (Jvm.Cond.fieldLink "DigestTreesModel" (65 : Nat) "DigestTreesModel" "streamMany" "[I") ∈ wsG := in_tables3 (List.mem_of_getElem? (i := 211) rfl) rfl
theorem wk_692 : (Jvm.Cond.fieldLink "DigestTreesModel" (68 : Nat) "DigestTreesModel" "streamSort" "[I") ∈ wsG := in_tables3 (List.mem_of_getElem? (i := 212) rfl) rfl
theorem wk_693 : (Jvm.Cond.fieldLink "DigestTreesModel" (71 : Nat) "DigestTreesModel" "inner" "[I") ∈ wsG := in_tables3 (List.mem_of_getElem? (i := 213) rfl) rfl
theorem wk_694 : (Jvm.Cond.fieldLink "DigestTreesModel" (74 : Nat) "DigestTreesModel" "leaves" "[I") ∈ wsG := in_tables3 (List.mem_of_getElem? (i := 214) rfl) rfl
theorem wk_695 : (Jvm.Cond.fieldLink "DigestTreesModel" (77 : Nat) "DigestTreesModel" "leafKind" "[I") ∈ wsG := in_tables3 (List.mem_of_getElem? (i := 215) rfl) rfl
theorem wk_696 : (Jvm.Cond.fieldLink "DigestTreesModel" (80 : Nat) "DigestTreesModel" "leafSize" "[I") ∈ wsG := in_tables3 (List.mem_of_getElem? (i := 216) rfl) rfl
theorem wk_697 : (Jvm.Cond.fieldLink "DigestTreesModel" (83 : Nat) "DigestTreesModel" "leafBytes" "[I") ∈ wsG := in_tables3 (List.mem_of_getElem? (i := 217) rfl) rfl
theorem wk_698 : (Jvm.Cond.fieldLink "DigestTreesModel" (86 : Nat) "DigestTreesModel" "level" "[I") ∈ wsG := in_tables3 (List.mem_of_getElem? (i := 218) rfl) rfl
theorem wk_699 : (Jvm.Cond.fieldLink "DigestTreesModel" (208 : Nat) "DigestTreesModel" "proved" "I") ∈ wsG := in_tables3 (List.mem_of_getElem? (i := 219) rfl) rfl
theorem wk_700 : (Jvm.Cond.fieldLink "DigestTreesModel" (89 : Nat) "DigestTreesModel" "proof" "[I") ∈ wsG := in_tables3 (List.mem_of_getElem? (i := 220) rfl) rfl
theorem wk_701 : (Jvm.Cond.fieldLink "DigestTreesModel" (218 : Nat) "DigestTreesModel" "rows" "I") ∈ wsG := in_tables3 (List.mem_of_getElem? (i := 221) rfl) rfl
theorem wk_702 : (Jvm.Cond.fieldLink "DigestTreesModel" (92 : Nat) "DigestTreesModel" "rowSize" "[I") ∈ wsG := in_tables3 (List.mem_of_getElem? (i := 222) rfl) rfl
theorem wk_703 : (Jvm.Cond.fieldLink "DigestTreesModel" (95 : Nat) "DigestTreesModel" "rowBytes" "[I") ∈ wsG := in_tables3 (List.mem_of_getElem? (i := 223) rfl) rfl
theorem wk_704 : (Jvm.Cond.fieldLink "DigestTreesModel" (98 : Nat) "DigestTreesModel" "spots" "[I") ∈ wsG := in_tables3 (List.mem_of_getElem? (i := 224) rfl) rfl
theorem wk_705 : (Jvm.Cond.fieldLink "DigestTreesModel" (231 : Nat) "DigestTreesModel" "compared" "I") ∈ wsG := in_tables3 (List.mem_of_getElem? (i := 225) rfl) rfl
theorem wk_706 : (Jvm.Cond.fieldLink "DigestTreesModel" (215 : Nat) "DigestTreesModel" "looked" "I") ∈ wsG := in_tables3 (List.mem_of_getElem? (i := 226) rfl) rfl
theorem wk_707 : (Jvm.Cond.lays "DigestTreesModel" "DigestTreesModel" "thrown" "I") ∈ wsG := in_tables3 (List.mem_of_getElem? (i := 227) rfl) rfl
theorem wk_709 : (Jvm.Cond.laysFinal "DigestTreesModel" "DigestTreesModel" "table" "[I") ∈ wsG := in_tables3 (List.mem_of_getElem? (i := 229) rfl) rfl
theorem wk_711 : (Jvm.Cond.laysFinal "DigestTreesModel" "DigestTreesModel" "wideBegin" "[I") ∈ wsG := in_tables3 (List.mem_of_getElem? (i := 231) rfl) rfl
theorem wk_713 : (Jvm.Cond.laysFinal "DigestTreesModel" "DigestTreesModel" "narrowBegin" "[I") ∈ wsG := in_tables3 (List.mem_of_getElem? (i := 233) rfl) rfl
theorem wk_715 : (Jvm.Cond.laysFinal "DigestTreesModel" "DigestTreesModel" "places" "[J") ∈ wsG := in_tables3 (List.mem_of_getElem? (i := 235) rfl) rfl
theorem wk_717 : (Jvm.Cond.laysFinal "DigestTreesModel" "DigestTreesModel" "product" "[J") ∈ wsG := in_tables3 (List.mem_of_getElem? (i := 237) rfl) rfl
theorem wk_719 : (Jvm.Cond.laysFinal "DigestTreesModel" "DigestTreesModel" "square" "[J") ∈ wsG := in_tables3 (List.mem_of_getElem? (i := 239) rfl) rfl
theorem wk_721 : (Jvm.Cond.laysFinal "DigestTreesModel" "DigestTreesModel" "message" "[I") ∈ wsG := in_tables4 (List.mem_of_getElem? (i := 1) rfl) rfl
theorem wk_723 : (Jvm.Cond.lays "DigestTreesModel" "DigestTreesModel" "size" "I") ∈ wsG := in_tables4 (List.mem_of_getElem? (i := 3) rfl) rfl
theorem wk_725 : (Jvm.Cond.laysFinal "DigestTreesModel" "DigestTreesModel" "h" "[I") ∈ wsG := in_tables4 (List.mem_of_getElem? (i := 5) rfl) rfl
theorem wk_727 : (Jvm.Cond.laysFinal "DigestTreesModel" "DigestTreesModel" "w" "[I") ∈ wsG := in_tables4 (List.mem_of_getElem? (i := 7) rfl) rfl
theorem wk_729 : (Jvm.Cond.lays "DigestTreesModel" "DigestTreesModel" "gone" "I") ∈ wsG := in_tables4 (List.mem_of_getElem? (i := 9) rfl) rfl
theorem wk_731 : (Jvm.Cond.lays "DigestTreesModel" "DigestTreesModel" "taped" "I") ∈ wsG := in_tables4 (List.mem_of_getElem? (i := 11) rfl) rfl
theorem wk_733 : (Jvm.Cond.laysFinal "DigestTreesModel" "DigestTreesModel" "tape" "[I") ∈ wsG := in_tables4 (List.mem_of_getElem? (i := 13) rfl) rfl
theorem wk_735 : (Jvm.Cond.lays "DigestTreesModel" "DigestTreesModel" "keySize" "I") ∈ wsG := in_tables4 (List.mem_of_getElem? (i := 15) rfl) rfl
theorem wk_737 : (Jvm.Cond.laysFinal "DigestTreesModel" "DigestTreesModel" "key" "[I") ∈ wsG := in_tables4 (List.mem_of_getElem? (i := 17) rfl) rfl
theorem wk_739 : (Jvm.Cond.lays "DigestTreesModel" "DigestTreesModel" "digests" "I") ∈ wsG := in_tables4 (List.mem_of_getElem? (i := 19) rfl) rfl
theorem wk_741 : (Jvm.Cond.laysFinal "DigestTreesModel" "DigestTreesModel" "sortOf" "[I") ∈ wsG := in_tables4 (List.mem_of_getElem? (i := 21) rfl) rfl
theorem wk_743 : (Jvm.Cond.laysFinal "DigestTreesModel" "DigestTreesModel" "blocksOf" "[I") ∈ wsG := in_tables4 (List.mem_of_getElem? (i := 23) rfl) rfl
theorem wk_745 : (Jvm.Cond.laysFinal "DigestTreesModel" "DigestTreesModel" "bytesOf" "[I") ∈ wsG := in_tables4 (List.mem_of_getElem? (i := 25) rfl) rfl
theorem wk_747 : (Jvm.Cond.laysFinal "DigestTreesModel" "DigestTreesModel" "plans" "[I") ∈ wsG := in_tables4 (List.mem_of_getElem? (i := 27) rfl) rfl
theorem wk_749 : (Jvm.Cond.laysFinal "DigestTreesModel" "DigestTreesModel" "padded" "[I") ∈ wsG := in_tables4 (List.mem_of_getElem? (i := 29) rfl) rfl
theorem wk_751 : (Jvm.Cond.laysFinal "DigestTreesModel" "DigestTreesModel" "keyBlocks" "[I") ∈ wsG := in_tables4 (List.mem_of_getElem? (i := 31) rfl) rfl
theorem wk_753 : (Jvm.Cond.laysFinal "DigestTreesModel" "DigestTreesModel" "streamBytes" "[I") ∈ wsG := in_tables4 (List.mem_of_getElem? (i := 33) rfl) rfl
theorem wk_755 : (Jvm.Cond.laysFinal "DigestTreesModel" "DigestTreesModel" "streamMany" "[I") ∈ wsG := in_tables4 (List.mem_of_getElem? (i := 35) rfl) rfl
theorem wk_757 : (Jvm.Cond.laysFinal "DigestTreesModel" "DigestTreesModel" "streamSort" "[I") ∈ wsG := in_tables4 (List.mem_of_getElem? (i := 37) rfl) rfl
theorem wk_759 : (Jvm.Cond.laysFinal "DigestTreesModel" "DigestTreesModel" "inner" "[I") ∈ wsG := in_tables4 (List.mem_of_getElem? (i := 39) rfl) rfl
theorem wk_761 : (Jvm.Cond.laysFinal "DigestTreesModel" "DigestTreesModel" "leaves" "[I") ∈ wsG := in_tables4 (List.mem_of_getElem? (i := 41) rfl) rfl
theorem wk_763 : (Jvm.Cond.laysFinal "DigestTreesModel" "DigestTreesModel" "leafKind" "[I") ∈ wsG := in_tables4 (List.mem_of_getElem? (i := 43) rfl) rfl
theorem wk_765 : (Jvm.Cond.laysFinal "DigestTreesModel" "DigestTreesModel" "leafSize" "[I") ∈ wsG := in_tables4 (List.mem_of_getElem? (i := 45) rfl) rfl
theorem wk_767 : (Jvm.Cond.laysFinal "DigestTreesModel" "DigestTreesModel" "leafBytes" "[I") ∈ wsG := in_tables4 (List.mem_of_getElem? (i := 47) rfl) rfl
theorem wk_769 : (Jvm.Cond.laysFinal "DigestTreesModel" "DigestTreesModel" "level" "[I") ∈ wsG := in_tables4 (List.mem_of_getElem? (i := 49) rfl) rfl
theorem wk_771 : (Jvm.Cond.lays "DigestTreesModel" "DigestTreesModel" "proved" "I") ∈ wsG := in_tables4 (List.mem_of_getElem? (i := 51) rfl) rfl
theorem wk_773 : (Jvm.Cond.laysFinal "DigestTreesModel" "DigestTreesModel" "proof" "[I") ∈ wsG := in_tables4 (List.mem_of_getElem? (i := 53) rfl) rfl
theorem wk_775 : (Jvm.Cond.lays "DigestTreesModel" "DigestTreesModel" "rows" "I") ∈ wsG := in_tables4 (List.mem_of_getElem? (i := 55) rfl) rfl
theorem wk_777 : (Jvm.Cond.laysFinal "DigestTreesModel" "DigestTreesModel" "rowSize" "[I") ∈ wsG := in_tables4 (List.mem_of_getElem? (i := 57) rfl) rfl
theorem wk_779 : (Jvm.Cond.laysFinal "DigestTreesModel" "DigestTreesModel" "rowBytes" "[I") ∈ wsG := in_tables4 (List.mem_of_getElem? (i := 59) rfl) rfl
theorem wk_781 : (Jvm.Cond.laysFinal "DigestTreesModel" "DigestTreesModel" "spots" "[I") ∈ wsG := in_tables4 (List.mem_of_getElem? (i := 61) rfl) rfl
theorem wk_783 : (Jvm.Cond.lays "DigestTreesModel" "DigestTreesModel" "compared" "I") ∈ wsG := in_tables4 (List.mem_of_getElem? (i := 63) rfl) rfl
theorem wk_785 : (Jvm.Cond.lays "DigestTreesModel" "DigestTreesModel" "looked" "I") ∈ wsG := in_tables4 (List.mem_of_getElem? (i := 65) rfl) rfl
theorem wk_787 : (Jvm.Cond.superclass "DigestTreesModel" "java/lang/Object") ∈ wsG := in_tables4 (List.mem_of_getElem? (i := 67) rfl) rfl
theorem wk_788 : (Jvm.Cond.arrayClass Jvm.ClassFile.FieldType.long) ∈ wsG := in_tables4 (List.mem_of_getElem? (i := 68) rfl) rfl
theorem wk_789 : (Jvm.Cond.methodLink "DigestTreesLaw" (72 : Nat) ({ cls := "DigestTreesModel", name := "thrown", desc := "()I" } : Jvm.MethodName)) ∈ wsG := in_tables4 (List.mem_of_getElem? (i := 69) rfl) rfl
theorem wk_790 : (Jvm.Cond.instanceMethod ({ cls := "DigestTreesModel", name := "thrown", desc := "()I" } : Jvm.MethodName)) ∈ wsG := in_tables4 (List.mem_of_getElem? (i := 70) rfl) rfl
theorem wk_791 : (Jvm.Cond.selects "DigestTreesModel" ({ cls := "DigestTreesModel", name := "thrown", desc := "()I" } : Jvm.MethodName) ({ cls := "DigestTreesModel", name := "thrown", desc := "()I" } : Jvm.MethodName)) ∈ wsG := in_tables4 (List.mem_of_getElem? (i := 71) rfl) rfl
theorem wk_792 : (Jvm.Cond.code ({ cls := "DigestTreesModel", name := "thrown", desc := "()I" } : Jvm.MethodName) prog_10_method_11_code (1 : Nat) (Option.some Jvm.ClassFile.FieldType.int)) ∈ wsG := in_tables4 (List.mem_of_getElem? (i := 72) rfl) rfl
theorem wk_793 : (Jvm.Cond.methodLink "DigestTreesLaw" (39 : Nat) ({ cls := "DigestTreesModel", name := "feed", desc := "(IJ)I" } : Jvm.MethodName)) ∈ wsG := in_tables4 (List.mem_of_getElem? (i := 73) rfl) rfl
theorem wk_794 : (Jvm.Cond.instanceMethod ({ cls := "DigestTreesModel", name := "feed", desc := "(IJ)I" } : Jvm.MethodName)) ∈ wsG := in_tables4 (List.mem_of_getElem? (i := 74) rfl) rfl
theorem wk_795 : (Jvm.Cond.selects "DigestTreesModel" ({ cls := "DigestTreesModel", name := "feed", desc := "(IJ)I" } : Jvm.MethodName) ({ cls := "DigestTreesModel", name := "feed", desc := "(IJ)I" } : Jvm.MethodName)) ∈ wsG := in_tables4 (List.mem_of_getElem? (i := 75) rfl) rfl
theorem wk_796 : (Jvm.Cond.code ({ cls := "DigestTreesModel", name := "feed", desc := "(IJ)I" } : Jvm.MethodName) prog_10_method_13_code (5 : Nat) (Option.some Jvm.ClassFile.FieldType.int)) ∈ wsG := in_tables4 (List.mem_of_getElem? (i := 76) rfl) rfl
theorem wk_797 : (Jvm.Cond.methodLink "DigestTreesModel" (146 : Nat) ({ cls := "DigestTreesModel", name := "in", desc := "(III)Z" } : Jvm.MethodName)) ∈ wsG := in_tables4 (List.mem_of_getElem? (i := 77) rfl) rfl
theorem wk_798 : (Jvm.Cond.static ({ cls := "DigestTreesModel", name := "in", desc := "(III)Z" } : Jvm.MethodName)) ∈ wsG := in_tables4 (List.mem_of_getElem? (i := 78) rfl) rfl
theorem wk_799 : (Jvm.Cond.code ({ cls := "DigestTreesModel", name := "in", desc := "(III)Z" } : Jvm.MethodName) prog_10_method_12_code (3 : Nat) (Option.some Jvm.ClassFile.FieldType.boolean)) ∈ wsG := in_tables4 (List.mem_of_getElem? (i := 79) rfl) rfl
theorem wk_800 : (Jvm.Cond.constantLong "DigestTreesModel" (132 : Nat) (255 : Int64)) ∈ wsG := in_tables4 (List.mem_of_getElem? (i := 80) rfl) rfl
theorem wk_801 : (Jvm.Cond.methodLink "DigestTreesLaw" (44 : Nat) ({ cls := "DigestTreesModel", name := "key", desc := "()I" } : Jvm.MethodName)) ∈ wsG := in_tables4 (List.mem_of_getElem? (i := 81) rfl) rfl
theorem wk_802 : (Jvm.Cond.instanceMethod ({ cls := "DigestTreesModel", name := "key", desc := "()I" } : Jvm.MethodName)) ∈ wsG := in_tables4 (List.mem_of_getElem? (i := 82) rfl) rfl
theorem wk_803 : (Jvm.Cond.selects "DigestTreesModel" ({ cls := "DigestTreesModel", name := "key", desc := "()I" } : Jvm.MethodName) ({ cls := "DigestTreesModel", name := "key", desc := "()I" } : Jvm.MethodName)) ∈ wsG := in_tables4 (List.mem_of_getElem? (i := 83) rfl) rfl
theorem wk_804 : (Jvm.Cond.code ({ cls := "DigestTreesModel", name := "key", desc := "()I" } : Jvm.MethodName) prog_10_method_14_code (2 : Nat) (Option.some Jvm.ClassFile.FieldType.int)) ∈ wsG := in_tables4 (List.mem_of_getElem? (i := 84) rfl) rfl
theorem wk_805 : (Jvm.Cond.methodLink "DigestTreesLaw" (48 : Nat) ({ cls := "DigestTreesModel", name := "digest", desc := "(I)I" } : Jvm.MethodName)) ∈ wsG := in_tables4 (List.mem_of_getElem? (i := 85) rfl) rfl
theorem wk_806 : (Jvm.Cond.instanceMethod ({ cls := "DigestTreesModel", name := "digest", desc := "(I)I" } : Jvm.MethodName)) ∈ wsG := in_tables4 (List.mem_of_getElem? (i := 86) rfl) rfl
theorem wk_807 : (Jvm.Cond.selects "DigestTreesModel" ({ cls := "DigestTreesModel", name := "digest", desc := "(I)I" } : Jvm.MethodName) ({ cls := "DigestTreesModel", name := "digest", desc := "(I)I" } : Jvm.MethodName)) ∈ wsG := in_tables4 (List.mem_of_getElem? (i := 87) rfl) rfl
theorem wk_808 : (Jvm.Cond.code ({ cls := "DigestTreesModel", name := "digest", desc := "(I)I" } : Jvm.MethodName) prog_10_method_19_code (3 : Nat) (Option.some Jvm.ClassFile.FieldType.int)) ∈ wsG := in_tables4 (List.mem_of_getElem? (i := 88) rfl) rfl
theorem wk_809 : (Jvm.Cond.methodLink "DigestTreesModel" (169 : Nat) ({ cls := "DigestTreesModel", name := "padKey", desc := "(I)V" } : Jvm.MethodName)) ∈ wsG := in_tables4 (List.mem_of_getElem? (i := 89) rfl) rfl
theorem wk_811 : (Jvm.Cond.instanceMethod ({ cls := "DigestTreesModel", name := "padKey", desc := "(I)V" } : Jvm.MethodName)) ∈ wsG := in_tables4 (List.mem_of_getElem? (i := 91) rfl) rfl
theorem wk_812 : (Jvm.Cond.code ({ cls := "DigestTreesModel", name := "padKey", desc := "(I)V" } : Jvm.MethodName) prog_10_method_17_code (3 : Nat) (Option.none : Option Jvm.ClassFile.FieldType)) ∈ wsG := in_tables4 (List.mem_of_getElem? (i := 92) rfl) rfl
theorem wk_813 : (Jvm.Cond.methodLink "DigestTreesModel" (128 : Nat) ({ cls := "DigestTreesModel", name := "put", desc := "(I)V" } : Jvm.MethodName)) ∈ wsG := in_tables4 (List.mem_of_getElem? (i := 93) rfl) rfl
theorem wk_815 : (Jvm.Cond.instanceMethod ({ cls := "DigestTreesModel", name := "put", desc := "(I)V" } : Jvm.MethodName)) ∈ wsG := in_tables4 (List.mem_of_getElem? (i := 95) rfl) rfl
theorem wk_816 : (Jvm.Cond.code ({ cls := "DigestTreesModel", name := "put", desc := "(I)V" } : Jvm.MethodName) prog_10_method_7_code (2 : Nat) (Option.none : Option Jvm.ClassFile.FieldType)) ∈ wsG := in_tables4 (List.mem_of_getElem? (i := 96) rfl) rfl
theorem wk_817 : (Jvm.Cond.methodLink "DigestTreesModel" (162 : Nat) ({ cls := "DigestTreesModel", name := "work", desc := "(Z)V" } : Jvm.MethodName)) ∈ wsG := in_tables4 (List.mem_of_getElem? (i := 97) rfl) rfl
theorem wk_819 : (Jvm.Cond.instanceMethod ({ cls := "DigestTreesModel", name := "work", desc := "(Z)V" } : Jvm.MethodName)) ∈ wsG := in_tables4 (List.mem_of_getElem? (i := 99) rfl) rfl
theorem wk_820 : (Jvm.Cond.code ({ cls := "DigestTreesModel", name := "work", desc := "(Z)V" } : Jvm.MethodName) prog_10_method_8_code (5 : Nat) (Option.none : Option Jvm.ClassFile.FieldType)) ∈ wsG := in_tables4 (List.mem_of_getElem? (i := 100) rfl) rfl
theorem wk_821 : (Jvm.Cond.constantLong "DigestTreesModel" (126 : Nat) (8 : Int64)) ∈ wsG := in_tables4 (List.mem_of_getElem? (i := 101) rfl) rfl
theorem wk_822 : (Jvm.Cond.methodLink "DigestTreesModel" (134 : Nat) ({ cls := "DigestTreesModel", name := "block", desc := "(I)V" } : Jvm.MethodName)) ∈ wsG := in_tables4 (List.mem_of_getElem? (i := 102) rfl) rfl
theorem wk_824 : (Jvm.Cond.instanceMethod ({ cls := "DigestTreesModel", name := "block", desc := "(I)V" } : Jvm.MethodName)) ∈ wsG := in_tables4 (List.mem_of_getElem? (i := 104) rfl) rfl
theorem wk_825 : (Jvm.Cond.code ({ cls := "DigestTreesModel", name := "block", desc := "(I)V" } : Jvm.MethodName) prog_10_method_9_code (13 : Nat) (Option.none : Option Jvm.ClassFile.FieldType)) ∈ wsG := in_tables4 (List.mem_of_getElem? (i := 105) rfl) rfl
theorem wk_826 : (Jvm.Cond.methodLink "DigestTreesModel" (140 : Nat) ({ cls := "DigestTreesModel", name := "right", desc := "(II)I" } : Jvm.MethodName)) ∈ wsG := in_tables4 (List.mem_of_getElem? (i := 106) rfl) rfl
theorem wk_827 : (Jvm.Cond.static ({ cls := "DigestTreesModel", name := "right", desc := "(II)I" } : Jvm.MethodName)) ∈ wsG := in_tables4 (List.mem_of_getElem? (i := 107) rfl) rfl
theorem wk_828 : (Jvm.Cond.code ({ cls := "DigestTreesModel", name := "right", desc := "(II)I" } : Jvm.MethodName) prog_10_method_6_code (2 : Nat) (Option.some Jvm.ClassFile.FieldType.int)) ∈ wsG := in_tables4 (List.mem_of_getElem? (i := 108) rfl) rfl
theorem wk_829 : (Jvm.Cond.methodLink "DigestTreesModel" (159 : Nat) ({ cls := "DigestTreesModel", name := "byteOfH", desc := "(I)I" } : Jvm.MethodName)) ∈ wsG := in_tables4 (List.mem_of_getElem? (i := 109) rfl) rfl
theorem wk_831 : (Jvm.Cond.instanceMethod ({ cls := "DigestTreesModel", name := "byteOfH", desc := "(I)I" } : Jvm.MethodName)) ∈ wsG := in_tables4 (List.mem_of_getElem? (i := 111) rfl) rfl
theorem wk_832 : (Jvm.Cond.code ({ cls := "DigestTreesModel", name := "byteOfH", desc := "(I)I" } : Jvm.MethodName) prog_10_method_10_code (2 : Nat) (Option.some Jvm.ClassFile.FieldType.int)) ∈ wsG := in_tables4 (List.mem_of_getElem? (i := 112) rfl) rfl
theorem wk_833 : (Jvm.Cond.methodLink "DigestTreesModel" (172 : Nat) ({ cls := "DigestTreesModel", name := "made", desc := "(II)I" } : Jvm.MethodName)) ∈ wsG := in_tables4 (List.mem_of_getElem? (i := 113) rfl) rfl
theorem wk_835 : (Jvm.Cond.instanceMethod ({ cls := "DigestTreesModel", name := "made", desc := "(II)I" } : Jvm.MethodName)) ∈ wsG := in_tables4 (List.mem_of_getElem? (i := 115) rfl) rfl
theorem wk_836 : (Jvm.Cond.code ({ cls := "DigestTreesModel", name := "made", desc := "(II)I" } : Jvm.MethodName) prog_10_method_18_code (6 : Nat) (Option.some Jvm.ClassFile.FieldType.int)) ∈ wsG := in_tables4 (List.mem_of_getElem? (i := 116) rfl) rfl
theorem wk_837 : (Jvm.Cond.methodLink "DigestTreesModel" (166 : Nat) ({ cls := "DigestTreesModel", name := "keepDigest", desc := "(I)I" } : Jvm.MethodName)) ∈ wsG := in_tables4 (List.mem_of_getElem? (i := 117) rfl) rfl
theorem wk_839 : (Jvm.Cond.instanceMethod ({ cls := "DigestTreesModel", name := "keepDigest", desc := "(I)I" } : Jvm.MethodName)) ∈ wsG := in_tables4 (List.mem_of_getElem? (i := 119) rfl) rfl
theorem wk_840 : (Jvm.Cond.code ({ cls := "DigestTreesModel", name := "keepDigest", desc := "(I)I" } : Jvm.MethodName) prog_10_method_16_code (3 : Nat) (Option.some Jvm.ClassFile.FieldType.int)) ∈ wsG := in_tables4 (List.mem_of_getElem? (i := 120) rfl) rfl
theorem wk_841 : (Jvm.Cond.methodLink "DigestTreesLaw" (53 : Nat) ({ cls := "DigestTreesModel", name := "open", desc := "(II)I" } : Jvm.MethodName)) ∈ wsG := in_tables4 (List.mem_of_getElem? (i := 121) rfl) rfl
theorem wk_842 : (Jvm.Cond.instanceMethod ({ cls := "DigestTreesModel", name := "open", desc := "(II)I" } : Jvm.MethodName)) ∈ wsG := in_tables4 (List.mem_of_getElem? (i := 122) rfl) rfl
theorem wk_843 : (Jvm.Cond.selects "DigestTreesModel" ({ cls := "DigestTreesModel", name := "open", desc := "(II)I" } : Jvm.MethodName) ({ cls := "DigestTreesModel", name := "open", desc := "(II)I" } : Jvm.MethodName)) ∈ wsG := in_tables4 (List.mem_of_getElem? (i := 123) rfl) rfl
theorem wk_844 : (Jvm.Cond.code ({ cls := "DigestTreesModel", name := "open", desc := "(II)I" } : Jvm.MethodName) prog_10_method_20_code (3 : Nat) (Option.some Jvm.ClassFile.FieldType.int)) ∈ wsG := in_tables4 (List.mem_of_getElem? (i := 124) rfl) rfl
theorem wk_845 : (Jvm.Cond.methodLink "DigestTreesLaw" (57 : Nat) ({ cls := "DigestTreesModel", name := "more", desc := "(I)I" } : Jvm.MethodName)) ∈ wsG := in_tables4 (List.mem_of_getElem? (i := 125) rfl) rfl
theorem wk_846 : (Jvm.Cond.instanceMethod ({ cls := "DigestTreesModel", name := "more", desc := "(I)I" } : Jvm.MethodName)) ∈ wsG := in_tables4 (List.mem_of_getElem? (i := 126) rfl) rfl
theorem wk_847 : (Jvm.Cond.selects "DigestTreesModel" ({ cls := "DigestTreesModel", name := "more", desc := "(I)I" } : Jvm.MethodName) ({ cls := "DigestTreesModel", name := "more", desc := "(I)I" } : Jvm.MethodName)) ∈ wsG := in_tables4 (List.mem_of_getElem? (i := 127) rfl) rfl
theorem wk_848 : (Jvm.Cond.code ({ cls := "DigestTreesModel", name := "more", desc := "(I)I" } : Jvm.MethodName) prog_10_method_21_code (3 : Nat) (Option.some Jvm.ClassFile.FieldType.int)) ∈ wsG := in_tables4 (List.mem_of_getElem? (i := 128) rfl) rfl
theorem wk_849 : (Jvm.Cond.methodLink "DigestTreesLaw" (61 : Nat) ({ cls := "DigestTreesModel", name := "end", desc := "(I)I" } : Jvm.MethodName)) ∈ wsG := in_tables4 (List.mem_of_getElem? (i := 129) rfl) rfl
theorem wk_850 : (Jvm.Cond.instanceMethod ({ cls := "DigestTreesModel", name := "end", desc := "(I)I" } : Jvm.MethodName)) ∈ wsG := in_tables4 (List.mem_of_getElem? (i := 130) rfl) rfl
theorem wk_851 : (Jvm.Cond.selects "DigestTreesModel" ({ cls := "DigestTreesModel", name := "end", desc := "(I)I" } : Jvm.MethodName) ({ cls := "DigestTreesModel", name := "end", desc := "(I)I" } : Jvm.MethodName)) ∈ wsG := in_tables4 (List.mem_of_getElem? (i := 131) rfl) rfl
theorem wk_852 : (Jvm.Cond.code ({ cls := "DigestTreesModel", name := "end", desc := "(I)I" } : Jvm.MethodName) prog_10_method_22_code (3 : Nat) (Option.some Jvm.ClassFile.FieldType.int)) ∈ wsG := in_tables4 (List.mem_of_getElem? (i := 132) rfl) rfl
theorem wk_853 : (Jvm.Cond.methodLink "DigestTreesLaw" (65 : Nat) ({ cls := "DigestTreesModel", name := "told", desc := "(II)I" } : Jvm.MethodName)) ∈ wsG := in_tables4 (List.mem_of_getElem? (i := 133) rfl) rfl
theorem wk_854 : (Jvm.Cond.instanceMethod ({ cls := "DigestTreesModel", name := "told", desc := "(II)I" } : Jvm.MethodName)) ∈ wsG := in_tables4 (List.mem_of_getElem? (i := 134) rfl) rfl
theorem wk_855 : (Jvm.Cond.selects "DigestTreesModel" ({ cls := "DigestTreesModel", name := "told", desc := "(II)I" } : Jvm.MethodName) ({ cls := "DigestTreesModel", name := "told", desc := "(II)I" } : Jvm.MethodName)) ∈ wsG := in_tables4 (List.mem_of_getElem? (i := 135) rfl) rfl
theorem wk_856 : (Jvm.Cond.code ({ cls := "DigestTreesModel", name := "told", desc := "(II)I" } : Jvm.MethodName) prog_10_method_24_code (3 : Nat) (Option.some Jvm.ClassFile.FieldType.int)) ∈ wsG := in_tables4 (List.mem_of_getElem? (i := 136) rfl) rfl
theorem wk_857 : (Jvm.Cond.methodLink "DigestTreesModel" (175 : Nat) ({ cls := "DigestTreesModel", name := "isDigest", desc := "(I)Z" } : Jvm.MethodName)) ∈ wsG := in_tables4 (List.mem_of_getElem? (i := 137) rfl) rfl
theorem wk_859 : (Jvm.Cond.instanceMethod ({ cls := "DigestTreesModel", name := "isDigest", desc := "(I)Z" } : Jvm.MethodName)) ∈ wsG := in_tables4 (List.mem_of_getElem? (i := 139) rfl) rfl
theorem wk_860 : (Jvm.Cond.code ({ cls := "DigestTreesModel", name := "isDigest", desc := "(I)Z" } : Jvm.MethodName) prog_10_method_23_code (2 : Nat) (Option.some Jvm.ClassFile.FieldType.boolean)) ∈ wsG := in_tables4 (List.mem_of_getElem? (i := 140) rfl) rfl
theorem wk_861 : (Jvm.Cond.methodLink "DigestTreesModel" (179 : Nat) ({ cls := "DigestTreesModel", name := "long32", desc := "(I)I" } : Jvm.MethodName)) ∈ wsG := in_tables4 (List.mem_of_getElem? (i := 141) rfl) rfl
theorem wk_862 : (Jvm.Cond.static ({ cls := "DigestTreesModel", name := "long32", desc := "(I)I" } : Jvm.MethodName)) ∈ wsG := in_tables4 (List.mem_of_getElem? (i := 142) rfl) rfl
theorem wk_863 : (Jvm.Cond.code ({ cls := "DigestTreesModel", name := "long32", desc := "(I)I" } : Jvm.MethodName) prog_10_method_15_code (1 : Nat) (Option.some Jvm.ClassFile.FieldType.int)) ∈ wsG := in_tables4 (List.mem_of_getElem? (i := 143) rfl) rfl
theorem wk_864 : (Jvm.Cond.methodLink "DigestTreesLaw" (71 : Nat) ({ cls := "DigestTreesModel", name := "read", desc := "(III)J" } : Jvm.MethodName)) ∈ wsG := in_tables4 (List.mem_of_getElem? (i := 144) rfl) rfl
theorem wk_865 : (Jvm.Cond.instanceMethod ({ cls := "DigestTreesModel", name := "read", desc := "(III)J" } : Jvm.MethodName)) ∈ wsG := in_tables4 (List.mem_of_getElem? (i := 145) rfl) rfl
theorem wk_866 : (Jvm.Cond.selects "DigestTreesModel" ({ cls := "DigestTreesModel", name := "read", desc := "(III)J" } : Jvm.MethodName) ({ cls := "DigestTreesModel", name := "read", desc := "(III)J" } : Jvm.MethodName)) ∈ wsG := in_tables4 (List.mem_of_getElem? (i := 146) rfl) rfl
theorem wk_867 : (Jvm.Cond.code ({ cls := "DigestTreesModel", name := "read", desc := "(III)J" } : Jvm.MethodName) prog_10_method_25_code (8 : Nat) (Option.some Jvm.ClassFile.FieldType.long)) ∈ wsG := in_tables4 (List.mem_of_getElem? (i := 147) rfl) rfl
theorem wk_868 : (Jvm.Cond.constantLong "DigestTreesModel" (182 : Nat) (-101 : Int64)) ∈ wsG := in_tables4 (List.mem_of_getElem? (i := 148) rfl) rfl
theorem wk_869 : (Jvm.Cond.constantLong "DigestTreesModel" (184 : Nat) (-102 : Int64)) ∈ wsG := in_tables4 (List.mem_of_getElem? (i := 149) rfl) rfl
theorem wk_870 : (Jvm.Cond.methodLink "DigestTreesLaw" (78 : Nat) ({ cls := "DigestTreesModel", name := "plan", desc := "(II)J" } : Jvm.MethodName)) ∈ wsG := in_tables4 (List.mem_of_getElem? (i := 150) rfl) rfl
theorem wk_871 : (Jvm.Cond.instanceMethod ({ cls := "DigestTreesModel", name := "plan", desc := "(II)J" } : Jvm.MethodName)) ∈ wsG := in_tables4 (List.mem_of_getElem? (i := 151) rfl) rfl
theorem wk_872 : (Jvm.Cond.selects "DigestTreesModel" ({ cls := "DigestTreesModel", name := "plan", desc := "(II)J" } : Jvm.MethodName) ({ cls := "DigestTreesModel", name := "plan", desc := "(II)J" } : Jvm.MethodName)) ∈ wsG := in_tables4 (List.mem_of_getElem? (i := 152) rfl) rfl
theorem wk_873 : (Jvm.Cond.code ({ cls := "DigestTreesModel", name := "plan", desc := "(II)J" } : Jvm.MethodName) prog_10_method_26_code (3 : Nat) (Option.some Jvm.ClassFile.FieldType.long)) ∈ wsG := in_tables4 (List.mem_of_getElem? (i := 153) rfl) rfl
theorem wk_874 : (Jvm.Cond.methodLink "DigestTreesLaw" (82 : Nat) ({ cls := "DigestTreesModel", name := "same", desc := "(II)I" } : Jvm.MethodName)) ∈ wsG := in_tables4 (List.mem_of_getElem? (i := 154) rfl) rfl
theorem wk_875 : (Jvm.Cond.instanceMethod ({ cls := "DigestTreesModel", name := "same", desc := "(II)I" } : Jvm.MethodName)) ∈ wsG := in_tables4 (List.mem_of_getElem? (i := 155) rfl) rfl
theorem wk_876 : (Jvm.Cond.selects "DigestTreesModel" ({ cls := "DigestTreesModel", name := "same", desc := "(II)I" } : Jvm.MethodName) ({ cls := "DigestTreesModel", name := "same", desc := "(II)I" } : Jvm.MethodName)) ∈ wsG := in_tables4 (List.mem_of_getElem? (i := 156) rfl) rfl
theorem wk_877 : (Jvm.Cond.code ({ cls := "DigestTreesModel", name := "same", desc := "(II)I" } : Jvm.MethodName) prog_10_method_27_code (5 : Nat) (Option.some Jvm.ClassFile.FieldType.int)) ∈ wsG := in_tables4 (List.mem_of_getElem? (i := 157) rfl) rfl
theorem wk_878 : (Jvm.Cond.methodLink "DigestTreesLaw" (86 : Nat) ({ cls := "DigestTreesModel", name := "table", desc := "(I)I" } : Jvm.MethodName)) ∈ wsG := in_tables4 (List.mem_of_getElem? (i := 158) rfl) rfl
theorem wk_879 : (Jvm.Cond.instanceMethod ({ cls := "DigestTreesModel", name := "table", desc := "(I)I" } : Jvm.MethodName)) ∈ wsG := in_tables4 (List.mem_of_getElem? (i := 159) rfl) rfl
theorem wk_880 : (Jvm.Cond.selects "DigestTreesModel" ({ cls := "DigestTreesModel", name := "table", desc := "(I)I" } : Jvm.MethodName) ({ cls := "DigestTreesModel", name := "table", desc := "(I)I" } : Jvm.MethodName)) ∈ wsG := in_tables4 (List.mem_of_getElem? (i := 160) rfl) rfl
theorem wk_881 : (Jvm.Cond.code ({ cls := "DigestTreesModel", name := "table", desc := "(I)I" } : Jvm.MethodName) prog_10_method_28_code (2 : Nat) (Option.some Jvm.ClassFile.FieldType.int)) ∈ wsG := in_tables4 (List.mem_of_getElem? (i := 161) rfl) rfl
theorem wk_882 : (Jvm.Cond.methodLink "DigestTreesLaw" (90 : Nat) ({ cls := "DigestTreesModel", name := "leaf", desc := "(II)I" } : Jvm.MethodName)) ∈ wsG := in_tables4 (List.mem_of_getElem? (i := 162) rfl) rfl
theorem wk_883 : (Jvm.Cond.instanceMethod ({ cls := "DigestTreesModel", name := "leaf", desc := "(II)I" } : Jvm.MethodName)) ∈ wsG := in_tables4 (List.mem_of_getElem? (i := 163) rfl) rfl
theorem wk_884 : (Jvm.Cond.selects "DigestTreesModel" ({ cls := "DigestTreesModel", name := "leaf", desc := "(II)I" } : Jvm.MethodName) ({ cls := "DigestTreesModel", name := "leaf", desc := "(II)I" } : Jvm.MethodName)) ∈ wsG := in_tables4 (List.mem_of_getElem? (i := 164) rfl) rfl
theorem wk_885 : (Jvm.Cond.code ({ cls := "DigestTreesModel", name := "leaf", desc := "(II)I" } : Jvm.MethodName) prog_10_method_31_code (3 : Nat) (Option.some Jvm.ClassFile.FieldType.int)) ∈ wsG := in_tables4 (List.mem_of_getElem? (i := 165) rfl) rfl
theorem wk_886 : (Jvm.Cond.methodLink "DigestTreesModel" (186 : Nat) ({ cls := "DigestTreesModel", name := "isTree", desc := "(I)Z" } : Jvm.MethodName)) ∈ wsG := in_tables4 (List.mem_of_getElem? (i := 166) rfl) rfl
theorem wk_887 : (Jvm.Cond.static ({ cls := "DigestTreesModel", name := "isTree", desc := "(I)Z" } : Jvm.MethodName)) ∈ wsG := in_tables4 (List.mem_of_getElem? (i := 167) rfl) rfl
theorem wk_888 : (Jvm.Cond.code ({ cls := "DigestTreesModel", name := "isTree", desc := "(I)Z" } : Jvm.MethodName) prog_10_method_29_code (1 : Nat) (Option.some Jvm.ClassFile.FieldType.boolean)) ∈ wsG := in_tables4 (List.mem_of_getElem? (i := 168) rfl) rfl
theorem wk_889 : (Jvm.Cond.methodLink "DigestTreesModel" (189 : Nat) ({ cls := "DigestTreesModel", name := "layLeaf", desc := "(III)V" } : Jvm.MethodName)) ∈ wsG := in_tables4 (List.mem_of_getElem? (i := 169) rfl) rfl
theorem wk_891 : (Jvm.Cond.instanceMethod ({ cls := "DigestTreesModel", name := "layLeaf", desc := "(III)V" } : Jvm.MethodName)) ∈ wsG := in_tables4 (List.mem_of_getElem? (i := 171) rfl) rfl
theorem wk_892 : (Jvm.Cond.code ({ cls := "DigestTreesModel", name := "layLeaf", desc := "(III)V" } : Jvm.MethodName) prog_10_method_30_code (6 : Nat) (Option.none : Option Jvm.ClassFile.FieldType)) ∈ wsG := in_tables4 (List.mem_of_getElem? (i := 172) rfl) rfl
theorem wk_893 : (Jvm.Cond.methodLink "DigestTreesLaw" (95 : Nat) ({ cls := "DigestTreesModel", name := "change", desc := "(III)I" } : Jvm.MethodName)) ∈ wsG := in_tables4 (List.mem_of_getElem? (i := 173) rfl) rfl
theorem wk_894 : (Jvm.Cond.instanceMethod ({ cls := "DigestTreesModel", name := "change", desc := "(III)I" } : Jvm.MethodName)) ∈ wsG := in_tables4 (List.mem_of_getElem? (i := 174) rfl) rfl
theorem wk_895 : (Jvm.Cond.selects "DigestTreesModel" ({ cls := "DigestTreesModel", name := "change", desc := "(III)I" } : Jvm.MethodName) ({ cls := "DigestTreesModel", name := "change", desc := "(III)I" } : Jvm.MethodName)) ∈ wsG := in_tables4 (List.mem_of_getElem? (i := 175) rfl) rfl
theorem wk_896 : (Jvm.Cond.code ({ cls := "DigestTreesModel", name := "change", desc := "(III)I" } : Jvm.MethodName) prog_10_method_32_code (5 : Nat) (Option.some Jvm.ClassFile.FieldType.int)) ∈ wsG := in_tables4 (List.mem_of_getElem? (i := 176) rfl) rfl
theorem wk_897 : (Jvm.Cond.methodLink "DigestTreesLaw" (99 : Nat) ({ cls := "DigestTreesModel", name := "root", desc := "(I)I" } : Jvm.MethodName)) ∈ wsG := in_tables4 (List.mem_of_getElem? (i := 177) rfl) rfl
theorem wk_898 : (Jvm.Cond.instanceMethod ({ cls := "DigestTreesModel", name := "root", desc := "(I)I" } : Jvm.MethodName)) ∈ wsG := in_tables4 (List.mem_of_getElem? (i := 178) rfl) rfl
theorem wk_899 : (Jvm.Cond.selects "DigestTreesModel" ({ cls := "DigestTreesModel", name := "root", desc := "(I)I" } : Jvm.MethodName) ({ cls := "DigestTreesModel", name := "root", desc := "(I)I" } : Jvm.MethodName)) ∈ wsG := in_tables4 (List.mem_of_getElem? (i := 179) rfl) rfl
theorem wk_900 : (Jvm.Cond.code ({ cls := "DigestTreesModel", name := "root", desc := "(I)I" } : Jvm.MethodName) prog_10_method_38_code (3 : Nat) (Option.some Jvm.ClassFile.FieldType.int)) ∈ wsG := in_tables4 (List.mem_of_getElem? (i := 180) rfl) rfl
theorem wk_901 : (Jvm.Cond.methodLink "DigestTreesModel" (199 : Nat) ({ cls := "DigestTreesModel", name := "layLevel", desc := "(I)V" } : Jvm.MethodName)) ∈ wsG := in_tables4 (List.mem_of_getElem? (i := 181) rfl) rfl
theorem wk_903 : (Jvm.Cond.instanceMethod ({ cls := "DigestTreesModel", name := "layLevel", desc := "(I)V" } : Jvm.MethodName)) ∈ wsG := in_tables4 (List.mem_of_getElem? (i := 183) rfl) rfl
theorem wk_904 : (Jvm.Cond.code ({ cls := "DigestTreesModel", name := "layLevel", desc := "(I)V" } : Jvm.MethodName) prog_10_method_35_code (5 : Nat) (Option.none : Option Jvm.ClassFile.FieldType)) ∈ wsG := in_tables4 (List.mem_of_getElem? (i := 184) rfl) rfl
theorem wk_905 : (Jvm.Cond.methodLink "DigestTreesModel" (193 : Nat) ({ cls := "DigestTreesModel", name := "toLevel", desc := "(I)V" } : Jvm.MethodName)) ∈ wsG := in_tables4 (List.mem_of_getElem? (i := 185) rfl) rfl
theorem wk_907 : (Jvm.Cond.instanceMethod ({ cls := "DigestTreesModel", name := "toLevel", desc := "(I)V" } : Jvm.MethodName)) ∈ wsG := in_tables4 (List.mem_of_getElem? (i := 187) rfl) rfl
theorem wk_908 : (Jvm.Cond.code ({ cls := "DigestTreesModel", name := "toLevel", desc := "(I)V" } : Jvm.MethodName) prog_10_method_34_code (3 : Nat) (Option.none : Option Jvm.ClassFile.FieldType)) ∈ wsG := in_tables4 (List.mem_of_getElem? (i := 188) rfl) rfl
theorem wk_909 : (Jvm.Cond.methodLink "DigestTreesModel" (202 : Nat) ({ cls := "DigestTreesModel", name := "rise", desc := "(I)I" } : Jvm.MethodName)) ∈ wsG := in_tables4 (List.mem_of_getElem? (i := 189) rfl) rfl
theorem wk_911 : (Jvm.Cond.instanceMethod ({ cls := "DigestTreesModel", name := "rise", desc := "(I)I" } : Jvm.MethodName)) ∈ wsG := in_tables4 (List.mem_of_getElem? (i := 191) rfl) rfl
theorem wk_912 : (Jvm.Cond.code ({ cls := "DigestTreesModel", name := "rise", desc := "(I)I" } : Jvm.MethodName) prog_10_method_36_code (4 : Nat) (Option.some Jvm.ClassFile.FieldType.int)) ∈ wsG := in_tables4 (List.mem_of_getElem? (i := 192) rfl) rfl
theorem wk_913 : (Jvm.Cond.methodLink "DigestTreesModel" (196 : Nat) ({ cls := "DigestTreesModel", name := "putWord", desc := "(I)V" } : Jvm.MethodName)) ∈ wsG := in_tables4 (List.mem_of_getElem? (i := 193) rfl) rfl
theorem wk_915 : (Jvm.Cond.instanceMethod ({ cls := "DigestTreesModel", name := "putWord", desc := "(I)V" } : Jvm.MethodName)) ∈ wsG := in_tables4 (List.mem_of_getElem? (i := 195) rfl) rfl
theorem wk_916 : (Jvm.Cond.code ({ cls := "DigestTreesModel", name := "putWord", desc := "(I)V" } : Jvm.MethodName) prog_10_method_33_code (2 : Nat) (Option.none : Option Jvm.ClassFile.FieldType)) ∈ wsG := in_tables4 (List.mem_of_getElem? (i := 196) rfl) rfl
theorem wk_917 : (Jvm.Cond.methodLink "DigestTreesModel" (205 : Nat) ({ cls := "DigestTreesModel", name := "workRoot", desc := "(I)V" } : Jvm.MethodName)) ∈ wsG := in_tables4 (List.mem_of_getElem? (i := 197) rfl) rfl
theorem wk_919 : (Jvm.Cond.instanceMethod ({ cls := "DigestTreesModel", name := "workRoot", desc := "(I)V" } : Jvm.MethodName)) ∈ wsG := in_tables4 (List.mem_of_getElem? (i := 199) rfl) rfl
theorem wk_920 : (Jvm.Cond.code ({ cls := "DigestTreesModel", name := "workRoot", desc := "(I)V" } : Jvm.MethodName) prog_10_method_37_code (3 : Nat) (Option.none : Option Jvm.ClassFile.FieldType)) ∈ wsG := in_tables4 (List.mem_of_getElem? (i := 200) rfl) rfl
theorem wk_921 : (Jvm.Cond.methodLink "DigestTreesLaw" (103 : Nat) ({ cls := "DigestTreesModel", name := "drop", desc := "(I)I" } : Jvm.MethodName)) ∈ wsG := in_tables4 (List.mem_of_getElem? (i := 201) rfl) rfl
theorem wk_922 : (Jvm.Cond.instanceMethod ({ cls := "DigestTreesModel", name := "drop", desc := "(I)I" } : Jvm.MethodName)) ∈ wsG := in_tables4 (List.mem_of_getElem? (i := 202) rfl) rfl
theorem wk_923 : (Jvm.Cond.selects "DigestTreesModel" ({ cls := "DigestTreesModel", name := "drop", desc := "(I)I" } : Jvm.MethodName) ({ cls := "DigestTreesModel", name := "drop", desc := "(I)I" } : Jvm.MethodName)) ∈ wsG := in_tables4 (List.mem_of_getElem? (i := 203) rfl) rfl
theorem wk_924 : (Jvm.Cond.code ({ cls := "DigestTreesModel", name := "drop", desc := "(I)I" } : Jvm.MethodName) prog_10_method_39_code (3 : Nat) (Option.some Jvm.ClassFile.FieldType.int)) ∈ wsG := in_tables4 (List.mem_of_getElem? (i := 204) rfl) rfl
theorem wk_925 : (Jvm.Cond.methodLink "DigestTreesLaw" (107 : Nat) ({ cls := "DigestTreesModel", name := "prove", desc := "(II)I" } : Jvm.MethodName)) ∈ wsG := in_tables4 (List.mem_of_getElem? (i := 205) rfl) rfl
theorem wk_926 : (Jvm.Cond.instanceMethod ({ cls := "DigestTreesModel", name := "prove", desc := "(II)I" } : Jvm.MethodName)) ∈ wsG := in_tables4 (List.mem_of_getElem? (i := 206) rfl) rfl
theorem wk_927 : (Jvm.Cond.selects "DigestTreesModel" ({ cls := "DigestTreesModel", name := "prove", desc := "(II)I" } : Jvm.MethodName) ({ cls := "DigestTreesModel", name := "prove", desc := "(II)I" } : Jvm.MethodName)) ∈ wsG := in_tables4 (List.mem_of_getElem? (i := 207) rfl) rfl
theorem wk_928 : (Jvm.Cond.code ({ cls := "DigestTreesModel", name := "prove", desc := "(II)I" } : Jvm.MethodName) prog_10_method_40_code (7 : Nat) (Option.some Jvm.ClassFile.FieldType.int)) ∈ wsG := in_tables4 (List.mem_of_getElem? (i := 208) rfl) rfl
theorem wk_929 : (Jvm.Cond.methodLink "DigestTreesLaw" (111 : Nat) ({ cls := "DigestTreesModel", name := "alter", desc := "(III)I" } : Jvm.MethodName)) ∈ wsG := in_tables4 (List.mem_of_getElem? (i := 209) rfl) rfl
theorem wk_930 : (Jvm.Cond.instanceMethod ({ cls := "DigestTreesModel", name := "alter", desc := "(III)I" } : Jvm.MethodName)) ∈ wsG := in_tables4 (List.mem_of_getElem? (i := 210) rfl) rfl
theorem wk_931 : (Jvm.Cond.selects "DigestTreesModel" ({ cls := "DigestTreesModel", name := "alter", desc := "(III)I" } : Jvm.MethodName) ({ cls := "DigestTreesModel", name := "alter", desc := "(III)I" } : Jvm.MethodName)) ∈ wsG := in_tables4 (List.mem_of_getElem? (i := 211) rfl) rfl
theorem wk_932 : (Jvm.Cond.code ({ cls := "DigestTreesModel", name := "alter", desc := "(III)I" } : Jvm.MethodName) prog_10_method_41_code (6 : Nat) (Option.some Jvm.ClassFile.FieldType.int)) ∈ wsG := in_tables4 (List.mem_of_getElem? (i := 212) rfl) rfl
theorem wk_933 : (Jvm.Cond.methodLink "DigestTreesLaw" (116 : Nat) ({ cls := "DigestTreesModel", name := "check", desc := "(IIII)I" } : Jvm.MethodName)) ∈ wsG := in_tables4 (List.mem_of_getElem? (i := 213) rfl) rfl
theorem wk_934 : (Jvm.Cond.instanceMethod ({ cls := "DigestTreesModel", name := "check", desc := "(IIII)I" } : Jvm.MethodName)) ∈ wsG := in_tables4 (List.mem_of_getElem? (i := 214) rfl) rfl
theorem wk_935 : (Jvm.Cond.selects "DigestTreesModel" ({ cls := "DigestTreesModel", name := "check", desc := "(IIII)I" } : Jvm.MethodName) ({ cls := "DigestTreesModel", name := "check", desc := "(IIII)I" } : Jvm.MethodName)) ∈ wsG := in_tables4 (List.mem_of_getElem? (i := 215) rfl) rfl
theorem wk_936 : (Jvm.Cond.code ({ cls := "DigestTreesModel", name := "check", desc := "(IIII)I" } : Jvm.MethodName) prog_10_method_42_code (10 : Nat) (Option.some Jvm.ClassFile.FieldType.int)) ∈ wsG := in_tables4 (List.mem_of_getElem? (i := 216) rfl) rfl
theorem wk_937 : (Jvm.Cond.methodLink "DigestTreesModel" (211 : Nat) ({ cls := "DigestTreesModel", name := "join", desc := "(IZ)V" } : Jvm.MethodName)) ∈ wsG := in_tables4 (List.mem_of_getElem? (i := 217) rfl) rfl
theorem wk_939 : (Jvm.Cond.instanceMethod ({ cls := "DigestTreesModel", name := "join", desc := "(IZ)V" } : Jvm.MethodName)) ∈ wsG := in_tables4 (List.mem_of_getElem? (i := 219) rfl) rfl
theorem wk_940 : (Jvm.Cond.code ({ cls := "DigestTreesModel", name := "join", desc := "(IZ)V" } : Jvm.MethodName) prog_10_method_43_code (5 : Nat) (Option.none : Option Jvm.ClassFile.FieldType)) ∈ wsG := in_tables4 (List.mem_of_getElem? (i := 220) rfl) rfl
theorem wk_941 : (Jvm.Cond.methodLink "DigestTreesLaw" (120 : Nat) ({ cls := "DigestTreesModel", name := "keep", desc := "()I" } : Jvm.MethodName)) ∈ wsG := in_tables4 (List.mem_of_getElem? (i := 221) rfl) rfl
theorem wk_942 : (Jvm.Cond.instanceMethod ({ cls := "DigestTreesModel", name := "keep", desc := "()I" } : Jvm.MethodName)) ∈ wsG := in_tables4 (List.mem_of_getElem? (i := 222) rfl) rfl
theorem wk_943 : (Jvm.Cond.selects "DigestTreesModel" ({ cls := "DigestTreesModel", name := "keep", desc := "()I" } : Jvm.MethodName) ({ cls := "DigestTreesModel", name := "keep", desc := "()I" } : Jvm.MethodName)) ∈ wsG := in_tables4 (List.mem_of_getElem? (i := 223) rfl) rfl
theorem wk_944 : (Jvm.Cond.code ({ cls := "DigestTreesModel", name := "keep", desc := "()I" } : Jvm.MethodName) prog_10_method_48_code (4 : Nat) (Option.some Jvm.ClassFile.FieldType.int)) ∈ wsG := in_tables4 (List.mem_of_getElem? (i := 224) rfl) rfl
theorem wk_945 : (Jvm.Cond.methodLink "DigestTreesModel" (224 : Nat) ({ cls := "DigestTreesModel", name := "spotOfTape", desc := "()I" } : Jvm.MethodName)) ∈ wsG := in_tables4 (List.mem_of_getElem? (i := 225) rfl) rfl
theorem wk_947 : (Jvm.Cond.instanceMethod ({ cls := "DigestTreesModel", name := "spotOfTape", desc := "()I" } : Jvm.MethodName)) ∈ wsG := in_tables4 (List.mem_of_getElem? (i := 227) rfl) rfl
theorem wk_948 : (Jvm.Cond.code ({ cls := "DigestTreesModel", name := "spotOfTape", desc := "()I" } : Jvm.MethodName) prog_10_method_46_code (2 : Nat) (Option.some Jvm.ClassFile.FieldType.int)) ∈ wsG := in_tables4 (List.mem_of_getElem? (i := 228) rfl) rfl
theorem wk_949 : (Jvm.Cond.methodLink "DigestTreesModel" (228 : Nat) ({ cls := "DigestTreesModel", name := "look", desc := "(I)I" } : Jvm.MethodName)) ∈ wsG := in_tables4 (List.mem_of_getElem? (i := 229) rfl) rfl
theorem wk_951 : (Jvm.Cond.instanceMethod ({ cls := "DigestTreesModel", name := "look", desc := "(I)I" } : Jvm.MethodName)) ∈ wsG := in_tables4 (List.mem_of_getElem? (i := 231) rfl) rfl
theorem wk_952 : (Jvm.Cond.code ({ cls := "DigestTreesModel", name := "look", desc := "(I)I" } : Jvm.MethodName) prog_10_method_47_code (3 : Nat) (Option.some Jvm.ClassFile.FieldType.int)) ∈ wsG := in_tables4 (List.mem_of_getElem? (i := 232) rfl) rfl
theorem wk_953 : (Jvm.Cond.methodLink "DigestTreesModel" (221 : Nat) ({ cls := "DigestTreesModel", name := "isRow", desc := "(I)Z" } : Jvm.MethodName)) ∈ wsG := in_tables4 (List.mem_of_getElem? (i := 233) rfl) rfl
theorem wk_955 : (Jvm.Cond.instanceMethod ({ cls := "DigestTreesModel", name := "isRow", desc := "(I)Z" } : Jvm.MethodName)) ∈ wsG := in_tables4 (List.mem_of_getElem? (i := 235) rfl) rfl
theorem wk_956 : (Jvm.Cond.code ({ cls := "DigestTreesModel", name := "isRow", desc := "(I)Z" } : Jvm.MethodName) prog_10_method_45_code (4 : Nat) (Option.some Jvm.ClassFile.FieldType.boolean)) ∈ wsG := in_tables4 (List.mem_of_getElem? (i := 236) rfl) rfl
theorem wk_957 : (Jvm.Cond.methodLink "DigestTreesLaw" (124 : Nat) ({ cls := "DigestTreesModel", name := "find", desc := "()I" } : Jvm.MethodName)) ∈ wsG := in_tables4 (List.mem_of_getElem? (i := 237) rfl) rfl
theorem wk_958 : (Jvm.Cond.instanceMethod ({ cls := "DigestTreesModel", name := "find", desc := "()I" } : Jvm.MethodName)) ∈ wsG := in_tables4 (List.mem_of_getElem? (i := 238) rfl) rfl
theorem wk_959 : (Jvm.Cond.selects "DigestTreesModel" ({ cls := "DigestTreesModel", name := "find", desc := "()I" } : Jvm.MethodName) ({ cls := "DigestTreesModel", name := "find", desc := "()I" } : Jvm.MethodName)) ∈ wsG := in_tables4 (List.mem_of_getElem? (i := 239) rfl) rfl
theorem wk_960 : (Jvm.Cond.code ({ cls := "DigestTreesModel", name := "find", desc := "()I" } : Jvm.MethodName) prog_10_method_49_code (2 : Nat) (Option.some Jvm.ClassFile.FieldType.int)) ∈ wsG := in_tables5 (List.mem_of_getElem? (i := 0) rfl) rfl
theorem wk_961 : (Jvm.Cond.methodLink "DigestTreesLaw" (127 : Nat) ({ cls := "DigestTreesModel", name := "row", desc := "(II)B" } : Jvm.MethodName)) ∈ wsG := in_tables5 (List.mem_of_getElem? (i := 1) rfl) rfl
theorem wk_962 : (Jvm.Cond.instanceMethod ({ cls := "DigestTreesModel", name := "row", desc := "(II)B" } : Jvm.MethodName)) ∈ wsG := in_tables5 (List.mem_of_getElem? (i := 2) rfl) rfl
theorem wk_963 : (Jvm.Cond.selects "DigestTreesModel" ({ cls := "DigestTreesModel", name := "row", desc := "(II)B" } : Jvm.MethodName) ({ cls := "DigestTreesModel", name := "row", desc := "(II)B" } : Jvm.MethodName)) ∈ wsG := in_tables5 (List.mem_of_getElem? (i := 3) rfl) rfl
theorem wk_964 : (Jvm.Cond.code ({ cls := "DigestTreesModel", name := "row", desc := "(II)B" } : Jvm.MethodName) prog_10_method_50_code (3 : Nat) (Option.some Jvm.ClassFile.FieldType.byte)) ∈ wsG := in_tables5 (List.mem_of_getElem? (i := 4) rfl) rfl
theorem wk_965 : (Jvm.Cond.methodLink "DigestTreesLaw" (131 : Nat) ({ cls := "DigestTreesModel", name := "about", desc := "(I)I" } : Jvm.MethodName)) ∈ wsG := in_tables5 (List.mem_of_getElem? (i := 5) rfl) rfl
theorem wk_966 : (Jvm.Cond.instanceMethod ({ cls := "DigestTreesModel", name := "about", desc := "(I)I" } : Jvm.MethodName)) ∈ wsG := in_tables5 (List.mem_of_getElem? (i := 6) rfl) rfl
theorem wk_967 : (Jvm.Cond.selects "DigestTreesModel" ({ cls := "DigestTreesModel", name := "about", desc := "(I)I" } : Jvm.MethodName) ({ cls := "DigestTreesModel", name := "about", desc := "(I)I" } : Jvm.MethodName)) ∈ wsG := in_tables5 (List.mem_of_getElem? (i := 7) rfl) rfl
theorem wk_968 : (Jvm.Cond.code ({ cls := "DigestTreesModel", name := "about", desc := "(I)I" } : Jvm.MethodName) prog_10_method_51_code (2 : Nat) (Option.some Jvm.ClassFile.FieldType.int)) ∈ wsG := in_tables5 (List.mem_of_getElem? (i := 8) rfl) rfl
theorem wk_969 : (Jvm.Cond.methodLink "DigestTreesModel" (234 : Nat) ({ cls := "DigestTreesModel", name := "pairs", desc := "()I" } : Jvm.MethodName)) ∈ wsG := in_tables5 (List.mem_of_getElem? (i := 9) rfl) rfl
theorem wk_971 : (Jvm.Cond.instanceMethod ({ cls := "DigestTreesModel", name := "pairs", desc := "()I" } : Jvm.MethodName)) ∈ wsG := in_tables5 (List.mem_of_getElem? (i := 11) rfl) rfl
theorem wk_972 : (Jvm.Cond.code ({ cls := "DigestTreesModel", name := "pairs", desc := "()I" } : Jvm.MethodName) prog_10_method_52_code (4 : Nat) (Option.some Jvm.ClassFile.FieldType.int)) ∈ wsG := in_tables5 (List.mem_of_getElem? (i := 12) rfl) rfl
theorem wk_973 : (Jvm.Cond.methodLink "DigestTreesLaw" (135 : Nat) ({ cls := "DigestTreesModel", name := "clear", desc := "()I" } : Jvm.MethodName)) ∈ wsG := in_tables5 (List.mem_of_getElem? (i := 13) rfl) rfl
theorem wk_974 : (Jvm.Cond.instanceMethod ({ cls := "DigestTreesModel", name := "clear", desc := "()I" } : Jvm.MethodName)) ∈ wsG := in_tables5 (List.mem_of_getElem? (i := 14) rfl) rfl
theorem wk_975 : (Jvm.Cond.selects "DigestTreesModel" ({ cls := "DigestTreesModel", name := "clear", desc := "()I" } : Jvm.MethodName) ({ cls := "DigestTreesModel", name := "clear", desc := "()I" } : Jvm.MethodName)) ∈ wsG := in_tables5 (List.mem_of_getElem? (i := 15) rfl) rfl
theorem wk_976 : (Jvm.Cond.code ({ cls := "DigestTreesModel", name := "clear", desc := "()I" } : Jvm.MethodName) prog_10_method_53_code (3 : Nat) (Option.some Jvm.ClassFile.FieldType.int)) ∈ wsG := in_tables5 (List.mem_of_getElem? (i := 16) rfl) rfl
theorem wk_977 : (Jvm.Cond.constantLong "DigestTreesLaw" (33 : Nat) (4294967295 : Int64)) ∈ wsG := in_tables5 (List.mem_of_getElem? (i := 17) rfl) rfl
theorem wk_978 : (Jvm.Cond.sameMethod "java/lang/Throwable" "java/lang/Throwable" "fillInStackTrace" "(I)Ljava/lang/Throwable;") ∈ wsG := in_tables5 (List.mem_of_getElem? (i := 18) rfl) rfl
theorem ws_0 : Cond.selects "DigestTrees$Message" ⟨"DigestTrees$Message", "makeLock", "(LDigestTrees$Bytes;)V"⟩ ⟨"DigestTrees$Message", "makeLock", "(LDigestTrees$Bytes;)V"⟩ ∈ wsG := in_sels (q := (⟨"DigestTrees$Message", "makeLock", "(LDigestTrees$Bytes;)V"⟩, 7)) (List.mem_of_getElem? (i := 0) rfl) rfl
theorem ws_1 : Cond.selects "DigestTrees$Mill" ⟨"DigestTrees$Mill", "put", "(I)V"⟩ ⟨"DigestTrees$Mill", "put", "(I)V"⟩ ∈ wsG := in_sels (q := (⟨"DigestTrees$Mill", "put", "(I)V"⟩, 5)) (List.mem_of_getElem? (i := 1) rfl) rfl
theorem ws_2 : Cond.selects "DigestTrees$Mill" ⟨"DigestTrees$Mill", "work", "()V"⟩ ⟨"DigestTrees$Mill", "work", "()V"⟩ ∈ wsG := in_sels (q := (⟨"DigestTrees$Mill", "work", "()V"⟩, 5)) (List.mem_of_getElem? (i := 2) rfl) rfl
theorem ws_3 : Cond.selects "DigestTrees$Message" ⟨"DigestTrees$Message", "beginLocked", "(I)V"⟩ ⟨"DigestTrees$Message", "beginLocked", "(I)V"⟩ ∈ wsG := in_sels (q := (⟨"DigestTrees$Message", "beginLocked", "(I)V"⟩, 7)) (List.mem_of_getElem? (i := 3) rfl) rfl
theorem ws_4 : Cond.selects "DigestTrees" ⟨"DigestTrees", "isLeaf", "(I)Z"⟩ ⟨"DigestTrees", "isLeaf", "(I)Z"⟩ ∈ wsG := in_sels (q := (⟨"DigestTrees", "isLeaf", "(I)Z"⟩, 10)) (List.mem_of_getElem? (i := 4) rfl) rfl
theorem ws_5 : Cond.selects "DigestTrees" ⟨"DigestTrees", "setLeaf", "(LDigestTrees$Tree;II)V"⟩ ⟨"DigestTrees", "setLeaf", "(LDigestTrees$Tree;II)V"⟩ ∈ wsG := in_sels (q := (⟨"DigestTrees", "setLeaf", "(LDigestTrees$Tree;II)V"⟩, 10)) (List.mem_of_getElem? (i := 5) rfl) rfl
theorem ws_6 : Cond.selects "DigestTrees" ⟨"DigestTrees", "spotOf", "(LDigestTrees$Bytes;)I"⟩ ⟨"DigestTrees", "spotOf", "(LDigestTrees$Bytes;)I"⟩ ∈ wsG := in_sels (q := (⟨"DigestTrees", "spotOf", "(LDigestTrees$Bytes;)I"⟩, 10)) (List.mem_of_getElem? (i := 6) rfl) rfl
theorem ws_7 : Cond.selects "java/lang/NullPointerException" ⟨"java/lang/NullPointerException", "getExtendedNPEMessage", "()Ljava/lang/String;"⟩ ⟨"java/lang/NullPointerException", "getExtendedNPEMessage", "()Ljava/lang/String;"⟩ ∈ wsG := in_sels (q := (⟨"java/lang/NullPointerException", "getExtendedNPEMessage", "()Ljava/lang/String;"⟩, 8)) (List.mem_of_getElem? (i := 7) rfl) rfl
theorem ws_8 : Cond.selects "java/lang/Throwable" ⟨"java/lang/Throwable", "fillInStackTrace", "(I)Ljava/lang/Throwable;"⟩ ⟨"java/lang/Throwable", "fillInStackTrace", "(I)Ljava/lang/Throwable;"⟩ ∈ wsG := in_sels (q := (⟨"java/lang/Throwable", "fillInStackTrace", "(I)Ljava/lang/Throwable;"⟩, 6)) (List.mem_of_getElem? (i := 8) rfl) rfl
theorem ws_9 : Cond.selects "DigestTreesModel" ⟨"DigestTreesModel", "cubeBits", "(I)I"⟩ ⟨"DigestTreesModel", "cubeBits", "(I)I"⟩ ∈ wsG := in_sels (q := (⟨"DigestTreesModel", "cubeBits", "(I)I"⟩, 40)) (List.mem_of_getElem? (i := 9) rfl) rfl
theorem ws_10 : Cond.selects "DigestTreesModel" ⟨"DigestTreesModel", "multiply", "([J[JII)V"⟩ ⟨"DigestTreesModel", "multiply", "([J[JII)V"⟩ ∈ wsG := in_sels (q := (⟨"DigestTreesModel", "multiply", "([J[JII)V"⟩, 40)) (List.mem_of_getElem? (i := 10) rfl) rfl
theorem ws_11 : Cond.selects "DigestTreesModel" ⟨"DigestTreesModel", "squareBits", "(II)I"⟩ ⟨"DigestTreesModel", "squareBits", "(II)I"⟩ ∈ wsG := in_sels (q := (⟨"DigestTreesModel", "squareBits", "(II)I"⟩, 40)) (List.mem_of_getElem? (i := 11) rfl) rfl
theorem ws_12 : Cond.selects "DigestTreesModel" ⟨"DigestTreesModel", "rowsBegin", "()V"⟩ ⟨"DigestTreesModel", "rowsBegin", "()V"⟩ ∈ wsG := in_sels (q := (⟨"DigestTreesModel", "rowsBegin", "()V"⟩, 40)) (List.mem_of_getElem? (i := 12) rfl) rfl
theorem ws_13 : Cond.selects "DigestTreesModel" ⟨"DigestTreesModel", "padKey", "(I)V"⟩ ⟨"DigestTreesModel", "padKey", "(I)V"⟩ ∈ wsG := in_sels (q := (⟨"DigestTreesModel", "padKey", "(I)V"⟩, 40)) (List.mem_of_getElem? (i := 13) rfl) rfl
theorem ws_14 : Cond.selects "DigestTreesModel" ⟨"DigestTreesModel", "put", "(I)V"⟩ ⟨"DigestTreesModel", "put", "(I)V"⟩ ∈ wsG := in_sels (q := (⟨"DigestTreesModel", "put", "(I)V"⟩, 40)) (List.mem_of_getElem? (i := 14) rfl) rfl
theorem ws_15 : Cond.selects "DigestTreesModel" ⟨"DigestTreesModel", "work", "(Z)V"⟩ ⟨"DigestTreesModel", "work", "(Z)V"⟩ ∈ wsG := in_sels (q := (⟨"DigestTreesModel", "work", "(Z)V"⟩, 40)) (List.mem_of_getElem? (i := 15) rfl) rfl
theorem ws_16 : Cond.selects "DigestTreesModel" ⟨"DigestTreesModel", "block", "(I)V"⟩ ⟨"DigestTreesModel", "block", "(I)V"⟩ ∈ wsG := in_sels (q := (⟨"DigestTreesModel", "block", "(I)V"⟩, 40)) (List.mem_of_getElem? (i := 16) rfl) rfl
theorem ws_17 : Cond.selects "DigestTreesModel" ⟨"DigestTreesModel", "byteOfH", "(I)I"⟩ ⟨"DigestTreesModel", "byteOfH", "(I)I"⟩ ∈ wsG := in_sels (q := (⟨"DigestTreesModel", "byteOfH", "(I)I"⟩, 40)) (List.mem_of_getElem? (i := 17) rfl) rfl
theorem ws_18 : Cond.selects "DigestTreesModel" ⟨"DigestTreesModel", "made", "(II)I"⟩ ⟨"DigestTreesModel", "made", "(II)I"⟩ ∈ wsG := in_sels (q := (⟨"DigestTreesModel", "made", "(II)I"⟩, 40)) (List.mem_of_getElem? (i := 18) rfl) rfl
theorem ws_19 : Cond.selects "DigestTreesModel" ⟨"DigestTreesModel", "keepDigest", "(I)I"⟩ ⟨"DigestTreesModel", "keepDigest", "(I)I"⟩ ∈ wsG := in_sels (q := (⟨"DigestTreesModel", "keepDigest", "(I)I"⟩, 40)) (List.mem_of_getElem? (i := 19) rfl) rfl
theorem ws_20 : Cond.selects "DigestTreesModel" ⟨"DigestTreesModel", "isDigest", "(I)Z"⟩ ⟨"DigestTreesModel", "isDigest", "(I)Z"⟩ ∈ wsG := in_sels (q := (⟨"DigestTreesModel", "isDigest", "(I)Z"⟩, 40)) (List.mem_of_getElem? (i := 20) rfl) rfl
theorem ws_21 : Cond.selects "DigestTreesModel" ⟨"DigestTreesModel", "layLeaf", "(III)V"⟩ ⟨"DigestTreesModel", "layLeaf", "(III)V"⟩ ∈ wsG := in_sels (q := (⟨"DigestTreesModel", "layLeaf", "(III)V"⟩, 40)) (List.mem_of_getElem? (i := 21) rfl) rfl
theorem ws_22 : Cond.selects "DigestTreesModel" ⟨"DigestTreesModel", "layLevel", "(I)V"⟩ ⟨"DigestTreesModel", "layLevel", "(I)V"⟩ ∈ wsG := in_sels (q := (⟨"DigestTreesModel", "layLevel", "(I)V"⟩, 40)) (List.mem_of_getElem? (i := 22) rfl) rfl
theorem ws_23 : Cond.selects "DigestTreesModel" ⟨"DigestTreesModel", "toLevel", "(I)V"⟩ ⟨"DigestTreesModel", "toLevel", "(I)V"⟩ ∈ wsG := in_sels (q := (⟨"DigestTreesModel", "toLevel", "(I)V"⟩, 40)) (List.mem_of_getElem? (i := 23) rfl) rfl
theorem ws_24 : Cond.selects "DigestTreesModel" ⟨"DigestTreesModel", "rise", "(I)I"⟩ ⟨"DigestTreesModel", "rise", "(I)I"⟩ ∈ wsG := in_sels (q := (⟨"DigestTreesModel", "rise", "(I)I"⟩, 40)) (List.mem_of_getElem? (i := 24) rfl) rfl
theorem ws_25 : Cond.selects "DigestTreesModel" ⟨"DigestTreesModel", "putWord", "(I)V"⟩ ⟨"DigestTreesModel", "putWord", "(I)V"⟩ ∈ wsG := in_sels (q := (⟨"DigestTreesModel", "putWord", "(I)V"⟩, 40)) (List.mem_of_getElem? (i := 25) rfl) rfl
theorem ws_26 : Cond.selects "DigestTreesModel" ⟨"DigestTreesModel", "workRoot", "(I)V"⟩ ⟨"DigestTreesModel", "workRoot", "(I)V"⟩ ∈ wsG := in_sels (q := (⟨"DigestTreesModel", "workRoot", "(I)V"⟩, 40)) (List.mem_of_getElem? (i := 26) rfl) rfl
theorem ws_27 : Cond.selects "DigestTreesModel" ⟨"DigestTreesModel", "join", "(IZ)V"⟩ ⟨"DigestTreesModel", "join", "(IZ)V"⟩ ∈ wsG := in_sels (q := (⟨"DigestTreesModel", "join", "(IZ)V"⟩, 40)) (List.mem_of_getElem? (i := 27) rfl) rfl
theorem ws_28 : Cond.selects "DigestTreesModel" ⟨"DigestTreesModel", "spotOfTape", "()I"⟩ ⟨"DigestTreesModel", "spotOfTape", "()I"⟩ ∈ wsG := in_sels (q := (⟨"DigestTreesModel", "spotOfTape", "()I"⟩, 40)) (List.mem_of_getElem? (i := 28) rfl) rfl
theorem ws_29 : Cond.selects "DigestTreesModel" ⟨"DigestTreesModel", "look", "(I)I"⟩ ⟨"DigestTreesModel", "look", "(I)I"⟩ ∈ wsG := in_sels (q := (⟨"DigestTreesModel", "look", "(I)I"⟩, 40)) (List.mem_of_getElem? (i := 29) rfl) rfl
theorem ws_30 : Cond.selects "DigestTreesModel" ⟨"DigestTreesModel", "isRow", "(I)Z"⟩ ⟨"DigestTreesModel", "isRow", "(I)Z"⟩ ∈ wsG := in_sels (q := (⟨"DigestTreesModel", "isRow", "(I)Z"⟩, 40)) (List.mem_of_getElem? (i := 30) rfl) rfl
theorem ws_31 : Cond.selects "DigestTreesModel" ⟨"DigestTreesModel", "pairs", "()I"⟩ ⟨"DigestTreesModel", "pairs", "()I"⟩ ∈ wsG := in_sels (q := (⟨"DigestTreesModel", "pairs", "()I"⟩, 40)) (List.mem_of_getElem? (i := 31) rfl) rfl
theorem inG_X0 : ∀ w ∈ u_ws RX0 TX0 2, w ∈ wsG := by
  intro w h
  obtain ⟨k, hk, rfl⟩ := List.mem_map.mp h
  have hk := List.mem_range.mp hk
  match k, hk with
  | 0, _ => exact wk_41
  | 1, _ => exact wk_43
theorem inG_X1 : ∀ w ∈ u_ws RX1 TX1 7, w ∈ wsG := by
  intro w h
  obtain ⟨k, hk, rfl⟩ := List.mem_map.mp h
  have hk := List.mem_range.mp hk
  match k, hk with
  | 0, _ => exact wk_87
  | 1, _ => exact wk_89
  | 2, _ => exact wk_91
  | 3, _ => exact wk_93
  | 4, _ => exact wk_95
  | 5, _ => exact wk_97
  | 6, _ => exact wk_99
theorem inG_X2 : ∀ w ∈ u_ws RX2 TX2 5, w ∈ wsG := by
  intro w h
  obtain ⟨k, hk, rfl⟩ := List.mem_map.mp h
  have hk := List.mem_range.mp hk
  match k, hk with
  | 0, _ => exact wk_61
  | 1, _ => exact wk_63
  | 2, _ => exact wk_65
  | 3, _ => exact wk_67
  | 4, _ => exact wk_69
theorem inG_X3 : ∀ w ∈ u_ws RX3 TX3 2, w ∈ wsG := by
  intro w h
  obtain ⟨k, hk, rfl⟩ := List.mem_map.mp h
  have hk := List.mem_range.mp hk
  match k, hk with
  | 0, _ => exact wk_149
  | 1, _ => exact wk_151
theorem inG_X4 : ∀ w ∈ u_ws RX4 TX4 6, w ∈ wsG := by
  intro w h
  obtain ⟨k, hk, rfl⟩ := List.mem_map.mp h
  have hk := List.mem_range.mp hk
  match k, hk with
  | 0, _ => exact wk_123
  | 1, _ => exact wk_125
  | 2, _ => exact wk_127
  | 3, _ => exact wk_129
  | 4, _ => exact wk_131
  | 5, _ => exact wk_133
theorem inG_X5 : ∀ w ∈ u_ws RX5 TX5 6, w ∈ wsG := by
  intro w h
  obtain ⟨k, hk, rfl⟩ := List.mem_map.mp h
  have hk := List.mem_range.mp hk
  match k, hk with
  | 0, _ => exact wk_171
  | 1, _ => exact wk_173
  | 2, _ => exact wk_175
  | 3, _ => exact wk_177
  | 4, _ => exact wk_179
  | 5, _ => exact wk_181
theorem inG_X6 : ∀ w ∈ u_ws RX6 TX6 3, w ∈ wsG := by
  intro w h
  obtain ⟨k, hk, rfl⟩ := List.mem_map.mp h
  have hk := List.mem_range.mp hk
  match k, hk with
  | 0, _ => exact wk_198
  | 1, _ => exact wk_200
  | 2, _ => exact wk_202
theorem inG_X7 : ∀ w ∈ u_ws RX7 TX7 10, w ∈ wsG := by
  intro w h
  obtain ⟨k, hk, rfl⟩ := List.mem_map.mp h
  have hk := List.mem_range.mp hk
  match k, hk with
  | 0, _ => exact wk_215
  | 1, _ => exact wk_217
  | 2, _ => exact wk_219
  | 3, _ => exact wk_221
  | 4, _ => exact wk_223
  | 5, _ => exact wk_225
  | 6, _ => exact wk_227
  | 7, _ => exact wk_229
  | 8, _ => exact wk_231
  | 9, _ => exact wk_233
theorem inG_X8 : ∀ w ∈ u_ws RX8 TX8 40, w ∈ wsG := by
  intro w h
  obtain ⟨k, hk, rfl⟩ := List.mem_map.mp h
  have hk := List.mem_range.mp hk
  match k, hk with
  | 0, _ => exact wk_707
  | 1, _ => exact wk_709
  | 2, _ => exact wk_711
  | 3, _ => exact wk_713
  | 4, _ => exact wk_715
  | 5, _ => exact wk_717
  | 6, _ => exact wk_719
  | 7, _ => exact wk_721
  | 8, _ => exact wk_723
  | 9, _ => exact wk_725
  | 10, _ => exact wk_727
  | 11, _ => exact wk_729
  | 12, _ => exact wk_731
  | 13, _ => exact wk_733
  | 14, _ => exact wk_735
  | 15, _ => exact wk_737
  | 16, _ => exact wk_739
  | 17, _ => exact wk_741
  | 18, _ => exact wk_743
  | 19, _ => exact wk_745
  | 20, _ => exact wk_747
  | 21, _ => exact wk_749
  | 22, _ => exact wk_751
  | 23, _ => exact wk_753
  | 24, _ => exact wk_755
  | 25, _ => exact wk_757
  | 26, _ => exact wk_759
  | 27, _ => exact wk_761
  | 28, _ => exact wk_763
  | 29, _ => exact wk_765
  | 30, _ => exact wk_767
  | 31, _ => exact wk_769
  | 32, _ => exact wk_771
  | 33, _ => exact wk_773
  | 34, _ => exact wk_775
  | 35, _ => exact wk_777
  | 36, _ => exact wk_779
  | 37, _ => exact wk_781
  | 38, _ => exact wk_783
  | 39, _ => exact wk_785
  | k + 40, hk => exact absurd hk (by omega)
end
section
/-! The pure words of the digests -/
/-- x turned right by k bits, as both texts write it -/
def rotr (x : Int32) (k : Nat) : Int32 := (x.toUInt32 >>> ((nI k).toUInt32 &&& Int32.toUInt32 31)).toInt32 ||| (x <<< (nI (32 - k) &&& 31))
def ushr (x : Int32) (k : Nat) : Int32 := (x.toUInt32 >>> ((nI k).toUInt32 &&& Int32.toUInt32 31)).toInt32
def sg0 (x : Int32) : Int32 := (rotr x 7 ^^^ rotr x 18) ^^^ ushr x 3
def sg1 (x : Int32) : Int32 := (rotr x 17 ^^^ rotr x 19) ^^^ ushr x 10
/-- W(16) .. of W(0) .. W(15): n of them -/
def schN (f : Nat → Int32) : Nat → (Nat → Int32)
  | 0 => f
  | n + 1 => upd (schN f n) (16 + n) (((sg1 (schN f n (16 + n - 2)) + schN f n (16 + n - 7)) + sg0 (schN f n (16 + n - 15))) + schN f n (16 + n - 16))
/-- one round: a .. h are f 0 .. f 7 -/
def rX (k w : Int32) (f : Nat → Int32) : Int32 := (((f 7 + ((rotr (f 4) 6 ^^^ rotr (f 4) 11) ^^^ rotr (f 4) 25)) + ((f 4 &&& f 5) ^^^ ((f 4 ^^^ (-1)) &&& f 6))) + k) + w
def rY (f : Nat → Int32) : Int32 := ((rotr (f 0) 2 ^^^ rotr (f 0) 13) ^^^ rotr (f 0) 22) + (((f 0 &&& f 1) ^^^ (f 0 &&& f 2)) ^^^ (f 1 &&& f 2))
def rSt (k w : Int32) (f : Nat → Int32) : Nat → Int32 := fun j => match j with
  | 0 => rX k w f + rY f
  | 1 => f 0
  | 2 => f 1
  | 3 => f 2
  | 4 => f 3 + rX k w f
  | 5 => f 4
  | 6 => f 5
  | _ => f 6
def rds (K w f : Nat → Int32) : Nat → (Nat → Int32)
  | 0 => f
  | n + 1 => rSt (K n) (w n) (rds K w f n)
/-- H0 .. H7 behind a block of the words w -/
def hAdd (h g : Nat → Int32) : Nat → Int32 := upd (upd (upd (upd (upd (upd (upd (upd h 0 (h 0 + g 0)) 1 (h 1 + g 1)) 2 (h 2 + g 2)) 3 (h 3 + g 3)) 4 (h 4 + g 4)) 5 (h 5 + g 5)) 6 (h 6 + g 6)) 7 (h 7 + g 7)
def cmpB (K h w : Nat → Int32) : Nat → Int32 := hAdd h (rds K w h 64)
/-- four bytes, the highest first -/
def wrd (g : Nat → Int32) (k : Nat) : Int32 := (((g k <<< (nI 24 &&& 31)) ||| (g (k + 1) <<< (nI 16 &&& 31))) ||| (g (k + 2) <<< (nI 8 &&& 31))) ||| g (k + 3)
def wfl (w g : Nat → Int32) (at0 : Nat) : Nat → (Nat → Int32)
  | 0 => w
  | t + 1 => upd (wfl w g at0 t) t (wrd g (at0 + 4 * t))
/-- the words of the block at at0 -/
def wBlk (w g : Nat → Int32) (at0 : Nat) : Nat → Int32 := schN (wfl w g at0 16) 48
def inF (v lo hi : Int32) : Int32 := if v < lo then 0 else if hi < v then 0 else 1
/-- byte k of the words h -/
def byH (h : Nat → Int32) (k : Nat) : Int32 := ushr (h (k / 4)) (24 - 8 * (k % 4)) &&& nI 255
/-! the reference: one object, thirty arrays -/
def tyM (cy : Nat → ClassId) : List (ClassId × FieldType) := [(cy 0, .int), (cy 1, .byte), (cy 2, .long)]
def skM : Nat → wK := fun i => match i with
  | 0 => .inl (11, [none, some 1, some 2, some 3, some 4, some 5, some 6, some 7, none, some 8, some 9, none, none, some 10, none, some 11, none, some 12, some 13, some 14, some 15, some 16, some 17, some 18, some 19, some 20, some 21, some 22, some 23, some 24, some 25, some 26, none, some 27, none, some 28, some 29, some 30, none, none])
  | 1 => .inr (0, 64, fun _ => none)
  | 2 => .inr (0, 8, fun _ => none)
  | 3 => .inr (0, 8, fun _ => none)
  | 4 => .inr (2, 16, fun _ => none)
  | 5 => .inr (2, 16, fun _ => none)
  | 6 => .inr (2, 16, fun _ => none)
  | 7 => .inr (0, 2400, fun _ => none)
  | 8 => .inr (0, 8, fun _ => none)
  | 9 => .inr (0, 64, fun _ => none)
  | 10 => .inr (0, 200, fun _ => none)
  | 11 => .inr (0, 200, fun _ => none)
  | 12 => .inr (0, 60, fun _ => none)
  | 13 => .inr (0, 60, fun _ => none)
  | 14 => .inr (0, 1920, fun _ => none)
  | 15 => .inr (0, 3840, fun _ => none)
  | 16 => .inr (0, 320, fun _ => none)
  | 17 => .inr (0, 5, fun _ => none)
  | 18 => .inr (0, 8000, fun _ => none)
  | 19 => .inr (0, 4, fun _ => none)
  | 20 => .inr (0, 4, fun _ => none)
  | 21 => .inr (0, 8, fun _ => none)
  | 22 => .inr (0, 4, fun _ => none)
  | 23 => .inr (0, 48, fun _ => none)
  | 24 => .inr (0, 48, fun _ => none)
  | 25 => .inr (0, 1920, fun _ => none)
  | 26 => .inr (0, 96, fun _ => none)
  | 27 => .inr (0, 32, fun _ => none)
  | 28 => .inr (0, 40, fun _ => none)
  | 29 => .inr (0, 1600, fun _ => none)
  | _ => .inr (0, 40, fun _ => none)
theorem up_up {α : Type} (f : Nat → α) (i : Nat) (a b : α) : va_up (va_up f i a) i b = va_up f i b := bx_uu f i a b
theorem up_at {α : Type} (f : Nat → α) (i : Nat) (a : α) : va_up f i a i = a := by simp [va_up]
theorem up_id {α : Type} (f : Nat → α) (i : Nat) : va_up f i (f i) = f := by
  funext j
  by_cases h : j = i
  · subst h; simp [va_up]
  · simp [va_up, h]
/-- the reference's message: n bytes, the array holds g -/
def pst (S : wS) (g : Nat → Int32) (n : Nat) : wS := sI (sB S 7 g) 0 8 (nI n)
theorem pst_put (S : wS) (g g' : Nat → Int32) (n n' : Nat) : sI (sB (pst S g n) 7 g') 0 8 (nI n') = pst S g' n' := by
  simp [pst, sI, sB, up_up, up_at]
theorem pst_pst (S : wS) (g g' : Nat → Int32) (n n' : Nat) : pst (pst S g n) g' n' = pst S g' n' := pst_put S g g' n n'
theorem pst_0 (S : wS) : sI S 0 8 (nI 0) = pst S (S.2.1 7) 0 := by
  simp [pst, sI, sB, up_id]
/-- f 0 .. f (k-1) put behind n0 -/
def pts (g : Nat → Int32) (n0 : Nat) (f : Nat → Int32) : Nat → (Nat → Int32)
  | 0 => g
  | k + 1 => upd (pts g n0 f k) (n0 + k) (f k)
theorem pts_at (g : Nat → Int32) (n0 : Nat) (f : Nat → Int32) (k j : Nat) : pts g n0 f k j = if n0 ≤ j ∧ j < n0 + k then f (j - n0) else g j := by
  induction k with
  | zero => simp [pts]; omega
  | succ k ih =>
    simp only [pts, upd]
    by_cases h : j = n0 + k
    · subst h
      rw [if_pos rfl, if_pos (by omega)]
      congr 1
      omega
    · rw [if_neg h, ih]
      by_cases h2 : n0 ≤ j ∧ j < n0 + k
      · rw [if_pos h2, if_pos (by omega)]
      · rw [if_neg h2, if_neg (by omega)]
theorem sB_sB (S : wS) (i : Nat) (f g : Nat → Int32) : sB (sB S i f) i g = sB S i g := by simp [sB, up_up]
theorem sJ_sJ (S : wS) (i : Nat) (f g : Nat → Int64) : sJ (sJ S i f) i g = sJ S i g := by simp [sJ, up_up]
theorem sI_sI (S : wS) (i k : Nat) (a b : Int32) : sI (sI S i k a) i k b = sI S i k b := by simp [sI, up_up, up_at]
theorem up_cm {α : Type} (f : Nat → α) {i j : Nat} (h : i ≠ j) (a b : α) : va_up (va_up f i a) j b = va_up (va_up f j b) i a := by
  funext k
  by_cases h1 : k = i
  · subst h1; simp [va_up, h]
  · by_cases h2 : k = j
    · subst h2; simp [va_up, h1]
    · simp [va_up, h1, h2]
/-- what the reference's work() leaves: H0 .. H7, the last block's words, how many blocks were gone through -/
def wst (S : wS) (h w : Nat → Int32) (q : Nat) : wS := sI (sB (sB S 8 h) 9 w) 0 11 (nI q)
theorem wst_blk (S : wS) (h w h' w' : Nat → Int32) (q : Nat) : sB (sB (wst S h w q) 9 w') 8 h' = wst S h' w' q := by
  simp only [wst, sI, sB, up_up]
  rw [up_cm (va_up S.2.1 8 h) (by decide : (9 : Nat) ≠ 8), up_up]
theorem wst_gone (S : wS) (h w : Nat → Int32) (q q' : Nat) : sI (wst S h w q) 0 11 (nI q') = wst S h w q' := sI_sI _ _ _ _ _
theorem wst_size (S : wS) (g h w : Nat → Int32) (n q : Nat) : sI (wst (pst S g n) h w q) 0 8 (nI 0) = wst (pst S g 0) h w q := by
  simp only [wst, pst, sI, sB, up_up, up_at]
  rw [up_cm (va_up (S.1 0) 8 (nI n)) (by decide : (11 : Nat) ≠ 8), up_up]
def cps (h f : Nat → Int32) : Nat → (Nat → Int32)
  | 0 => h
  | k + 1 => upd (cps h f k) k (f k)
theorem cps_at (h f : Nat → Int32) (k j : Nat) : cps h f k j = if j < k then f j else h j := by
  induction k with
  | zero => simp [cps]
  | succ k ih =>
    simp only [cps, upd]
    by_cases e : j = k
    · subst e; simp
    · rw [if_neg e, ih]
      by_cases h2 : j < k
      · rw [if_pos h2, if_pos (by omega)]
      · rw [if_neg h2, if_neg (by omega)]
/-- a byte of how many bits -/
def lenB (n k : Nat) : Int32 := (((((8) * (nI n).toInt64).toUInt64 >>> ((nI k).toInt64.toUInt64 &&& Int64.toUInt64 63)).toInt64) &&& 255).toInt32
def padZ (n : Nat) : Nat := (119 - n % 64) % 64
def padL (n : Nat) : Nat := n + 1 + padZ n + 8
def padM (g : Nat → Int32) (n : Nat) : Nat → Int32 := upd (upd (upd (upd (upd (upd (upd (upd (pts (upd g n (nI 128)) (n + 1) (fun _ => nI 0) (padZ n)) (n + 1 + padZ n) (lenB n 56)) (n + 1 + padZ n + 1) (lenB n 48)) (n + 1 + padZ n + 1 + 1) (lenB n 40)) (n + 1 + padZ n + 1 + 1 + 1) (lenB n 32)) (n + 1 + padZ n + 1 + 1 + 1 + 1) (lenB n 24)) (n + 1 + padZ n + 1 + 1 + 1 + 1 + 1) (lenB n 16)) (n + 1 + padZ n + 1 + 1 + 1 + 1 + 1 + 1) (lenB n 8)) (n + 1 + padZ n + 1 + 1 + 1 + 1 + 1 + 1 + 1) (lenB n 0)
/-- H0 .. H7 and the words, b blocks far -/
def bks (K g : Nat → Int32) (h w : Nat → Int32) : Nat → (Nat → Int32) × (Nat → Int32)
  | 0 => (h, w)
  | b + 1 => (cmpB K (bks K g h w b).1 (wBlk (bks K g h w b).2 g (64 * b)), wBlk (bks K g h w b).2 g (64 * b))
/-- where H0 .. H7 begin, by narrow -/
def hSrc (S : wS) (z : Int32) : Nat → Int32 := if z = 0 then S.2.1 2 else S.2.1 3
end
section
set_option maxHeartbeats 4000000 in
set_option maxRecDepth 100000 in
theorem k_X8_right (l : Launch) (D : va_G) (cy : Nat → ClassId) (ad : Nat → Nat) (S : wS) (x : Int32) (k : Nat) (hk : k ≤ 32) : CtI l yX8_right (Cond.code yX8_right cX8_right 2 (some .int) :: wsG) 0 0 [.int (x), .int (nI (k))] D (tyM cy) 0 cy ad skM E0 (S) (fun r _ => r = rotr x k) := by
  refine CtI_of (by decide) (Nat.le_of_ble_eq_true rfl) ?_
  intro p e s m args below meth c A ls R Q hB hRf hRl hend
  obtain ⟨hx, hbc, hr, hg, hown, hml, hlk, w, hE, hl⟩ := hB
  have hl : lv_has ls 2 [(0, .int (x)), (1, .int (nI (k)))] := hl
  refine lv_iload_n hx hbc dX8_right_0 rfl (lv_at hl 0 rfl) ?_
  refine lv_iload_n hx hbc dX8_right_1 rfl (lv_at hl 1 rfl) ?_
  refine lv_iushr hx hbc dX8_right_2 rfl ?_
  refine lv_iload_n hx hbc dX8_right_3 rfl (lv_at hl 0 rfl) ?_
  refine lv_bipush (v := nI (32)) hx hbc dX8_right_4 (by decide) ?_
  refine lv_iload_n hx hbc dX8_right_6 rfl (lv_at hl 1 rfl) ?_
  refine n_isub (by omega) hx hbc dX8_right_7 ?_
  refine lv_ishl hx hbc dX8_right_8 ?_
  refine lv_ior hx hbc dX8_right_9 ?_
  exact hend _ _ _ _ _ _ rfl rfl w dX8_right_10
set_option maxHeartbeats 4000000 in
set_option maxRecDepth 100000 in
theorem k_X8_in (l : Launch) (D : va_G) (cy : Nat → ClassId) (ad : Nat → Nat) (S : wS) (v lo hi : Int32) : CtI l yX8_in (Cond.code yX8_in cX8_in 3 (some .boolean) :: wsG) 0 0 [.int (v), .int (lo), .int (hi)] D (tyM cy) 0 cy ad skM E0 (S) (fun r _ => r = inF v lo hi) := by
  refine CtI_of (by decide) (Nat.le_of_ble_eq_true rfl) ?_
  intro p e s m args below meth c A ls R Q hB hRf hRl hend
  obtain ⟨hx, hbc, hr, hg, hown, hml, hlk, w, hE, hl⟩ := hB
  have hl : lv_has ls 3 [(0, .int (v)), (1, .int (lo)), (2, .int (hi))] := hl
  refine lv_iload_n hx hbc dX8_in_0 rfl (lv_at hl 0 rfl) ?_
  refine lv_iload_n hx hbc dX8_in_1 rfl (lv_at hl 1 rfl) ?_
  refine lv_icmp_lt (tgt := 14) hx hbc dX8_in_2 (by decide) (fun c_2 => ?_) (fun c_2 => ?_)
  · refine lv_iconst (v := nI (0)) hx hbc dX8_in_14 (by decide) ?_
    exact hend _ _ _ _ _ _ (by first | (rw [inF, if_pos c_2]; rfl) | (rw [inF, if_neg c_2, if_pos c_7]; rfl) | (rw [inF, if_neg c_2, if_neg c_7]; rfl)) (by decide) w dX8_in_15
  · refine lv_iload_n hx hbc dX8_in_5 rfl (lv_at hl 0 rfl) ?_
    refine lv_iload_n hx hbc dX8_in_6 rfl (lv_at hl 2 rfl) ?_
    refine lv_icmp_gt (tgt := 14) hx hbc dX8_in_7 (by decide) (fun c_7 => ?_) (fun c_7 => ?_)
    · refine lv_iconst (v := nI (0)) hx hbc dX8_in_14 (by decide) ?_
      exact hend _ _ _ _ _ _ (by first | (rw [inF, if_pos c_2]; rfl) | (rw [inF, if_neg c_2, if_pos c_7]; rfl) | (rw [inF, if_neg c_2, if_neg c_7]; rfl)) (by decide) w dX8_in_15
    · refine lv_iconst (v := nI (1)) hx hbc dX8_in_10 (by decide) ?_
      refine lv_goto (tgt := 15) hx hbc dX8_in_11 (by decide) ?_
      exact hend _ _ _ _ _ _ (by first | (rw [inF, if_pos c_2]; rfl) | (rw [inF, if_neg c_2, if_pos c_7]; rfl) | (rw [inF, if_neg c_2, if_neg c_7]; rfl)) (by decide) w dX8_in_15
set_option maxHeartbeats 4000000 in
set_option maxRecDepth 100000 in
theorem k_X8_put (l : Launch) (D : va_G) (cy : Nat → ClassId) (ad : Nat → Nat) (S : wS) (b : Int32) (n : Nat) (hn : S.1 0 8 = nI n) (hn2 : n < 2400) : CtV l yX8_put (Cond.code yX8_put cX8_put 2 none :: wsG) 0 0 [.ref (ad (0)), .int (b)] D (tyM cy) 31 cy ad skM E0 (S) (fun S' => S' = pst S (upd (S.2.1 7) n b) (n + 1)) := by
  refine CtV_of (by decide) (Nat.le_of_ble_eq_true rfl) ?_
  intro p e s m args below meth c A ls R Q hB hRf hRl hend
  obtain ⟨hx, hbc, hr, hg, hown, hml, hlk, w, hE, hl⟩ := hB
  have hl : lv_has ls 2 [(0, .ref (ad (0))), (1, .int (b))] := hl
  refine lv_aload_n hx hbc dX8_put_0 rfl (lv_at hl 0 rfl) ?_
  refine wb_gr (t := 7) hx hbc hg hown w inG_X8 0 (by decide) rfl rfl 7 (by decide) rfl wk_674 dX8_put_1 ?_
  refine lv_aload_n hx hbc dX8_put_4 rfl (lv_at hl 0 rfl) ?_
  refine wb_gi (v := nI (n)) hx hbc hg hown w inG_X8 0 (by decide) rfl rfl 8 (by decide) rfl wk_675 hn dX8_put_5 ?_
  refine lv_iload_n hx hbc dX8_put_8 rfl (lv_at hl 1 rfl) ?_
  refine wb_iast (k := n) (f := S.2.1 7) hx hbc w 7 (by decide) rfl 0 rfl rfl (by omega) (by decide) rfl rfl dX8_put_9 (fun H locs w => ?_)
  refine lv_aload_n hx hbc dX8_put_10 rfl (lv_at hl 0 rfl) ?_
  refine lv_dup hx hbc dX8_put_11 rfl ?_
  refine wb_gi (v := nI (n)) hx hbc hg hown w inG_X8 0 (by decide) rfl rfl 8 (by decide) rfl wk_675 hn dX8_put_12 ?_
  refine lv_iconst (v := nI (1)) hx hbc dX8_put_15 (by decide) ?_
  refine n_iadd hx hbc dX8_put_16 ?_
  refine wb_pi (v := nI (n + 1)) hx hbc hg hown w inG_X8 tyX8 tyX8_ok nmX8 0 (by decide) rfl rfl 8 (by decide) rfl wk_675 rfl rfl rfl rfl dX8_put_17 (fun H locs w => ?_)
  exact hend _ _ _ _ _ rfl w dX8_put_20
set_option maxHeartbeats 4000000 in
set_option maxRecDepth 100000 in
theorem k_X8_byteOfH (l : Launch) (D : va_G) (cy : Nat → ClassId) (ad : Nat → Nat) (S : wS) (k : Nat) (hk : k < 32) : CtI l yX8_byteOfH (Cond.code yX8_byteOfH cX8_byteOfH 2 (some .int) :: wsG) 0 0 [.ref (ad (0)), .int (nI (k))] D (tyM cy) 31 cy ad skM E0 (S) (fun r S' => r = byH (S.2.1 8) k ∧ S' = S) := by
  refine CtI_of (by decide) (Nat.le_of_ble_eq_true rfl) ?_
  intro p e s m args below meth c A ls R Q hB hRf hRl hend
  obtain ⟨hx, hbc, hr, hg, hown, hml, hlk, w, hE, hl⟩ := hB
  have hl : lv_has ls 2 [(0, .ref (ad (0))), (1, .int (nI (k)))] := hl
  refine lv_aload_n hx hbc dX8_byteOfH_0 rfl (lv_at hl 0 rfl) ?_
  refine wb_gr (t := 8) hx hbc hg hown w inG_X8 0 (by decide) rfl rfl 9 (by decide) rfl wk_676 dX8_byteOfH_1 ?_
  refine lv_iload_n hx hbc dX8_byteOfH_4 rfl (lv_at hl 1 rfl) ?_
  refine lv_iconst (v := nI (4)) hx hbc dX8_byteOfH_5 (by decide) ?_
  refine n_idiv (by omega) (by omega) (by omega) hx hbc dX8_byteOfH_6 ?_
  refine wb_iald (k := k / 4) (v := (S.2.1 8) (k / 4)) hx hbc w 8 (by decide) rfl 0 rfl rfl (by omega) (by decide) rfl dX8_byteOfH_7 ?_
  refine lv_bipush (v := nI (24)) hx hbc dX8_byteOfH_8 (by decide) ?_
  refine lv_bipush (v := nI (8)) hx hbc dX8_byteOfH_10 (by decide) ?_
  refine lv_iload_n hx hbc dX8_byteOfH_12 rfl (lv_at hl 1 rfl) ?_
  refine lv_iconst (v := nI (4)) hx hbc dX8_byteOfH_13 (by decide) ?_
  refine n_irem (by omega) (by omega) (by omega) hx hbc dX8_byteOfH_14 ?_
  refine n_imul hx hbc dX8_byteOfH_15 ?_
  refine n_isub (by omega) hx hbc dX8_byteOfH_16 ?_
  refine lv_iushr hx hbc dX8_byteOfH_17 rfl ?_
  refine lv_sipush (v := nI (255)) hx hbc dX8_byteOfH_18 (by decide) ?_
  refine lv_iand hx hbc dX8_byteOfH_21 ?_
  exact hend _ _ _ _ _ _ ⟨rfl, rfl⟩ rfl w dX8_byteOfH_22
set_option maxHeartbeats 4000000 in
set_option maxRecDepth 100000 in
theorem k_X8_putWord (l : Launch) (D : va_G) (cy : Nat → ClassId) (ad : Nat → Nat) (S : wS) (g : Nat → Int32) (x : Int32) (n : Nat) (hn2 : n + 4 ≤ 2400) : CtV l yX8_putWord (Cond.code yX8_putWord cX8_putWord 2 none :: wsG) 1 21 [.ref (ad (0)), .int (x)] D (tyM cy) 31 cy ad skM E0 (pst S g n) (fun S' => S' = pst S (upd (upd (upd (upd g n (ushr x 24)) (n + 1) (ushr x 16 &&& nI 255)) (n + 1 + 1) (ushr x 8 &&& nI 255)) (n + 1 + 1 + 1) (x &&& nI 255)) (n + 1 + 1 + 1 + 1)) := by
  refine CtV_of (by decide) (Nat.le_of_ble_eq_true rfl) ?_
  intro p e s m args below meth c A ls R Q hB hRf hRl hend
  obtain ⟨hx, hbc, hr, hg, hown, hml, hlk, w, hE, hl⟩ := hB
  have hl : lv_has ls 2 [(0, .ref (ad (0))), (1, .int (x))] := hl
  refine lv_aload_n hx hbc dX8_putWord_0 rfl (lv_at hl 0 rfl) ?_
  refine lv_iload_n hx hbc dX8_putWord_1 rfl (lv_at hl 1 rfl) ?_
  refine lv_bipush (v := nI (24)) hx hbc dX8_putWord_2 (by decide) ?_
  refine lv_iushr hx hbc dX8_putWord_4 rfl ?_
  refine wb_Vv (na := 1) (As := [.int ((x.toUInt32 >>> ((nI (24)).toUInt32 &&& Int32.toUInt32 31)).toInt32)]) (rest := []) hx hbc hml hg hown w E0_ok trivial w.1 Sub.self 0 (by decide) rfl rfl (k_X8_put l D cy ad (pst S g n) ((x.toUInt32 >>> ((nI (24)).toUInt32 &&& Int32.toUInt32 31)).toInt32) n rfl (by omega)) wk_816 wk_9 wk_813 wk_815 ws_14 ⟨by decide, by decide, by decide⟩ ⟨by rw [hRf]; decide, by rw [hRl]; decide⟩ rfl hl.1 rfl (Nat.le_of_ble_eq_true rfl) dX8_putWord_5 ⟨Nat.zero_le _, Nat.zero_le _⟩ (fun S9 H locs hp w => ?_)
  subst hp
  have w := WB_cast w (pst_pst _ _ _ _ _)
  have w : WB D (tyM cy) 31 cy ad skM A s (pst S (upd g n ((x.toUInt32 >>> ((nI (24)).toUInt32 &&& Int32.toUInt32 31)).toInt32)) (n + 1)) H locs := w
  refine lv_aload_n hx hbc dX8_putWord_8 rfl (lv_at hl 0 rfl) ?_
  refine lv_iload_n hx hbc dX8_putWord_9 rfl (lv_at hl 1 rfl) ?_
  refine lv_bipush (v := nI (16)) hx hbc dX8_putWord_10 (by decide) ?_
  refine lv_iushr hx hbc dX8_putWord_12 rfl ?_
  refine lv_sipush (v := nI (255)) hx hbc dX8_putWord_13 (by decide) ?_
  refine lv_iand hx hbc dX8_putWord_16 ?_
  refine wb_Vv (na := 1) (As := [.int (((x.toUInt32 >>> ((nI (16)).toUInt32 &&& Int32.toUInt32 31)).toInt32) &&& (nI (255)))]) (rest := []) hx hbc hml hg hown w E0_ok trivial w.1 Sub.self 0 (by decide) rfl rfl (k_X8_put l D cy ad (pst S (upd g n ((x.toUInt32 >>> ((nI (24)).toUInt32 &&& Int32.toUInt32 31)).toInt32)) (n + 1)) (((x.toUInt32 >>> ((nI (16)).toUInt32 &&& Int32.toUInt32 31)).toInt32) &&& (nI (255))) (n + 1) rfl (by omega)) wk_816 wk_9 wk_813 wk_815 ws_14 ⟨by decide, by decide, by decide⟩ ⟨by rw [hRf]; decide, by rw [hRl]; decide⟩ rfl hl.1 rfl (Nat.le_of_ble_eq_true rfl) dX8_putWord_17 ⟨Nat.zero_le _, Nat.zero_le _⟩ (fun S9 H locs hp w => ?_)
  subst hp
  have w := WB_cast w (pst_pst _ _ _ _ _)
  have w : WB D (tyM cy) 31 cy ad skM A s (pst S (upd (upd g n ((x.toUInt32 >>> ((nI (24)).toUInt32 &&& Int32.toUInt32 31)).toInt32)) (n + 1) (((x.toUInt32 >>> ((nI (16)).toUInt32 &&& Int32.toUInt32 31)).toInt32) &&& (nI (255)))) (n + 1 + 1)) H locs := w
  refine lv_aload_n hx hbc dX8_putWord_20 rfl (lv_at hl 0 rfl) ?_
  refine lv_iload_n hx hbc dX8_putWord_21 rfl (lv_at hl 1 rfl) ?_
  refine lv_bipush (v := nI (8)) hx hbc dX8_putWord_22 (by decide) ?_
  refine lv_iushr hx hbc dX8_putWord_24 rfl ?_
  refine lv_sipush (v := nI (255)) hx hbc dX8_putWord_25 (by decide) ?_
  refine lv_iand hx hbc dX8_putWord_28 ?_
  refine wb_Vv (na := 1) (As := [.int (((x.toUInt32 >>> ((nI (8)).toUInt32 &&& Int32.toUInt32 31)).toInt32) &&& (nI (255)))]) (rest := []) hx hbc hml hg hown w E0_ok trivial w.1 Sub.self 0 (by decide) rfl rfl (k_X8_put l D cy ad (pst S (upd (upd g n ((x.toUInt32 >>> ((nI (24)).toUInt32 &&& Int32.toUInt32 31)).toInt32)) (n + 1) (((x.toUInt32 >>> ((nI (16)).toUInt32 &&& Int32.toUInt32 31)).toInt32) &&& (nI (255)))) (n + 1 + 1)) (((x.toUInt32 >>> ((nI (8)).toUInt32 &&& Int32.toUInt32 31)).toInt32) &&& (nI (255))) (n + 1 + 1) rfl (by omega)) wk_816 wk_9 wk_813 wk_815 ws_14 ⟨by decide, by decide, by decide⟩ ⟨by rw [hRf]; decide, by rw [hRl]; decide⟩ rfl hl.1 rfl (Nat.le_of_ble_eq_true rfl) dX8_putWord_29 ⟨Nat.zero_le _, Nat.zero_le _⟩ (fun S9 H locs hp w => ?_)
  subst hp
  have w := WB_cast w (pst_pst _ _ _ _ _)
  have w : WB D (tyM cy) 31 cy ad skM A s (pst S (upd (upd (upd g n ((x.toUInt32 >>> ((nI (24)).toUInt32 &&& Int32.toUInt32 31)).toInt32)) (n + 1) (((x.toUInt32 >>> ((nI (16)).toUInt32 &&& Int32.toUInt32 31)).toInt32) &&& (nI (255)))) (n + 1 + 1) (((x.toUInt32 >>> ((nI (8)).toUInt32 &&& Int32.toUInt32 31)).toInt32) &&& (nI (255)))) (n + 1 + 1 + 1)) H locs := w
  refine lv_aload_n hx hbc dX8_putWord_32 rfl (lv_at hl 0 rfl) ?_
  refine lv_iload_n hx hbc dX8_putWord_33 rfl (lv_at hl 1 rfl) ?_
  refine lv_sipush (v := nI (255)) hx hbc dX8_putWord_34 (by decide) ?_
  refine lv_iand hx hbc dX8_putWord_37 ?_
  refine wb_Vv (na := 1) (As := [.int (x &&& (nI (255)))]) (rest := []) hx hbc hml hg hown w E0_ok trivial w.1 Sub.self 0 (by decide) rfl rfl (k_X8_put l D cy ad (pst S (upd (upd (upd g n ((x.toUInt32 >>> ((nI (24)).toUInt32 &&& Int32.toUInt32 31)).toInt32)) (n + 1) (((x.toUInt32 >>> ((nI (16)).toUInt32 &&& Int32.toUInt32 31)).toInt32) &&& (nI (255)))) (n + 1 + 1) (((x.toUInt32 >>> ((nI (8)).toUInt32 &&& Int32.toUInt32 31)).toInt32) &&& (nI (255)))) (n + 1 + 1 + 1)) (x &&& (nI (255))) (n + 1 + 1 + 1) rfl (by omega)) wk_816 wk_9 wk_813 wk_815 ws_14 ⟨by decide, by decide, by decide⟩ ⟨by rw [hRf]; decide, by rw [hRl]; decide⟩ rfl hl.1 rfl (Nat.le_of_ble_eq_true rfl) dX8_putWord_38 ⟨Nat.zero_le _, Nat.zero_le _⟩ (fun S9 H locs hp w => ?_)
  subst hp
  have w := WB_cast w (pst_pst _ _ _ _ _)
  have w : WB D (tyM cy) 31 cy ad skM A s (pst S (upd (upd (upd (upd g n ((x.toUInt32 >>> ((nI (24)).toUInt32 &&& Int32.toUInt32 31)).toInt32)) (n + 1) (((x.toUInt32 >>> ((nI (16)).toUInt32 &&& Int32.toUInt32 31)).toInt32) &&& (nI (255)))) (n + 1 + 1) (((x.toUInt32 >>> ((nI (8)).toUInt32 &&& Int32.toUInt32 31)).toInt32) &&& (nI (255)))) (n + 1 + 1 + 1) (x &&& (nI (255)))) (n + 1 + 1 + 1 + 1)) H locs := w
  exact hend _ _ _ _ _ rfl w dX8_putWord_41
set_option maxHeartbeats 4000000 in
set_option maxRecDepth 100000 in
theorem k_X8_block (l : Launch) (D : va_G) (cy : Nat → ClassId) (ad : Nat → Nat) (S : wS) (at0 : Nat) (hat : at0 + 64 ≤ 2400) : CtV l yX8_block (Cond.code yX8_block cX8_block 13 none :: wsG) 1 21 [.ref (ad (0)), .int (nI (at0))] D (tyM cy) 31 cy ad skM E0 (S) (fun S' => S' = sB (sB S 9 (wBlk (S.2.1 9) (S.2.1 7) at0)) 8 (cmpB (S.2.1 1) (S.2.1 8) (wBlk (S.2.1 9) (S.2.1 7) at0))) := by
  refine CtV_of (by decide) (Nat.le_of_ble_eq_true rfl) ?_
  intro p e s m args below meth c A ls R Q hB hRf hRl hend
  obtain ⟨hx, hbc, hr, hg, hown, hml, hlk, w, hE, hl⟩ := hB
  have hl : lv_has ls 13 [(0, .ref (ad (0))), (1, .int (nI (at0)))] := hl
  refine lv_iconst (v := nI (0)) hx hbc dX8_block_0 (by decide) ?_
  refine lv_istore_n (lv' := [(2, .int (nI (0))), (0, .ref (ad (0))), (1, .int (nI (at0)))]) hx hbc dX8_block_1 rfl hl (by decide) rfl (fun ls hl => ?_)
  have lp_2 : ∀ (fu : Nat) (t : Nat) (H : Heap) (locs : List Loc) (ls : Array Slot), 16 < t + fu → t ≤ 16 → WB D (tyM cy) 31 cy ad skM A s (sB S 9 (wfl (S.2.1 9) (S.2.1 7) at0 t)) H locs → lv_has ls 13 [(0, .ref (ad (0))), (1, .int (nI (at0))), (2, .int (nI (t)))] → W p l e R s m args below meth c H locs 0 0 Q (F0 m 2 ls []) := by
    intro fu
    induction fu with
    | zero =>
      intro t H locs ls h1 h2 w hl
      exact absurd h1 (by omega)
    | succ fu ih =>
      intro t H locs ls h1 h2 w hl
      refine lv_iload_n hx hbc dX8_block_2 rfl (lv_at hl 2 rfl) ?_
      refine lv_bipush (v := nI (16)) hx hbc dX8_block_3 (by decide) ?_
      refine n_cmp_ge (tgt := 68) (by omega) (by omega) hx hbc dX8_block_5 (by decide) (fun c_5 => ?_) (fun c_5 => ?_)
      · obtain rfl : t = 16 := by omega
        refine lv_bipush (v := nI (16)) hx hbc dX8_block_68 (by decide) ?_
        refine lv_istore_n (lv' := [(2, .int (nI (16))), (0, .ref (ad (0))), (1, .int (nI (at0)))]) hx hbc dX8_block_70 rfl hl (by decide) rfl (fun ls hl => ?_)
        have lp_71 : ∀ (fu : Nat) (u : Nat) (H : Heap) (locs : List Loc) (ls : Array Slot), 48 < u + fu → u ≤ 48 → WB D (tyM cy) 31 cy ad skM A s (sB S 9 (schN (wfl (S.2.1 9) (S.2.1 7) at0 16) u)) H locs → lv_has ls 13 [(0, .ref (ad (0))), (1, .int (nI (at0))), (2, .int (nI (16 + u)))] → W p l e R s m args below meth c H locs 0 0 Q (F0 m 71 ls []) := by
          intro fu
          induction fu with
          | zero =>
            intro u H locs ls h1 h2 w hl
            exact absurd h1 (by omega)
          | succ fu ih =>
            intro u H locs ls h1 h2 w hl
            refine lv_iload_n hx hbc dX8_block_71 rfl (lv_at hl 2 rfl) ?_
            refine lv_bipush (v := nI (64)) hx hbc dX8_block_72 (by decide) ?_
            refine n_cmp_ge (tgt := 168) (by omega) (by omega) hx hbc dX8_block_74 (by decide) (fun c_74 => ?_) (fun c_74 => ?_)
            · obtain rfl : u = 48 := by omega
              refine lv_aload_n hx hbc dX8_block_168 rfl (lv_at hl 0 rfl) ?_
              refine wb_gr (t := 8) hx hbc hg hown w inG_X8 0 (by decide) rfl rfl 9 (by decide) rfl wk_676 dX8_block_169 ?_
              refine lv_iconst (v := nI (0)) hx hbc dX8_block_172 (by decide) ?_
              refine wb_iald (k := 0) (v := (S.2.1 8) 0) hx hbc w 8 (by decide) rfl 0 rfl rfl (by omega) (by decide) rfl dX8_block_173 ?_
              refine lv_istore_n (lv' := [(2, .int ((S.2.1 8) 0)), (0, .ref (ad (0))), (1, .int (nI (at0)))]) hx hbc dX8_block_174 rfl hl (by decide) rfl (fun ls hl => ?_)
              refine lv_aload_n hx hbc dX8_block_175 rfl (lv_at hl 1 rfl) ?_
              refine wb_gr (t := 8) hx hbc hg hown w inG_X8 0 (by decide) rfl rfl 9 (by decide) rfl wk_676 dX8_block_176 ?_
              refine lv_iconst (v := nI (1)) hx hbc dX8_block_179 (by decide) ?_
              refine wb_iald (k := 1) (v := (S.2.1 8) 1) hx hbc w 8 (by decide) rfl 0 rfl rfl (by omega) (by decide) rfl dX8_block_180 ?_
              refine lv_istore_n (lv' := [(3, .int ((S.2.1 8) 1)), (2, .int ((S.2.1 8) 0)), (0, .ref (ad (0))), (1, .int (nI (at0)))]) hx hbc dX8_block_181 rfl hl (by decide) rfl (fun ls hl => ?_)
              refine lv_aload_n hx hbc dX8_block_182 rfl (lv_at hl 2 rfl) ?_
              refine wb_gr (t := 8) hx hbc hg hown w inG_X8 0 (by decide) rfl rfl 9 (by decide) rfl wk_676 dX8_block_183 ?_
              refine lv_iconst (v := nI (2)) hx hbc dX8_block_186 (by decide) ?_
              refine wb_iald (k := 2) (v := (S.2.1 8) 2) hx hbc w 8 (by decide) rfl 0 rfl rfl (by omega) (by decide) rfl dX8_block_187 ?_
              refine lv_istore (lv' := [(4, .int ((S.2.1 8) 2)), (3, .int ((S.2.1 8) 1)), (2, .int ((S.2.1 8) 0)), (0, .ref (ad (0))), (1, .int (nI (at0)))]) hx hbc dX8_block_188 hl (by decide) rfl (fun ls hl => ?_)
              refine lv_aload_n hx hbc dX8_block_190 rfl (lv_at hl 3 rfl) ?_
              refine wb_gr (t := 8) hx hbc hg hown w inG_X8 0 (by decide) rfl rfl 9 (by decide) rfl wk_676 dX8_block_191 ?_
              refine lv_iconst (v := nI (3)) hx hbc dX8_block_194 (by decide) ?_
              refine wb_iald (k := 3) (v := (S.2.1 8) 3) hx hbc w 8 (by decide) rfl 0 rfl rfl (by omega) (by decide) rfl dX8_block_195 ?_
              refine lv_istore (lv' := [(5, .int ((S.2.1 8) 3)), (4, .int ((S.2.1 8) 2)), (3, .int ((S.2.1 8) 1)), (2, .int ((S.2.1 8) 0)), (0, .ref (ad (0))), (1, .int (nI (at0)))]) hx hbc dX8_block_196 hl (by decide) rfl (fun ls hl => ?_)
              refine lv_aload_n hx hbc dX8_block_198 rfl (lv_at hl 4 rfl) ?_
              refine wb_gr (t := 8) hx hbc hg hown w inG_X8 0 (by decide) rfl rfl 9 (by decide) rfl wk_676 dX8_block_199 ?_
              refine lv_iconst (v := nI (4)) hx hbc dX8_block_202 (by decide) ?_
              refine wb_iald (k := 4) (v := (S.2.1 8) 4) hx hbc w 8 (by decide) rfl 0 rfl rfl (by omega) (by decide) rfl dX8_block_203 ?_
              refine lv_istore (lv' := [(6, .int ((S.2.1 8) 4)), (5, .int ((S.2.1 8) 3)), (4, .int ((S.2.1 8) 2)), (3, .int ((S.2.1 8) 1)), (2, .int ((S.2.1 8) 0)), (0, .ref (ad (0))), (1, .int (nI (at0)))]) hx hbc dX8_block_204 hl (by decide) rfl (fun ls hl => ?_)
              refine lv_aload_n hx hbc dX8_block_206 rfl (lv_at hl 5 rfl) ?_
              refine wb_gr (t := 8) hx hbc hg hown w inG_X8 0 (by decide) rfl rfl 9 (by decide) rfl wk_676 dX8_block_207 ?_
              refine lv_iconst (v := nI (5)) hx hbc dX8_block_210 (by decide) ?_
              refine wb_iald (k := 5) (v := (S.2.1 8) 5) hx hbc w 8 (by decide) rfl 0 rfl rfl (by omega) (by decide) rfl dX8_block_211 ?_
              refine lv_istore (lv' := [(7, .int ((S.2.1 8) 5)), (6, .int ((S.2.1 8) 4)), (5, .int ((S.2.1 8) 3)), (4, .int ((S.2.1 8) 2)), (3, .int ((S.2.1 8) 1)), (2, .int ((S.2.1 8) 0)), (0, .ref (ad (0))), (1, .int (nI (at0)))]) hx hbc dX8_block_212 hl (by decide) rfl (fun ls hl => ?_)
              refine lv_aload_n hx hbc dX8_block_214 rfl (lv_at hl 6 rfl) ?_
              refine wb_gr (t := 8) hx hbc hg hown w inG_X8 0 (by decide) rfl rfl 9 (by decide) rfl wk_676 dX8_block_215 ?_
              refine lv_bipush (v := nI (6)) hx hbc dX8_block_218 (by decide) ?_
              refine wb_iald (k := 6) (v := (S.2.1 8) 6) hx hbc w 8 (by decide) rfl 0 rfl rfl (by omega) (by decide) rfl dX8_block_220 ?_
              refine lv_istore (lv' := [(8, .int ((S.2.1 8) 6)), (7, .int ((S.2.1 8) 5)), (6, .int ((S.2.1 8) 4)), (5, .int ((S.2.1 8) 3)), (4, .int ((S.2.1 8) 2)), (3, .int ((S.2.1 8) 1)), (2, .int ((S.2.1 8) 0)), (0, .ref (ad (0))), (1, .int (nI (at0)))]) hx hbc dX8_block_221 hl (by decide) rfl (fun ls hl => ?_)
              refine lv_aload_n hx hbc dX8_block_223 rfl (lv_at hl 7 rfl) ?_
              refine wb_gr (t := 8) hx hbc hg hown w inG_X8 0 (by decide) rfl rfl 9 (by decide) rfl wk_676 dX8_block_224 ?_
              refine lv_bipush (v := nI (7)) hx hbc dX8_block_227 (by decide) ?_
              refine wb_iald (k := 7) (v := (S.2.1 8) 7) hx hbc w 8 (by decide) rfl 0 rfl rfl (by omega) (by decide) rfl dX8_block_229 ?_
              refine lv_istore (lv' := [(9, .int ((S.2.1 8) 7)), (8, .int ((S.2.1 8) 6)), (7, .int ((S.2.1 8) 5)), (6, .int ((S.2.1 8) 4)), (5, .int ((S.2.1 8) 3)), (4, .int ((S.2.1 8) 2)), (3, .int ((S.2.1 8) 1)), (2, .int ((S.2.1 8) 0)), (0, .ref (ad (0))), (1, .int (nI (at0)))]) hx hbc dX8_block_230 hl (by decide) rfl (fun ls hl => ?_)
              refine lv_iconst (v := nI (0)) hx hbc dX8_block_232 (by decide) ?_
              refine lv_istore (lv' := [(10, .int (nI (0))), (9, .int ((S.2.1 8) 7)), (8, .int ((S.2.1 8) 6)), (7, .int ((S.2.1 8) 5)), (6, .int ((S.2.1 8) 4)), (5, .int ((S.2.1 8) 3)), (4, .int ((S.2.1 8) 2)), (3, .int ((S.2.1 8) 1)), (2, .int ((S.2.1 8) 0)), (0, .ref (ad (0))), (1, .int (nI (at0)))]) hx hbc dX8_block_233 hl (by decide) rfl (fun ls hl => ?_)
              have lp_235 : ∀ (fu : Nat) (t : Nat) (H : Heap) (locs : List Loc) (ls : Array Slot), 64 < t + fu → t ≤ 64 → WB D (tyM cy) 31 cy ad skM A s (sB S 9 (wBlk (S.2.1 9) (S.2.1 7) at0)) H locs → lv_has ls 13 [(0, .ref (ad (0))), (1, .int (nI (at0))), (2, .int (rds (S.2.1 1) (wBlk (S.2.1 9) (S.2.1 7) at0) (S.2.1 8) t 0)), (3, .int (rds (S.2.1 1) (wBlk (S.2.1 9) (S.2.1 7) at0) (S.2.1 8) t 1)), (4, .int (rds (S.2.1 1) (wBlk (S.2.1 9) (S.2.1 7) at0) (S.2.1 8) t 2)), (5, .int (rds (S.2.1 1) (wBlk (S.2.1 9) (S.2.1 7) at0) (S.2.1 8) t 3)), (6, .int (rds (S.2.1 1) (wBlk (S.2.1 9) (S.2.1 7) at0) (S.2.1 8) t 4)), (7, .int (rds (S.2.1 1) (wBlk (S.2.1 9) (S.2.1 7) at0) (S.2.1 8) t 5)), (8, .int (rds (S.2.1 1) (wBlk (S.2.1 9) (S.2.1 7) at0) (S.2.1 8) t 6)), (9, .int (rds (S.2.1 1) (wBlk (S.2.1 9) (S.2.1 7) at0) (S.2.1 8) t 7)), (10, .int (nI (t)))] → W p l e R s m args below meth c H locs 0 0 Q (F0 m 235 ls []) := by
                intro fu
                induction fu with
                | zero =>
                  intro t H locs ls h1 h2 w hl
                  exact absurd h1 (by omega)
                | succ fu ih =>
                  intro t H locs ls h1 h2 w hl
                  refine lv_iload hx hbc dX8_block_235 (lv_at hl 10 rfl) ?_
                  refine lv_bipush (v := nI (64)) hx hbc dX8_block_237 (by decide) ?_
                  refine n_cmp_ge (tgt := 375) (by omega) (by omega) hx hbc dX8_block_239 (by decide) (fun c_239 => ?_) (fun c_239 => ?_)
                  · obtain rfl : t = 64 := by omega
                    have hl := lv_sub (l' := [(0, .ref (ad (0))), (2, .int (rds (S.2.1 1) (wBlk (S.2.1 9) (S.2.1 7) at0) (S.2.1 8) 64 0)), (3, .int (rds (S.2.1 1) (wBlk (S.2.1 9) (S.2.1 7) at0) (S.2.1 8) 64 1)), (4, .int (rds (S.2.1 1) (wBlk (S.2.1 9) (S.2.1 7) at0) (S.2.1 8) 64 2)), (5, .int (rds (S.2.1 1) (wBlk (S.2.1 9) (S.2.1 7) at0) (S.2.1 8) 64 3)), (6, .int (rds (S.2.1 1) (wBlk (S.2.1 9) (S.2.1 7) at0) (S.2.1 8) 64 4)), (7, .int (rds (S.2.1 1) (wBlk (S.2.1 9) (S.2.1 7) at0) (S.2.1 8) 64 5)), (8, .int (rds (S.2.1 1) (wBlk (S.2.1 9) (S.2.1 7) at0) (S.2.1 8) 64 6)), (9, .int (rds (S.2.1 1) (wBlk (S.2.1 9) (S.2.1 7) at0) (S.2.1 8) 64 7))]) hl [0, 2, 3, 4, 5, 6, 7, 8, 9] rfl
                    refine lv_aload_n hx hbc dX8_block_375 rfl (lv_at hl 0 rfl) ?_
                    refine wb_gr (t := 8) hx hbc hg hown w inG_X8 0 (by decide) rfl rfl 9 (by decide) rfl wk_676 dX8_block_376 ?_
                    refine lv_iconst (v := nI (0)) hx hbc dX8_block_379 (by decide) ?_
                    refine lv_dup2_11 hx hbc dX8_block_380 rfl rfl ?_
                    refine wb_iald (k := 0) (v := (S.2.1 8) 0) hx hbc w 8 (by decide) rfl 0 rfl rfl (by omega) (by decide) rfl dX8_block_381 ?_
                    refine lv_iload_n hx hbc dX8_block_382 rfl (lv_at hl 1 rfl) ?_
                    refine lv_iadd hx hbc dX8_block_383 ?_
                    refine wb_iast (k := 0) (f := S.2.1 8) hx hbc w 8 (by decide) rfl 0 rfl rfl (by omega) (by decide) rfl rfl dX8_block_384 (fun H locs w => ?_)
                    refine lv_aload_n hx hbc dX8_block_385 rfl (lv_at hl 0 rfl) ?_
                    refine wb_gr (t := 8) hx hbc hg hown w inG_X8 0 (by decide) rfl rfl 9 (by decide) rfl wk_676 dX8_block_386 ?_
                    refine lv_iconst (v := nI (1)) hx hbc dX8_block_389 (by decide) ?_
                    refine lv_dup2_11 hx hbc dX8_block_390 rfl rfl ?_
                    refine wb_iald (k := 1) (v := (S.2.1 8) 1) hx hbc w 8 (by decide) rfl 0 rfl rfl (by omega) (by decide) rfl dX8_block_391 ?_
                    refine lv_iload_n hx hbc dX8_block_392 rfl (lv_at hl 2 rfl) ?_
                    refine lv_iadd hx hbc dX8_block_393 ?_
                    refine wb_iast (k := 1) (f := upd (S.2.1 8) 0 (((S.2.1 8) 0) + (rds (S.2.1 1) (wBlk (S.2.1 9) (S.2.1 7) at0) (S.2.1 8) 64 0))) hx hbc w 8 (by decide) rfl 0 rfl rfl (by omega) (by decide) rfl (sB_sB _ _ _ _) dX8_block_394 (fun H locs w => ?_)
                    refine lv_aload_n hx hbc dX8_block_395 rfl (lv_at hl 0 rfl) ?_
                    refine wb_gr (t := 8) hx hbc hg hown w inG_X8 0 (by decide) rfl rfl 9 (by decide) rfl wk_676 dX8_block_396 ?_
                    refine lv_iconst (v := nI (2)) hx hbc dX8_block_399 (by decide) ?_
                    refine lv_dup2_11 hx hbc dX8_block_400 rfl rfl ?_
                    refine wb_iald (k := 2) (v := (S.2.1 8) 2) hx hbc w 8 (by decide) rfl 0 rfl rfl (by omega) (by decide) rfl dX8_block_401 ?_
                    refine lv_iload hx hbc dX8_block_402 (lv_at hl 3 rfl) ?_
                    refine lv_iadd hx hbc dX8_block_404 ?_
                    refine wb_iast (k := 2) (f := upd (upd (S.2.1 8) 0 (((S.2.1 8) 0) + (rds (S.2.1 1) (wBlk (S.2.1 9) (S.2.1 7) at0) (S.2.1 8) 64 0))) 1 (((S.2.1 8) 1) + (rds (S.2.1 1) (wBlk (S.2.1 9) (S.2.1 7) at0) (S.2.1 8) 64 1))) hx hbc w 8 (by decide) rfl 0 rfl rfl (by omega) (by decide) rfl (sB_sB _ _ _ _) dX8_block_405 (fun H locs w => ?_)
                    refine lv_aload_n hx hbc dX8_block_406 rfl (lv_at hl 0 rfl) ?_
                    refine wb_gr (t := 8) hx hbc hg hown w inG_X8 0 (by decide) rfl rfl 9 (by decide) rfl wk_676 dX8_block_407 ?_
                    refine lv_iconst (v := nI (3)) hx hbc dX8_block_410 (by decide) ?_
                    refine lv_dup2_11 hx hbc dX8_block_411 rfl rfl ?_
                    refine wb_iald (k := 3) (v := (S.2.1 8) 3) hx hbc w 8 (by decide) rfl 0 rfl rfl (by omega) (by decide) rfl dX8_block_412 ?_
                    refine lv_iload hx hbc dX8_block_413 (lv_at hl 4 rfl) ?_
                    refine lv_iadd hx hbc dX8_block_415 ?_
                    refine wb_iast (k := 3) (f := upd (upd (upd (S.2.1 8) 0 (((S.2.1 8) 0) + (rds (S.2.1 1) (wBlk (S.2.1 9) (S.2.1 7) at0) (S.2.1 8) 64 0))) 1 (((S.2.1 8) 1) + (rds (S.2.1 1) (wBlk (S.2.1 9) (S.2.1 7) at0) (S.2.1 8) 64 1))) 2 (((S.2.1 8) 2) + (rds (S.2.1 1) (wBlk (S.2.1 9) (S.2.1 7) at0) (S.2.1 8) 64 2))) hx hbc w 8 (by decide) rfl 0 rfl rfl (by omega) (by decide) rfl (sB_sB _ _ _ _) dX8_block_416 (fun H locs w => ?_)
                    refine lv_aload_n hx hbc dX8_block_417 rfl (lv_at hl 0 rfl) ?_
                    refine wb_gr (t := 8) hx hbc hg hown w inG_X8 0 (by decide) rfl rfl 9 (by decide) rfl wk_676 dX8_block_418 ?_
                    refine lv_iconst (v := nI (4)) hx hbc dX8_block_421 (by decide) ?_
                    refine lv_dup2_11 hx hbc dX8_block_422 rfl rfl ?_
                    refine wb_iald (k := 4) (v := (S.2.1 8) 4) hx hbc w 8 (by decide) rfl 0 rfl rfl (by omega) (by decide) rfl dX8_block_423 ?_
                    refine lv_iload hx hbc dX8_block_424 (lv_at hl 5 rfl) ?_
                    refine lv_iadd hx hbc dX8_block_426 ?_
                    refine wb_iast (k := 4) (f := upd (upd (upd (upd (S.2.1 8) 0 (((S.2.1 8) 0) + (rds (S.2.1 1) (wBlk (S.2.1 9) (S.2.1 7) at0) (S.2.1 8) 64 0))) 1 (((S.2.1 8) 1) + (rds (S.2.1 1) (wBlk (S.2.1 9) (S.2.1 7) at0) (S.2.1 8) 64 1))) 2 (((S.2.1 8) 2) + (rds (S.2.1 1) (wBlk (S.2.1 9) (S.2.1 7) at0) (S.2.1 8) 64 2))) 3 (((S.2.1 8) 3) + (rds (S.2.1 1) (wBlk (S.2.1 9) (S.2.1 7) at0) (S.2.1 8) 64 3))) hx hbc w 8 (by decide) rfl 0 rfl rfl (by omega) (by decide) rfl (sB_sB _ _ _ _) dX8_block_427 (fun H locs w => ?_)
                    refine lv_aload_n hx hbc dX8_block_428 rfl (lv_at hl 0 rfl) ?_
                    refine wb_gr (t := 8) hx hbc hg hown w inG_X8 0 (by decide) rfl rfl 9 (by decide) rfl wk_676 dX8_block_429 ?_
                    refine lv_iconst (v := nI (5)) hx hbc dX8_block_432 (by decide) ?_
                    refine lv_dup2_11 hx hbc dX8_block_433 rfl rfl ?_
                    refine wb_iald (k := 5) (v := (S.2.1 8) 5) hx hbc w 8 (by decide) rfl 0 rfl rfl (by omega) (by decide) rfl dX8_block_434 ?_
                    refine lv_iload hx hbc dX8_block_435 (lv_at hl 6 rfl) ?_
                    refine lv_iadd hx hbc dX8_block_437 ?_
                    refine wb_iast (k := 5) (f := upd (upd (upd (upd (upd (S.2.1 8) 0 (((S.2.1 8) 0) + (rds (S.2.1 1) (wBlk (S.2.1 9) (S.2.1 7) at0) (S.2.1 8) 64 0))) 1 (((S.2.1 8) 1) + (rds (S.2.1 1) (wBlk (S.2.1 9) (S.2.1 7) at0) (S.2.1 8) 64 1))) 2 (((S.2.1 8) 2) + (rds (S.2.1 1) (wBlk (S.2.1 9) (S.2.1 7) at0) (S.2.1 8) 64 2))) 3 (((S.2.1 8) 3) + (rds (S.2.1 1) (wBlk (S.2.1 9) (S.2.1 7) at0) (S.2.1 8) 64 3))) 4 (((S.2.1 8) 4) + (rds (S.2.1 1) (wBlk (S.2.1 9) (S.2.1 7) at0) (S.2.1 8) 64 4))) hx hbc w 8 (by decide) rfl 0 rfl rfl (by omega) (by decide) rfl (sB_sB _ _ _ _) dX8_block_438 (fun H locs w => ?_)
                    refine lv_aload_n hx hbc dX8_block_439 rfl (lv_at hl 0 rfl) ?_
                    refine wb_gr (t := 8) hx hbc hg hown w inG_X8 0 (by decide) rfl rfl 9 (by decide) rfl wk_676 dX8_block_440 ?_
                    refine lv_bipush (v := nI (6)) hx hbc dX8_block_443 (by decide) ?_
                    refine lv_dup2_11 hx hbc dX8_block_445 rfl rfl ?_
                    refine wb_iald (k := 6) (v := (S.2.1 8) 6) hx hbc w 8 (by decide) rfl 0 rfl rfl (by omega) (by decide) rfl dX8_block_446 ?_
                    refine lv_iload hx hbc dX8_block_447 (lv_at hl 7 rfl) ?_
                    refine lv_iadd hx hbc dX8_block_449 ?_
                    refine wb_iast (k := 6) (f := upd (upd (upd (upd (upd (upd (S.2.1 8) 0 (((S.2.1 8) 0) + (rds (S.2.1 1) (wBlk (S.2.1 9) (S.2.1 7) at0) (S.2.1 8) 64 0))) 1 (((S.2.1 8) 1) + (rds (S.2.1 1) (wBlk (S.2.1 9) (S.2.1 7) at0) (S.2.1 8) 64 1))) 2 (((S.2.1 8) 2) + (rds (S.2.1 1) (wBlk (S.2.1 9) (S.2.1 7) at0) (S.2.1 8) 64 2))) 3 (((S.2.1 8) 3) + (rds (S.2.1 1) (wBlk (S.2.1 9) (S.2.1 7) at0) (S.2.1 8) 64 3))) 4 (((S.2.1 8) 4) + (rds (S.2.1 1) (wBlk (S.2.1 9) (S.2.1 7) at0) (S.2.1 8) 64 4))) 5 (((S.2.1 8) 5) + (rds (S.2.1 1) (wBlk (S.2.1 9) (S.2.1 7) at0) (S.2.1 8) 64 5))) hx hbc w 8 (by decide) rfl 0 rfl rfl (by omega) (by decide) rfl (sB_sB _ _ _ _) dX8_block_450 (fun H locs w => ?_)
                    refine lv_aload_n hx hbc dX8_block_451 rfl (lv_at hl 0 rfl) ?_
                    refine wb_gr (t := 8) hx hbc hg hown w inG_X8 0 (by decide) rfl rfl 9 (by decide) rfl wk_676 dX8_block_452 ?_
                    refine lv_bipush (v := nI (7)) hx hbc dX8_block_455 (by decide) ?_
                    refine lv_dup2_11 hx hbc dX8_block_457 rfl rfl ?_
                    refine wb_iald (k := 7) (v := (S.2.1 8) 7) hx hbc w 8 (by decide) rfl 0 rfl rfl (by omega) (by decide) rfl dX8_block_458 ?_
                    refine lv_iload hx hbc dX8_block_459 (lv_at hl 8 rfl) ?_
                    refine lv_iadd hx hbc dX8_block_461 ?_
                    refine wb_iast (k := 7) (f := upd (upd (upd (upd (upd (upd (upd (S.2.1 8) 0 (((S.2.1 8) 0) + (rds (S.2.1 1) (wBlk (S.2.1 9) (S.2.1 7) at0) (S.2.1 8) 64 0))) 1 (((S.2.1 8) 1) + (rds (S.2.1 1) (wBlk (S.2.1 9) (S.2.1 7) at0) (S.2.1 8) 64 1))) 2 (((S.2.1 8) 2) + (rds (S.2.1 1) (wBlk (S.2.1 9) (S.2.1 7) at0) (S.2.1 8) 64 2))) 3 (((S.2.1 8) 3) + (rds (S.2.1 1) (wBlk (S.2.1 9) (S.2.1 7) at0) (S.2.1 8) 64 3))) 4 (((S.2.1 8) 4) + (rds (S.2.1 1) (wBlk (S.2.1 9) (S.2.1 7) at0) (S.2.1 8) 64 4))) 5 (((S.2.1 8) 5) + (rds (S.2.1 1) (wBlk (S.2.1 9) (S.2.1 7) at0) (S.2.1 8) 64 5))) 6 (((S.2.1 8) 6) + (rds (S.2.1 1) (wBlk (S.2.1 9) (S.2.1 7) at0) (S.2.1 8) 64 6))) hx hbc w 8 (by decide) rfl 0 rfl rfl (by omega) (by decide) rfl (sB_sB _ _ _ _) dX8_block_462 (fun H locs w => ?_)
                    exact hend _ _ _ _ _ rfl w dX8_block_463
                  · refine lv_iload hx hbc dX8_block_242 (lv_at hl 9 rfl) ?_
                    refine lv_iload hx hbc dX8_block_244 (lv_at hl 6 rfl) ?_
                    refine lv_bipush (v := nI (6)) hx hbc dX8_block_246 (by decide) ?_
                    refine wb_Si (na := 2) (As := [.int (rds (S.2.1 1) (wBlk (S.2.1 9) (S.2.1 7) at0) (S.2.1 8) t 4), .int (nI (6))]) (rest := [.int (rds (S.2.1 1) (wBlk (S.2.1 9) (S.2.1 7) at0) (S.2.1 8) t 7)]) hx hbc hml hg hown w E0_ok trivial w.1 Sub.none (k_X8_right l D cy ad (sB S 9 (wBlk (S.2.1 9) (S.2.1 7) at0)) (rds (S.2.1 1) (wBlk (S.2.1 9) (S.2.1 7) at0) (S.2.1 8) t 4) 6 ((by decide))) wk_828 wk_9 wk_826 wk_827 ⟨by decide, by decide, by decide⟩ ⟨by rw [hRf]; decide, by rw [hRl]; decide⟩ rfl hl.1 rfl (Nat.le_of_ble_eq_true rfl) dX8_block_248 ⟨Nat.zero_le _, Nat.zero_le _⟩ (fun r S9 H locs hp w => ?_)
                    subst hp
                    refine lv_iload hx hbc dX8_block_251 (lv_at hl 6 rfl) ?_
                    refine lv_bipush (v := nI (11)) hx hbc dX8_block_253 (by decide) ?_
                    refine wb_Si (na := 2) (As := [.int (rds (S.2.1 1) (wBlk (S.2.1 9) (S.2.1 7) at0) (S.2.1 8) t 4), .int (nI (11))]) (rest := [.int (rotr (rds (S.2.1 1) (wBlk (S.2.1 9) (S.2.1 7) at0) (S.2.1 8) t 4) 6), .int (rds (S.2.1 1) (wBlk (S.2.1 9) (S.2.1 7) at0) (S.2.1 8) t 7)]) hx hbc hml hg hown w E0_ok trivial w.1 Sub.none (k_X8_right l D cy ad (sB S 9 (wBlk (S.2.1 9) (S.2.1 7) at0)) (rds (S.2.1 1) (wBlk (S.2.1 9) (S.2.1 7) at0) (S.2.1 8) t 4) 11 ((by decide))) wk_828 wk_9 wk_826 wk_827 ⟨by decide, by decide, by decide⟩ ⟨by rw [hRf]; decide, by rw [hRl]; decide⟩ rfl hl.1 rfl (Nat.le_of_ble_eq_true rfl) dX8_block_255 ⟨Nat.zero_le _, Nat.zero_le _⟩ (fun r S9 H locs hp w => ?_)
                    subst hp
                    refine lv_ixor hx hbc dX8_block_258 ?_
                    refine lv_iload hx hbc dX8_block_259 (lv_at hl 6 rfl) ?_
                    refine lv_bipush (v := nI (25)) hx hbc dX8_block_261 (by decide) ?_
                    refine wb_Si (na := 2) (As := [.int (rds (S.2.1 1) (wBlk (S.2.1 9) (S.2.1 7) at0) (S.2.1 8) t 4), .int (nI (25))]) (rest := [.int ((rotr (rds (S.2.1 1) (wBlk (S.2.1 9) (S.2.1 7) at0) (S.2.1 8) t 4) 6) ^^^ (rotr (rds (S.2.1 1) (wBlk (S.2.1 9) (S.2.1 7) at0) (S.2.1 8) t 4) 11)), .int (rds (S.2.1 1) (wBlk (S.2.1 9) (S.2.1 7) at0) (S.2.1 8) t 7)]) hx hbc hml hg hown w E0_ok trivial w.1 Sub.none (k_X8_right l D cy ad (sB S 9 (wBlk (S.2.1 9) (S.2.1 7) at0)) (rds (S.2.1 1) (wBlk (S.2.1 9) (S.2.1 7) at0) (S.2.1 8) t 4) 25 ((by decide))) wk_828 wk_9 wk_826 wk_827 ⟨by decide, by decide, by decide⟩ ⟨by rw [hRf]; decide, by rw [hRl]; decide⟩ rfl hl.1 rfl (Nat.le_of_ble_eq_true rfl) dX8_block_263 ⟨Nat.zero_le _, Nat.zero_le _⟩ (fun r S9 H locs hp w => ?_)
                    subst hp
                    refine lv_ixor hx hbc dX8_block_266 ?_
                    refine lv_iadd hx hbc dX8_block_267 ?_
                    refine lv_iload hx hbc dX8_block_268 (lv_at hl 6 rfl) ?_
                    refine lv_iload hx hbc dX8_block_270 (lv_at hl 7 rfl) ?_
                    refine lv_iand hx hbc dX8_block_272 ?_
                    refine lv_iload hx hbc dX8_block_273 (lv_at hl 6 rfl) ?_
                    refine lv_iconst (v := (-1)) hx hbc dX8_block_275 (by decide) ?_
                    refine lv_ixor hx hbc dX8_block_276 ?_
                    refine lv_iload hx hbc dX8_block_277 (lv_at hl 8 rfl) ?_
                    refine lv_iand hx hbc dX8_block_279 ?_
                    refine lv_ixor hx hbc dX8_block_280 ?_
                    refine lv_iadd hx hbc dX8_block_281 ?_
                    refine lv_aload_n hx hbc dX8_block_282 rfl (lv_at hl 0 rfl) ?_
                    refine wb_gr (t := 1) hx hbc hg hown w inG_X8 0 (by decide) rfl rfl 1 (by decide) rfl wk_668 dX8_block_283 ?_
                    refine lv_iload hx hbc dX8_block_286 (lv_at hl 10 rfl) ?_
                    refine wb_iald (k := t) (v := (S.2.1 1) t) hx hbc w 1 (by decide) rfl 0 rfl rfl (by omega) (by decide) rfl dX8_block_288 ?_
                    refine lv_iadd hx hbc dX8_block_289 ?_
                    refine lv_aload_n hx hbc dX8_block_290 rfl (lv_at hl 0 rfl) ?_
                    refine wb_gr (t := 9) hx hbc hg hown w inG_X8 0 (by decide) rfl rfl 10 (by decide) rfl wk_677 dX8_block_291 ?_
                    refine lv_iload hx hbc dX8_block_294 (lv_at hl 10 rfl) ?_
                    refine wb_iald (k := t) (v := (wBlk (S.2.1 9) (S.2.1 7) at0) t) hx hbc w 9 (by decide) rfl 0 rfl rfl (by omega) (by decide) rfl dX8_block_296 ?_
                    refine lv_iadd hx hbc dX8_block_297 ?_
                    refine lv_istore (lv' := [(11, .int (((((rds (S.2.1 1) (wBlk (S.2.1 9) (S.2.1 7) at0) (S.2.1 8) t 7) + (((rotr (rds (S.2.1 1) (wBlk (S.2.1 9) (S.2.1 7) at0) (S.2.1 8) t 4) 6) ^^^ (rotr (rds (S.2.1 1) (wBlk (S.2.1 9) (S.2.1 7) at0) (S.2.1 8) t 4) 11)) ^^^ (rotr (rds (S.2.1 1) (wBlk (S.2.1 9) (S.2.1 7) at0) (S.2.1 8) t 4) 25))) + (((rds (S.2.1 1) (wBlk (S.2.1 9) (S.2.1 7) at0) (S.2.1 8) t 4) &&& (rds (S.2.1 1) (wBlk (S.2.1 9) (S.2.1 7) at0) (S.2.1 8) t 5)) ^^^ (((rds (S.2.1 1) (wBlk (S.2.1 9) (S.2.1 7) at0) (S.2.1 8) t 4) ^^^ ((-1))) &&& (rds (S.2.1 1) (wBlk (S.2.1 9) (S.2.1 7) at0) (S.2.1 8) t 6)))) + ((S.2.1 1) t)) + ((wBlk (S.2.1 9) (S.2.1 7) at0) t))), (0, .ref (ad (0))), (1, .int (nI (at0))), (2, .int (rds (S.2.1 1) (wBlk (S.2.1 9) (S.2.1 7) at0) (S.2.1 8) t 0)), (3, .int (rds (S.2.1 1) (wBlk (S.2.1 9) (S.2.1 7) at0) (S.2.1 8) t 1)), (4, .int (rds (S.2.1 1) (wBlk (S.2.1 9) (S.2.1 7) at0) (S.2.1 8) t 2)), (5, .int (rds (S.2.1 1) (wBlk (S.2.1 9) (S.2.1 7) at0) (S.2.1 8) t 3)), (6, .int (rds (S.2.1 1) (wBlk (S.2.1 9) (S.2.1 7) at0) (S.2.1 8) t 4)), (7, .int (rds (S.2.1 1) (wBlk (S.2.1 9) (S.2.1 7) at0) (S.2.1 8) t 5)), (8, .int (rds (S.2.1 1) (wBlk (S.2.1 9) (S.2.1 7) at0) (S.2.1 8) t 6)), (9, .int (rds (S.2.1 1) (wBlk (S.2.1 9) (S.2.1 7) at0) (S.2.1 8) t 7)), (10, .int (nI (t)))]) hx hbc dX8_block_298 hl (by decide) rfl (fun ls hl => ?_)
                    refine lv_iload_n hx hbc dX8_block_300 rfl (lv_at hl 3 rfl) ?_
                    refine lv_iconst (v := nI (2)) hx hbc dX8_block_301 (by decide) ?_
                    refine wb_Si (na := 2) (As := [.int (rds (S.2.1 1) (wBlk (S.2.1 9) (S.2.1 7) at0) (S.2.1 8) t 0), .int (nI (2))]) (rest := []) hx hbc hml hg hown w E0_ok trivial w.1 Sub.none (k_X8_right l D cy ad (sB S 9 (wBlk (S.2.1 9) (S.2.1 7) at0)) (rds (S.2.1 1) (wBlk (S.2.1 9) (S.2.1 7) at0) (S.2.1 8) t 0) 2 ((by decide))) wk_828 wk_9 wk_826 wk_827 ⟨by decide, by decide, by decide⟩ ⟨by rw [hRf]; decide, by rw [hRl]; decide⟩ rfl hl.1 rfl (Nat.le_of_ble_eq_true rfl) dX8_block_302 ⟨Nat.zero_le _, Nat.zero_le _⟩ (fun r S9 H locs hp w => ?_)
                    subst hp
                    refine lv_iload_n hx hbc dX8_block_305 rfl (lv_at hl 3 rfl) ?_
                    refine lv_bipush (v := nI (13)) hx hbc dX8_block_306 (by decide) ?_
                    refine wb_Si (na := 2) (As := [.int (rds (S.2.1 1) (wBlk (S.2.1 9) (S.2.1 7) at0) (S.2.1 8) t 0), .int (nI (13))]) (rest := [.int (rotr (rds (S.2.1 1) (wBlk (S.2.1 9) (S.2.1 7) at0) (S.2.1 8) t 0) 2)]) hx hbc hml hg hown w E0_ok trivial w.1 Sub.none (k_X8_right l D cy ad (sB S 9 (wBlk (S.2.1 9) (S.2.1 7) at0)) (rds (S.2.1 1) (wBlk (S.2.1 9) (S.2.1 7) at0) (S.2.1 8) t 0) 13 ((by decide))) wk_828 wk_9 wk_826 wk_827 ⟨by decide, by decide, by decide⟩ ⟨by rw [hRf]; decide, by rw [hRl]; decide⟩ rfl hl.1 rfl (Nat.le_of_ble_eq_true rfl) dX8_block_308 ⟨Nat.zero_le _, Nat.zero_le _⟩ (fun r S9 H locs hp w => ?_)
                    subst hp
                    refine lv_ixor hx hbc dX8_block_311 ?_
                    refine lv_iload_n hx hbc dX8_block_312 rfl (lv_at hl 3 rfl) ?_
                    refine lv_bipush (v := nI (22)) hx hbc dX8_block_313 (by decide) ?_
                    refine wb_Si (na := 2) (As := [.int (rds (S.2.1 1) (wBlk (S.2.1 9) (S.2.1 7) at0) (S.2.1 8) t 0), .int (nI (22))]) (rest := [.int ((rotr (rds (S.2.1 1) (wBlk (S.2.1 9) (S.2.1 7) at0) (S.2.1 8) t 0) 2) ^^^ (rotr (rds (S.2.1 1) (wBlk (S.2.1 9) (S.2.1 7) at0) (S.2.1 8) t 0) 13))]) hx hbc hml hg hown w E0_ok trivial w.1 Sub.none (k_X8_right l D cy ad (sB S 9 (wBlk (S.2.1 9) (S.2.1 7) at0)) (rds (S.2.1 1) (wBlk (S.2.1 9) (S.2.1 7) at0) (S.2.1 8) t 0) 22 ((by decide))) wk_828 wk_9 wk_826 wk_827 ⟨by decide, by decide, by decide⟩ ⟨by rw [hRf]; decide, by rw [hRl]; decide⟩ rfl hl.1 rfl (Nat.le_of_ble_eq_true rfl) dX8_block_315 ⟨Nat.zero_le _, Nat.zero_le _⟩ (fun r S9 H locs hp w => ?_)
                    subst hp
                    refine lv_ixor hx hbc dX8_block_318 ?_
                    refine lv_iload_n hx hbc dX8_block_319 rfl (lv_at hl 3 rfl) ?_
                    refine lv_iload_n hx hbc dX8_block_320 rfl (lv_at hl 4 rfl) ?_
                    refine lv_iand hx hbc dX8_block_321 ?_
                    refine lv_iload_n hx hbc dX8_block_322 rfl (lv_at hl 3 rfl) ?_
                    refine lv_iload hx hbc dX8_block_323 (lv_at hl 5 rfl) ?_
                    refine lv_iand hx hbc dX8_block_325 ?_
                    refine lv_ixor hx hbc dX8_block_326 ?_
                    refine lv_iload_n hx hbc dX8_block_327 rfl (lv_at hl 4 rfl) ?_
                    refine lv_iload hx hbc dX8_block_328 (lv_at hl 5 rfl) ?_
                    refine lv_iand hx hbc dX8_block_330 ?_
                    refine lv_ixor hx hbc dX8_block_331 ?_
                    refine lv_iadd hx hbc dX8_block_332 ?_
                    refine lv_istore (lv' := [(12, .int ((((rotr (rds (S.2.1 1) (wBlk (S.2.1 9) (S.2.1 7) at0) (S.2.1 8) t 0) 2) ^^^ (rotr (rds (S.2.1 1) (wBlk (S.2.1 9) (S.2.1 7) at0) (S.2.1 8) t 0) 13)) ^^^ (rotr (rds (S.2.1 1) (wBlk (S.2.1 9) (S.2.1 7) at0) (S.2.1 8) t 0) 22)) + ((((rds (S.2.1 1) (wBlk (S.2.1 9) (S.2.1 7) at0) (S.2.1 8) t 0) &&& (rds (S.2.1 1) (wBlk (S.2.1 9) (S.2.1 7) at0) (S.2.1 8) t 1)) ^^^ ((rds (S.2.1 1) (wBlk (S.2.1 9) (S.2.1 7) at0) (S.2.1 8) t 0) &&& (rds (S.2.1 1) (wBlk (S.2.1 9) (S.2.1 7) at0) (S.2.1 8) t 2))) ^^^ ((rds (S.2.1 1) (wBlk (S.2.1 9) (S.2.1 7) at0) (S.2.1 8) t 1) &&& (rds (S.2.1 1) (wBlk (S.2.1 9) (S.2.1 7) at0) (S.2.1 8) t 2))))), (11, .int (((((rds (S.2.1 1) (wBlk (S.2.1 9) (S.2.1 7) at0) (S.2.1 8) t 7) + (((rotr (rds (S.2.1 1) (wBlk (S.2.1 9) (S.2.1 7) at0) (S.2.1 8) t 4) 6) ^^^ (rotr (rds (S.2.1 1) (wBlk (S.2.1 9) (S.2.1 7) at0) (S.2.1 8) t 4) 11)) ^^^ (rotr (rds (S.2.1 1) (wBlk (S.2.1 9) (S.2.1 7) at0) (S.2.1 8) t 4) 25))) + (((rds (S.2.1 1) (wBlk (S.2.1 9) (S.2.1 7) at0) (S.2.1 8) t 4) &&& (rds (S.2.1 1) (wBlk (S.2.1 9) (S.2.1 7) at0) (S.2.1 8) t 5)) ^^^ (((rds (S.2.1 1) (wBlk (S.2.1 9) (S.2.1 7) at0) (S.2.1 8) t 4) ^^^ ((-1))) &&& (rds (S.2.1 1) (wBlk (S.2.1 9) (S.2.1 7) at0) (S.2.1 8) t 6)))) + ((S.2.1 1) t)) + ((wBlk (S.2.1 9) (S.2.1 7) at0) t))), (0, .ref (ad (0))), (1, .int (nI (at0))), (2, .int (rds (S.2.1 1) (wBlk (S.2.1 9) (S.2.1 7) at0) (S.2.1 8) t 0)), (3, .int (rds (S.2.1 1) (wBlk (S.2.1 9) (S.2.1 7) at0) (S.2.1 8) t 1)), (4, .int (rds (S.2.1 1) (wBlk (S.2.1 9) (S.2.1 7) at0) (S.2.1 8) t 2)), (5, .int (rds (S.2.1 1) (wBlk (S.2.1 9) (S.2.1 7) at0) (S.2.1 8) t 3)), (6, .int (rds (S.2.1 1) (wBlk (S.2.1 9) (S.2.1 7) at0) (S.2.1 8) t 4)), (7, .int (rds (S.2.1 1) (wBlk (S.2.1 9) (S.2.1 7) at0) (S.2.1 8) t 5)), (8, .int (rds (S.2.1 1) (wBlk (S.2.1 9) (S.2.1 7) at0) (S.2.1 8) t 6)), (9, .int (rds (S.2.1 1) (wBlk (S.2.1 9) (S.2.1 7) at0) (S.2.1 8) t 7)), (10, .int (nI (t)))]) hx hbc dX8_block_333 hl (by decide) rfl (fun ls hl => ?_)
                    refine lv_iload hx hbc dX8_block_335 (lv_at hl 10 rfl) ?_
                    refine lv_istore (lv' := [(9, .int (rds (S.2.1 1) (wBlk (S.2.1 9) (S.2.1 7) at0) (S.2.1 8) t 6)), (12, .int ((((rotr (rds (S.2.1 1) (wBlk (S.2.1 9) (S.2.1 7) at0) (S.2.1 8) t 0) 2) ^^^ (rotr (rds (S.2.1 1) (wBlk (S.2.1 9) (S.2.1 7) at0) (S.2.1 8) t 0) 13)) ^^^ (rotr (rds (S.2.1 1) (wBlk (S.2.1 9) (S.2.1 7) at0) (S.2.1 8) t 0) 22)) + ((((rds (S.2.1 1) (wBlk (S.2.1 9) (S.2.1 7) at0) (S.2.1 8) t 0) &&& (rds (S.2.1 1) (wBlk (S.2.1 9) (S.2.1 7) at0) (S.2.1 8) t 1)) ^^^ ((rds (S.2.1 1) (wBlk (S.2.1 9) (S.2.1 7) at0) (S.2.1 8) t 0) &&& (rds (S.2.1 1) (wBlk (S.2.1 9) (S.2.1 7) at0) (S.2.1 8) t 2))) ^^^ ((rds (S.2.1 1) (wBlk (S.2.1 9) (S.2.1 7) at0) (S.2.1 8) t 1) &&& (rds (S.2.1 1) (wBlk (S.2.1 9) (S.2.1 7) at0) (S.2.1 8) t 2))))), (11, .int (((((rds (S.2.1 1) (wBlk (S.2.1 9) (S.2.1 7) at0) (S.2.1 8) t 7) + (((rotr (rds (S.2.1 1) (wBlk (S.2.1 9) (S.2.1 7) at0) (S.2.1 8) t 4) 6) ^^^ (rotr (rds (S.2.1 1) (wBlk (S.2.1 9) (S.2.1 7) at0) (S.2.1 8) t 4) 11)) ^^^ (rotr (rds (S.2.1 1) (wBlk (S.2.1 9) (S.2.1 7) at0) (S.2.1 8) t 4) 25))) + (((rds (S.2.1 1) (wBlk (S.2.1 9) (S.2.1 7) at0) (S.2.1 8) t 4) &&& (rds (S.2.1 1) (wBlk (S.2.1 9) (S.2.1 7) at0) (S.2.1 8) t 5)) ^^^ (((rds (S.2.1 1) (wBlk (S.2.1 9) (S.2.1 7) at0) (S.2.1 8) t 4) ^^^ ((-1))) &&& (rds (S.2.1 1) (wBlk (S.2.1 9) (S.2.1 7) at0) (S.2.1 8) t 6)))) + ((S.2.1 1) t)) + ((wBlk (S.2.1 9) (S.2.1 7) at0) t))), (0, .ref (ad (0))), (1, .int (nI (at0))), (2, .int (rds (S.2.1 1) (wBlk (S.2.1 9) (S.2.1 7) at0) (S.2.1 8) t 0)), (3, .int (rds (S.2.1 1) (wBlk (S.2.1 9) (S.2.1 7) at0) (S.2.1 8) t 1)), (4, .int (rds (S.2.1 1) (wBlk (S.2.1 9) (S.2.1 7) at0) (S.2.1 8) t 2)), (5, .int (rds (S.2.1 1) (wBlk (S.2.1 9) (S.2.1 7) at0) (S.2.1 8) t 3)), (6, .int (rds (S.2.1 1) (wBlk (S.2.1 9) (S.2.1 7) at0) (S.2.1 8) t 4)), (7, .int (rds (S.2.1 1) (wBlk (S.2.1 9) (S.2.1 7) at0) (S.2.1 8) t 5)), (8, .int (rds (S.2.1 1) (wBlk (S.2.1 9) (S.2.1 7) at0) (S.2.1 8) t 6)), (10, .int (nI (t)))]) hx hbc dX8_block_337 hl (by decide) rfl (fun ls hl => ?_)
                    refine lv_iload hx hbc dX8_block_339 (lv_at hl 10 rfl) ?_
                    refine lv_istore (lv' := [(8, .int (rds (S.2.1 1) (wBlk (S.2.1 9) (S.2.1 7) at0) (S.2.1 8) t 5)), (9, .int (rds (S.2.1 1) (wBlk (S.2.1 9) (S.2.1 7) at0) (S.2.1 8) t 6)), (12, .int ((((rotr (rds (S.2.1 1) (wBlk (S.2.1 9) (S.2.1 7) at0) (S.2.1 8) t 0) 2) ^^^ (rotr (rds (S.2.1 1) (wBlk (S.2.1 9) (S.2.1 7) at0) (S.2.1 8) t 0) 13)) ^^^ (rotr (rds (S.2.1 1) (wBlk (S.2.1 9) (S.2.1 7) at0) (S.2.1 8) t 0) 22)) + ((((rds (S.2.1 1) (wBlk (S.2.1 9) (S.2.1 7) at0) (S.2.1 8) t 0) &&& (rds (S.2.1 1) (wBlk (S.2.1 9) (S.2.1 7) at0) (S.2.1 8) t 1)) ^^^ ((rds (S.2.1 1) (wBlk (S.2.1 9) (S.2.1 7) at0) (S.2.1 8) t 0) &&& (rds (S.2.1 1) (wBlk (S.2.1 9) (S.2.1 7) at0) (S.2.1 8) t 2))) ^^^ ((rds (S.2.1 1) (wBlk (S.2.1 9) (S.2.1 7) at0) (S.2.1 8) t 1) &&& (rds (S.2.1 1) (wBlk (S.2.1 9) (S.2.1 7) at0) (S.2.1 8) t 2))))), (11, .int (((((rds (S.2.1 1) (wBlk (S.2.1 9) (S.2.1 7) at0) (S.2.1 8) t 7) + (((rotr (rds (S.2.1 1) (wBlk (S.2.1 9) (S.2.1 7) at0) (S.2.1 8) t 4) 6) ^^^ (rotr (rds (S.2.1 1) (wBlk (S.2.1 9) (S.2.1 7) at0) (S.2.1 8) t 4) 11)) ^^^ (rotr (rds (S.2.1 1) (wBlk (S.2.1 9) (S.2.1 7) at0) (S.2.1 8) t 4) 25))) + (((rds (S.2.1 1) (wBlk (S.2.1 9) (S.2.1 7) at0) (S.2.1 8) t 4) &&& (rds (S.2.1 1) (wBlk (S.2.1 9) (S.2.1 7) at0) (S.2.1 8) t 5)) ^^^ (((rds (S.2.1 1) (wBlk (S.2.1 9) (S.2.1 7) at0) (S.2.1 8) t 4) ^^^ ((-1))) &&& (rds (S.2.1 1) (wBlk (S.2.1 9) (S.2.1 7) at0) (S.2.1 8) t 6)))) + ((S.2.1 1) t)) + ((wBlk (S.2.1 9) (S.2.1 7) at0) t))), (0, .ref (ad (0))), (1, .int (nI (at0))), (2, .int (rds (S.2.1 1) (wBlk (S.2.1 9) (S.2.1 7) at0) (S.2.1 8) t 0)), (3, .int (rds (S.2.1 1) (wBlk (S.2.1 9) (S.2.1 7) at0) (S.2.1 8) t 1)), (4, .int (rds (S.2.1 1) (wBlk (S.2.1 9) (S.2.1 7) at0) (S.2.1 8) t 2)), (5, .int (rds (S.2.1 1) (wBlk (S.2.1 9) (S.2.1 7) at0) (S.2.1 8) t 3)), (6, .int (rds (S.2.1 1) (wBlk (S.2.1 9) (S.2.1 7) at0) (S.2.1 8) t 4)), (7, .int (rds (S.2.1 1) (wBlk (S.2.1 9) (S.2.1 7) at0) (S.2.1 8) t 5)), (10, .int (nI (t)))]) hx hbc dX8_block_341 hl (by decide) rfl (fun ls hl => ?_)
                    refine lv_iload hx hbc dX8_block_343 (lv_at hl 10 rfl) ?_
                    refine lv_istore (lv' := [(7, .int (rds (S.2.1 1) (wBlk (S.2.1 9) (S.2.1 7) at0) (S.2.1 8) t 4)), (8, .int (rds (S.2.1 1) (wBlk (S.2.1 9) (S.2.1 7) at0) (S.2.1 8) t 5)), (9, .int (rds (S.2.1 1) (wBlk (S.2.1 9) (S.2.1 7) at0) (S.2.1 8) t 6)), (12, .int ((((rotr (rds (S.2.1 1) (wBlk (S.2.1 9) (S.2.1 7) at0) (S.2.1 8) t 0) 2) ^^^ (rotr (rds (S.2.1 1) (wBlk (S.2.1 9) (S.2.1 7) at0) (S.2.1 8) t 0) 13)) ^^^ (rotr (rds (S.2.1 1) (wBlk (S.2.1 9) (S.2.1 7) at0) (S.2.1 8) t 0) 22)) + ((((rds (S.2.1 1) (wBlk (S.2.1 9) (S.2.1 7) at0) (S.2.1 8) t 0) &&& (rds (S.2.1 1) (wBlk (S.2.1 9) (S.2.1 7) at0) (S.2.1 8) t 1)) ^^^ ((rds (S.2.1 1) (wBlk (S.2.1 9) (S.2.1 7) at0) (S.2.1 8) t 0) &&& (rds (S.2.1 1) (wBlk (S.2.1 9) (S.2.1 7) at0) (S.2.1 8) t 2))) ^^^ ((rds (S.2.1 1) (wBlk (S.2.1 9) (S.2.1 7) at0) (S.2.1 8) t 1) &&& (rds (S.2.1 1) (wBlk (S.2.1 9) (S.2.1 7) at0) (S.2.1 8) t 2))))), (11, .int (((((rds (S.2.1 1) (wBlk (S.2.1 9) (S.2.1 7) at0) (S.2.1 8) t 7) + (((rotr (rds (S.2.1 1) (wBlk (S.2.1 9) (S.2.1 7) at0) (S.2.1 8) t 4) 6) ^^^ (rotr (rds (S.2.1 1) (wBlk (S.2.1 9) (S.2.1 7) at0) (S.2.1 8) t 4) 11)) ^^^ (rotr (rds (S.2.1 1) (wBlk (S.2.1 9) (S.2.1 7) at0) (S.2.1 8) t 4) 25))) + (((rds (S.2.1 1) (wBlk (S.2.1 9) (S.2.1 7) at0) (S.2.1 8) t 4) &&& (rds (S.2.1 1) (wBlk (S.2.1 9) (S.2.1 7) at0) (S.2.1 8) t 5)) ^^^ (((rds (S.2.1 1) (wBlk (S.2.1 9) (S.2.1 7) at0) (S.2.1 8) t 4) ^^^ ((-1))) &&& (rds (S.2.1 1) (wBlk (S.2.1 9) (S.2.1 7) at0) (S.2.1 8) t 6)))) + ((S.2.1 1) t)) + ((wBlk (S.2.1 9) (S.2.1 7) at0) t))), (0, .ref (ad (0))), (1, .int (nI (at0))), (2, .int (rds (S.2.1 1) (wBlk (S.2.1 9) (S.2.1 7) at0) (S.2.1 8) t 0)), (3, .int (rds (S.2.1 1) (wBlk (S.2.1 9) (S.2.1 7) at0) (S.2.1 8) t 1)), (4, .int (rds (S.2.1 1) (wBlk (S.2.1 9) (S.2.1 7) at0) (S.2.1 8) t 2)), (5, .int (rds (S.2.1 1) (wBlk (S.2.1 9) (S.2.1 7) at0) (S.2.1 8) t 3)), (6, .int (rds (S.2.1 1) (wBlk (S.2.1 9) (S.2.1 7) at0) (S.2.1 8) t 4)), (10, .int (nI (t)))]) hx hbc dX8_block_345 hl (by decide) rfl (fun ls hl => ?_)
                    refine lv_iload hx hbc dX8_block_347 (lv_at hl 10 rfl) ?_
                    refine lv_iload hx hbc dX8_block_349 (lv_at hl 4 rfl) ?_
                    refine lv_iadd hx hbc dX8_block_351 ?_
                    refine lv_istore (lv' := [(6, .int ((rds (S.2.1 1) (wBlk (S.2.1 9) (S.2.1 7) at0) (S.2.1 8) t 3) + (((((rds (S.2.1 1) (wBlk (S.2.1 9) (S.2.1 7) at0) (S.2.1 8) t 7) + (((rotr (rds (S.2.1 1) (wBlk (S.2.1 9) (S.2.1 7) at0) (S.2.1 8) t 4) 6) ^^^ (rotr (rds (S.2.1 1) (wBlk (S.2.1 9) (S.2.1 7) at0) (S.2.1 8) t 4) 11)) ^^^ (rotr (rds (S.2.1 1) (wBlk (S.2.1 9) (S.2.1 7) at0) (S.2.1 8) t 4) 25))) + (((rds (S.2.1 1) (wBlk (S.2.1 9) (S.2.1 7) at0) (S.2.1 8) t 4) &&& (rds (S.2.1 1) (wBlk (S.2.1 9) (S.2.1 7) at0) (S.2.1 8) t 5)) ^^^ (((rds (S.2.1 1) (wBlk (S.2.1 9) (S.2.1 7) at0) (S.2.1 8) t 4) ^^^ ((-1))) &&& (rds (S.2.1 1) (wBlk (S.2.1 9) (S.2.1 7) at0) (S.2.1 8) t 6)))) + ((S.2.1 1) t)) + ((wBlk (S.2.1 9) (S.2.1 7) at0) t)))), (7, .int (rds (S.2.1 1) (wBlk (S.2.1 9) (S.2.1 7) at0) (S.2.1 8) t 4)), (8, .int (rds (S.2.1 1) (wBlk (S.2.1 9) (S.2.1 7) at0) (S.2.1 8) t 5)), (9, .int (rds (S.2.1 1) (wBlk (S.2.1 9) (S.2.1 7) at0) (S.2.1 8) t 6)), (12, .int ((((rotr (rds (S.2.1 1) (wBlk (S.2.1 9) (S.2.1 7) at0) (S.2.1 8) t 0) 2) ^^^ (rotr (rds (S.2.1 1) (wBlk (S.2.1 9) (S.2.1 7) at0) (S.2.1 8) t 0) 13)) ^^^ (rotr (rds (S.2.1 1) (wBlk (S.2.1 9) (S.2.1 7) at0) (S.2.1 8) t 0) 22)) + ((((rds (S.2.1 1) (wBlk (S.2.1 9) (S.2.1 7) at0) (S.2.1 8) t 0) &&& (rds (S.2.1 1) (wBlk (S.2.1 9) (S.2.1 7) at0) (S.2.1 8) t 1)) ^^^ ((rds (S.2.1 1) (wBlk (S.2.1 9) (S.2.1 7) at0) (S.2.1 8) t 0) &&& (rds (S.2.1 1) (wBlk (S.2.1 9) (S.2.1 7) at0) (S.2.1 8) t 2))) ^^^ ((rds (S.2.1 1) (wBlk (S.2.1 9) (S.2.1 7) at0) (S.2.1 8) t 1) &&& (rds (S.2.1 1) (wBlk (S.2.1 9) (S.2.1 7) at0) (S.2.1 8) t 2))))), (11, .int (((((rds (S.2.1 1) (wBlk (S.2.1 9) (S.2.1 7) at0) (S.2.1 8) t 7) + (((rotr (rds (S.2.1 1) (wBlk (S.2.1 9) (S.2.1 7) at0) (S.2.1 8) t 4) 6) ^^^ (rotr (rds (S.2.1 1) (wBlk (S.2.1 9) (S.2.1 7) at0) (S.2.1 8) t 4) 11)) ^^^ (rotr (rds (S.2.1 1) (wBlk (S.2.1 9) (S.2.1 7) at0) (S.2.1 8) t 4) 25))) + (((rds (S.2.1 1) (wBlk (S.2.1 9) (S.2.1 7) at0) (S.2.1 8) t 4) &&& (rds (S.2.1 1) (wBlk (S.2.1 9) (S.2.1 7) at0) (S.2.1 8) t 5)) ^^^ (((rds (S.2.1 1) (wBlk (S.2.1 9) (S.2.1 7) at0) (S.2.1 8) t 4) ^^^ ((-1))) &&& (rds (S.2.1 1) (wBlk (S.2.1 9) (S.2.1 7) at0) (S.2.1 8) t 6)))) + ((S.2.1 1) t)) + ((wBlk (S.2.1 9) (S.2.1 7) at0) t))), (0, .ref (ad (0))), (1, .int (nI (at0))), (2, .int (rds (S.2.1 1) (wBlk (S.2.1 9) (S.2.1 7) at0) (S.2.1 8) t 0)), (3, .int (rds (S.2.1 1) (wBlk (S.2.1 9) (S.2.1 7) at0) (S.2.1 8) t 1)), (4, .int (rds (S.2.1 1) (wBlk (S.2.1 9) (S.2.1 7) at0) (S.2.1 8) t 2)), (5, .int (rds (S.2.1 1) (wBlk (S.2.1 9) (S.2.1 7) at0) (S.2.1 8) t 3)), (10, .int (nI (t)))]) hx hbc dX8_block_352 hl (by decide) rfl (fun ls hl => ?_)
                    refine lv_iload hx hbc dX8_block_354 (lv_at hl 10 rfl) ?_
                    refine lv_istore (lv' := [(5, .int (rds (S.2.1 1) (wBlk (S.2.1 9) (S.2.1 7) at0) (S.2.1 8) t 2)), (6, .int ((rds (S.2.1 1) (wBlk (S.2.1 9) (S.2.1 7) at0) (S.2.1 8) t 3) + (((((rds (S.2.1 1) (wBlk (S.2.1 9) (S.2.1 7) at0) (S.2.1 8) t 7) + (((rotr (rds (S.2.1 1) (wBlk (S.2.1 9) (S.2.1 7) at0) (S.2.1 8) t 4) 6) ^^^ (rotr (rds (S.2.1 1) (wBlk (S.2.1 9) (S.2.1 7) at0) (S.2.1 8) t 4) 11)) ^^^ (rotr (rds (S.2.1 1) (wBlk (S.2.1 9) (S.2.1 7) at0) (S.2.1 8) t 4) 25))) + (((rds (S.2.1 1) (wBlk (S.2.1 9) (S.2.1 7) at0) (S.2.1 8) t 4) &&& (rds (S.2.1 1) (wBlk (S.2.1 9) (S.2.1 7) at0) (S.2.1 8) t 5)) ^^^ (((rds (S.2.1 1) (wBlk (S.2.1 9) (S.2.1 7) at0) (S.2.1 8) t 4) ^^^ ((-1))) &&& (rds (S.2.1 1) (wBlk (S.2.1 9) (S.2.1 7) at0) (S.2.1 8) t 6)))) + ((S.2.1 1) t)) + ((wBlk (S.2.1 9) (S.2.1 7) at0) t)))), (7, .int (rds (S.2.1 1) (wBlk (S.2.1 9) (S.2.1 7) at0) (S.2.1 8) t 4)), (8, .int (rds (S.2.1 1) (wBlk (S.2.1 9) (S.2.1 7) at0) (S.2.1 8) t 5)), (9, .int (rds (S.2.1 1) (wBlk (S.2.1 9) (S.2.1 7) at0) (S.2.1 8) t 6)), (12, .int ((((rotr (rds (S.2.1 1) (wBlk (S.2.1 9) (S.2.1 7) at0) (S.2.1 8) t 0) 2) ^^^ (rotr (rds (S.2.1 1) (wBlk (S.2.1 9) (S.2.1 7) at0) (S.2.1 8) t 0) 13)) ^^^ (rotr (rds (S.2.1 1) (wBlk (S.2.1 9) (S.2.1 7) at0) (S.2.1 8) t 0) 22)) + ((((rds (S.2.1 1) (wBlk (S.2.1 9) (S.2.1 7) at0) (S.2.1 8) t 0) &&& (rds (S.2.1 1) (wBlk (S.2.1 9) (S.2.1 7) at0) (S.2.1 8) t 1)) ^^^ ((rds (S.2.1 1) (wBlk (S.2.1 9) (S.2.1 7) at0) (S.2.1 8) t 0) &&& (rds (S.2.1 1) (wBlk (S.2.1 9) (S.2.1 7) at0) (S.2.1 8) t 2))) ^^^ ((rds (S.2.1 1) (wBlk (S.2.1 9) (S.2.1 7) at0) (S.2.1 8) t 1) &&& (rds (S.2.1 1) (wBlk (S.2.1 9) (S.2.1 7) at0) (S.2.1 8) t 2))))), (11, .int (((((rds (S.2.1 1) (wBlk (S.2.1 9) (S.2.1 7) at0) (S.2.1 8) t 7) + (((rotr (rds (S.2.1 1) (wBlk (S.2.1 9) (S.2.1 7) at0) (S.2.1 8) t 4) 6) ^^^ (rotr (rds (S.2.1 1) (wBlk (S.2.1 9) (S.2.1 7) at0) (S.2.1 8) t 4) 11)) ^^^ (rotr (rds (S.2.1 1) (wBlk (S.2.1 9) (S.2.1 7) at0) (S.2.1 8) t 4) 25))) + (((rds (S.2.1 1) (wBlk (S.2.1 9) (S.2.1 7) at0) (S.2.1 8) t 4) &&& (rds (S.2.1 1) (wBlk (S.2.1 9) (S.2.1 7) at0) (S.2.1 8) t 5)) ^^^ (((rds (S.2.1 1) (wBlk (S.2.1 9) (S.2.1 7) at0) (S.2.1 8) t 4) ^^^ ((-1))) &&& (rds (S.2.1 1) (wBlk (S.2.1 9) (S.2.1 7) at0) (S.2.1 8) t 6)))) + ((S.2.1 1) t)) + ((wBlk (S.2.1 9) (S.2.1 7) at0) t))), (0, .ref (ad (0))), (1, .int (nI (at0))), (2, .int (rds (S.2.1 1) (wBlk (S.2.1 9) (S.2.1 7) at0) (S.2.1 8) t 0)), (3, .int (rds (S.2.1 1) (wBlk (S.2.1 9) (S.2.1 7) at0) (S.2.1 8) t 1)), (4, .int (rds (S.2.1 1) (wBlk (S.2.1 9) (S.2.1 7) at0) (S.2.1 8) t 2)), (10, .int (nI (t)))]) hx hbc dX8_block_356 hl (by decide) rfl (fun ls hl => ?_)
                    refine lv_iload_n hx hbc dX8_block_358 rfl (lv_at hl 10 rfl) ?_
                    refine lv_istore (lv' := [(4, .int (rds (S.2.1 1) (wBlk (S.2.1 9) (S.2.1 7) at0) (S.2.1 8) t 1)), (5, .int (rds (S.2.1 1) (wBlk (S.2.1 9) (S.2.1 7) at0) (S.2.1 8) t 2)), (6, .int ((rds (S.2.1 1) (wBlk (S.2.1 9) (S.2.1 7) at0) (S.2.1 8) t 3) + (((((rds (S.2.1 1) (wBlk (S.2.1 9) (S.2.1 7) at0) (S.2.1 8) t 7) + (((rotr (rds (S.2.1 1) (wBlk (S.2.1 9) (S.2.1 7) at0) (S.2.1 8) t 4) 6) ^^^ (rotr (rds (S.2.1 1) (wBlk (S.2.1 9) (S.2.1 7) at0) (S.2.1 8) t 4) 11)) ^^^ (rotr (rds (S.2.1 1) (wBlk (S.2.1 9) (S.2.1 7) at0) (S.2.1 8) t 4) 25))) + (((rds (S.2.1 1) (wBlk (S.2.1 9) (S.2.1 7) at0) (S.2.1 8) t 4) &&& (rds (S.2.1 1) (wBlk (S.2.1 9) (S.2.1 7) at0) (S.2.1 8) t 5)) ^^^ (((rds (S.2.1 1) (wBlk (S.2.1 9) (S.2.1 7) at0) (S.2.1 8) t 4) ^^^ ((-1))) &&& (rds (S.2.1 1) (wBlk (S.2.1 9) (S.2.1 7) at0) (S.2.1 8) t 6)))) + ((S.2.1 1) t)) + ((wBlk (S.2.1 9) (S.2.1 7) at0) t)))), (7, .int (rds (S.2.1 1) (wBlk (S.2.1 9) (S.2.1 7) at0) (S.2.1 8) t 4)), (8, .int (rds (S.2.1 1) (wBlk (S.2.1 9) (S.2.1 7) at0) (S.2.1 8) t 5)), (9, .int (rds (S.2.1 1) (wBlk (S.2.1 9) (S.2.1 7) at0) (S.2.1 8) t 6)), (12, .int ((((rotr (rds (S.2.1 1) (wBlk (S.2.1 9) (S.2.1 7) at0) (S.2.1 8) t 0) 2) ^^^ (rotr (rds (S.2.1 1) (wBlk (S.2.1 9) (S.2.1 7) at0) (S.2.1 8) t 0) 13)) ^^^ (rotr (rds (S.2.1 1) (wBlk (S.2.1 9) (S.2.1 7) at0) (S.2.1 8) t 0) 22)) + ((((rds (S.2.1 1) (wBlk (S.2.1 9) (S.2.1 7) at0) (S.2.1 8) t 0) &&& (rds (S.2.1 1) (wBlk (S.2.1 9) (S.2.1 7) at0) (S.2.1 8) t 1)) ^^^ ((rds (S.2.1 1) (wBlk (S.2.1 9) (S.2.1 7) at0) (S.2.1 8) t 0) &&& (rds (S.2.1 1) (wBlk (S.2.1 9) (S.2.1 7) at0) (S.2.1 8) t 2))) ^^^ ((rds (S.2.1 1) (wBlk (S.2.1 9) (S.2.1 7) at0) (S.2.1 8) t 1) &&& (rds (S.2.1 1) (wBlk (S.2.1 9) (S.2.1 7) at0) (S.2.1 8) t 2))))), (11, .int (((((rds (S.2.1 1) (wBlk (S.2.1 9) (S.2.1 7) at0) (S.2.1 8) t 7) + (((rotr (rds (S.2.1 1) (wBlk (S.2.1 9) (S.2.1 7) at0) (S.2.1 8) t 4) 6) ^^^ (rotr (rds (S.2.1 1) (wBlk (S.2.1 9) (S.2.1 7) at0) (S.2.1 8) t 4) 11)) ^^^ (rotr (rds (S.2.1 1) (wBlk (S.2.1 9) (S.2.1 7) at0) (S.2.1 8) t 4) 25))) + (((rds (S.2.1 1) (wBlk (S.2.1 9) (S.2.1 7) at0) (S.2.1 8) t 4) &&& (rds (S.2.1 1) (wBlk (S.2.1 9) (S.2.1 7) at0) (S.2.1 8) t 5)) ^^^ (((rds (S.2.1 1) (wBlk (S.2.1 9) (S.2.1 7) at0) (S.2.1 8) t 4) ^^^ ((-1))) &&& (rds (S.2.1 1) (wBlk (S.2.1 9) (S.2.1 7) at0) (S.2.1 8) t 6)))) + ((S.2.1 1) t)) + ((wBlk (S.2.1 9) (S.2.1 7) at0) t))), (0, .ref (ad (0))), (1, .int (nI (at0))), (2, .int (rds (S.2.1 1) (wBlk (S.2.1 9) (S.2.1 7) at0) (S.2.1 8) t 0)), (3, .int (rds (S.2.1 1) (wBlk (S.2.1 9) (S.2.1 7) at0) (S.2.1 8) t 1)), (10, .int (nI (t)))]) hx hbc dX8_block_359 hl (by decide) rfl (fun ls hl => ?_)
                    refine lv_iload_n hx hbc dX8_block_361 rfl (lv_at hl 10 rfl) ?_
                    refine lv_istore_n (lv' := [(3, .int (rds (S.2.1 1) (wBlk (S.2.1 9) (S.2.1 7) at0) (S.2.1 8) t 0)), (4, .int (rds (S.2.1 1) (wBlk (S.2.1 9) (S.2.1 7) at0) (S.2.1 8) t 1)), (5, .int (rds (S.2.1 1) (wBlk (S.2.1 9) (S.2.1 7) at0) (S.2.1 8) t 2)), (6, .int ((rds (S.2.1 1) (wBlk (S.2.1 9) (S.2.1 7) at0) (S.2.1 8) t 3) + (((((rds (S.2.1 1) (wBlk (S.2.1 9) (S.2.1 7) at0) (S.2.1 8) t 7) + (((rotr (rds (S.2.1 1) (wBlk (S.2.1 9) (S.2.1 7) at0) (S.2.1 8) t 4) 6) ^^^ (rotr (rds (S.2.1 1) (wBlk (S.2.1 9) (S.2.1 7) at0) (S.2.1 8) t 4) 11)) ^^^ (rotr (rds (S.2.1 1) (wBlk (S.2.1 9) (S.2.1 7) at0) (S.2.1 8) t 4) 25))) + (((rds (S.2.1 1) (wBlk (S.2.1 9) (S.2.1 7) at0) (S.2.1 8) t 4) &&& (rds (S.2.1 1) (wBlk (S.2.1 9) (S.2.1 7) at0) (S.2.1 8) t 5)) ^^^ (((rds (S.2.1 1) (wBlk (S.2.1 9) (S.2.1 7) at0) (S.2.1 8) t 4) ^^^ ((-1))) &&& (rds (S.2.1 1) (wBlk (S.2.1 9) (S.2.1 7) at0) (S.2.1 8) t 6)))) + ((S.2.1 1) t)) + ((wBlk (S.2.1 9) (S.2.1 7) at0) t)))), (7, .int (rds (S.2.1 1) (wBlk (S.2.1 9) (S.2.1 7) at0) (S.2.1 8) t 4)), (8, .int (rds (S.2.1 1) (wBlk (S.2.1 9) (S.2.1 7) at0) (S.2.1 8) t 5)), (9, .int (rds (S.2.1 1) (wBlk (S.2.1 9) (S.2.1 7) at0) (S.2.1 8) t 6)), (12, .int ((((rotr (rds (S.2.1 1) (wBlk (S.2.1 9) (S.2.1 7) at0) (S.2.1 8) t 0) 2) ^^^ (rotr (rds (S.2.1 1) (wBlk (S.2.1 9) (S.2.1 7) at0) (S.2.1 8) t 0) 13)) ^^^ (rotr (rds (S.2.1 1) (wBlk (S.2.1 9) (S.2.1 7) at0) (S.2.1 8) t 0) 22)) + ((((rds (S.2.1 1) (wBlk (S.2.1 9) (S.2.1 7) at0) (S.2.1 8) t 0) &&& (rds (S.2.1 1) (wBlk (S.2.1 9) (S.2.1 7) at0) (S.2.1 8) t 1)) ^^^ ((rds (S.2.1 1) (wBlk (S.2.1 9) (S.2.1 7) at0) (S.2.1 8) t 0) &&& (rds (S.2.1 1) (wBlk (S.2.1 9) (S.2.1 7) at0) (S.2.1 8) t 2))) ^^^ ((rds (S.2.1 1) (wBlk (S.2.1 9) (S.2.1 7) at0) (S.2.1 8) t 1) &&& (rds (S.2.1 1) (wBlk (S.2.1 9) (S.2.1 7) at0) (S.2.1 8) t 2))))), (11, .int (((((rds (S.2.1 1) (wBlk (S.2.1 9) (S.2.1 7) at0) (S.2.1 8) t 7) + (((rotr (rds (S.2.1 1) (wBlk (S.2.1 9) (S.2.1 7) at0) (S.2.1 8) t 4) 6) ^^^ (rotr (rds (S.2.1 1) (wBlk (S.2.1 9) (S.2.1 7) at0) (S.2.1 8) t 4) 11)) ^^^ (rotr (rds (S.2.1 1) (wBlk (S.2.1 9) (S.2.1 7) at0) (S.2.1 8) t 4) 25))) + (((rds (S.2.1 1) (wBlk (S.2.1 9) (S.2.1 7) at0) (S.2.1 8) t 4) &&& (rds (S.2.1 1) (wBlk (S.2.1 9) (S.2.1 7) at0) (S.2.1 8) t 5)) ^^^ (((rds (S.2.1 1) (wBlk (S.2.1 9) (S.2.1 7) at0) (S.2.1 8) t 4) ^^^ ((-1))) &&& (rds (S.2.1 1) (wBlk (S.2.1 9) (S.2.1 7) at0) (S.2.1 8) t 6)))) + ((S.2.1 1) t)) + ((wBlk (S.2.1 9) (S.2.1 7) at0) t))), (0, .ref (ad (0))), (1, .int (nI (at0))), (2, .int (rds (S.2.1 1) (wBlk (S.2.1 9) (S.2.1 7) at0) (S.2.1 8) t 0)), (10, .int (nI (t)))]) hx hbc dX8_block_362 rfl hl (by decide) rfl (fun ls hl => ?_)
                    refine lv_iload hx hbc dX8_block_363 (lv_at hl 8 rfl) ?_
                    refine lv_iload hx hbc dX8_block_365 (lv_at hl 7 rfl) ?_
                    refine lv_iadd hx hbc dX8_block_367 ?_
                    refine lv_istore_n (lv' := [(2, .int ((((((rds (S.2.1 1) (wBlk (S.2.1 9) (S.2.1 7) at0) (S.2.1 8) t 7) + (((rotr (rds (S.2.1 1) (wBlk (S.2.1 9) (S.2.1 7) at0) (S.2.1 8) t 4) 6) ^^^ (rotr (rds (S.2.1 1) (wBlk (S.2.1 9) (S.2.1 7) at0) (S.2.1 8) t 4) 11)) ^^^ (rotr (rds (S.2.1 1) (wBlk (S.2.1 9) (S.2.1 7) at0) (S.2.1 8) t 4) 25))) + (((rds (S.2.1 1) (wBlk (S.2.1 9) (S.2.1 7) at0) (S.2.1 8) t 4) &&& (rds (S.2.1 1) (wBlk (S.2.1 9) (S.2.1 7) at0) (S.2.1 8) t 5)) ^^^ (((rds (S.2.1 1) (wBlk (S.2.1 9) (S.2.1 7) at0) (S.2.1 8) t 4) ^^^ ((-1))) &&& (rds (S.2.1 1) (wBlk (S.2.1 9) (S.2.1 7) at0) (S.2.1 8) t 6)))) + ((S.2.1 1) t)) + ((wBlk (S.2.1 9) (S.2.1 7) at0) t)) + ((((rotr (rds (S.2.1 1) (wBlk (S.2.1 9) (S.2.1 7) at0) (S.2.1 8) t 0) 2) ^^^ (rotr (rds (S.2.1 1) (wBlk (S.2.1 9) (S.2.1 7) at0) (S.2.1 8) t 0) 13)) ^^^ (rotr (rds (S.2.1 1) (wBlk (S.2.1 9) (S.2.1 7) at0) (S.2.1 8) t 0) 22)) + ((((rds (S.2.1 1) (wBlk (S.2.1 9) (S.2.1 7) at0) (S.2.1 8) t 0) &&& (rds (S.2.1 1) (wBlk (S.2.1 9) (S.2.1 7) at0) (S.2.1 8) t 1)) ^^^ ((rds (S.2.1 1) (wBlk (S.2.1 9) (S.2.1 7) at0) (S.2.1 8) t 0) &&& (rds (S.2.1 1) (wBlk (S.2.1 9) (S.2.1 7) at0) (S.2.1 8) t 2))) ^^^ ((rds (S.2.1 1) (wBlk (S.2.1 9) (S.2.1 7) at0) (S.2.1 8) t 1) &&& (rds (S.2.1 1) (wBlk (S.2.1 9) (S.2.1 7) at0) (S.2.1 8) t 2)))))), (3, .int (rds (S.2.1 1) (wBlk (S.2.1 9) (S.2.1 7) at0) (S.2.1 8) t 0)), (4, .int (rds (S.2.1 1) (wBlk (S.2.1 9) (S.2.1 7) at0) (S.2.1 8) t 1)), (5, .int (rds (S.2.1 1) (wBlk (S.2.1 9) (S.2.1 7) at0) (S.2.1 8) t 2)), (6, .int ((rds (S.2.1 1) (wBlk (S.2.1 9) (S.2.1 7) at0) (S.2.1 8) t 3) + (((((rds (S.2.1 1) (wBlk (S.2.1 9) (S.2.1 7) at0) (S.2.1 8) t 7) + (((rotr (rds (S.2.1 1) (wBlk (S.2.1 9) (S.2.1 7) at0) (S.2.1 8) t 4) 6) ^^^ (rotr (rds (S.2.1 1) (wBlk (S.2.1 9) (S.2.1 7) at0) (S.2.1 8) t 4) 11)) ^^^ (rotr (rds (S.2.1 1) (wBlk (S.2.1 9) (S.2.1 7) at0) (S.2.1 8) t 4) 25))) + (((rds (S.2.1 1) (wBlk (S.2.1 9) (S.2.1 7) at0) (S.2.1 8) t 4) &&& (rds (S.2.1 1) (wBlk (S.2.1 9) (S.2.1 7) at0) (S.2.1 8) t 5)) ^^^ (((rds (S.2.1 1) (wBlk (S.2.1 9) (S.2.1 7) at0) (S.2.1 8) t 4) ^^^ ((-1))) &&& (rds (S.2.1 1) (wBlk (S.2.1 9) (S.2.1 7) at0) (S.2.1 8) t 6)))) + ((S.2.1 1) t)) + ((wBlk (S.2.1 9) (S.2.1 7) at0) t)))), (7, .int (rds (S.2.1 1) (wBlk (S.2.1 9) (S.2.1 7) at0) (S.2.1 8) t 4)), (8, .int (rds (S.2.1 1) (wBlk (S.2.1 9) (S.2.1 7) at0) (S.2.1 8) t 5)), (9, .int (rds (S.2.1 1) (wBlk (S.2.1 9) (S.2.1 7) at0) (S.2.1 8) t 6)), (12, .int ((((rotr (rds (S.2.1 1) (wBlk (S.2.1 9) (S.2.1 7) at0) (S.2.1 8) t 0) 2) ^^^ (rotr (rds (S.2.1 1) (wBlk (S.2.1 9) (S.2.1 7) at0) (S.2.1 8) t 0) 13)) ^^^ (rotr (rds (S.2.1 1) (wBlk (S.2.1 9) (S.2.1 7) at0) (S.2.1 8) t 0) 22)) + ((((rds (S.2.1 1) (wBlk (S.2.1 9) (S.2.1 7) at0) (S.2.1 8) t 0) &&& (rds (S.2.1 1) (wBlk (S.2.1 9) (S.2.1 7) at0) (S.2.1 8) t 1)) ^^^ ((rds (S.2.1 1) (wBlk (S.2.1 9) (S.2.1 7) at0) (S.2.1 8) t 0) &&& (rds (S.2.1 1) (wBlk (S.2.1 9) (S.2.1 7) at0) (S.2.1 8) t 2))) ^^^ ((rds (S.2.1 1) (wBlk (S.2.1 9) (S.2.1 7) at0) (S.2.1 8) t 1) &&& (rds (S.2.1 1) (wBlk (S.2.1 9) (S.2.1 7) at0) (S.2.1 8) t 2))))), (11, .int (((((rds (S.2.1 1) (wBlk (S.2.1 9) (S.2.1 7) at0) (S.2.1 8) t 7) + (((rotr (rds (S.2.1 1) (wBlk (S.2.1 9) (S.2.1 7) at0) (S.2.1 8) t 4) 6) ^^^ (rotr (rds (S.2.1 1) (wBlk (S.2.1 9) (S.2.1 7) at0) (S.2.1 8) t 4) 11)) ^^^ (rotr (rds (S.2.1 1) (wBlk (S.2.1 9) (S.2.1 7) at0) (S.2.1 8) t 4) 25))) + (((rds (S.2.1 1) (wBlk (S.2.1 9) (S.2.1 7) at0) (S.2.1 8) t 4) &&& (rds (S.2.1 1) (wBlk (S.2.1 9) (S.2.1 7) at0) (S.2.1 8) t 5)) ^^^ (((rds (S.2.1 1) (wBlk (S.2.1 9) (S.2.1 7) at0) (S.2.1 8) t 4) ^^^ ((-1))) &&& (rds (S.2.1 1) (wBlk (S.2.1 9) (S.2.1 7) at0) (S.2.1 8) t 6)))) + ((S.2.1 1) t)) + ((wBlk (S.2.1 9) (S.2.1 7) at0) t))), (0, .ref (ad (0))), (1, .int (nI (at0))), (10, .int (nI (t)))]) hx hbc dX8_block_368 rfl hl (by decide) rfl (fun ls hl => ?_)
                    refine lv_iinc (v := nI (t + 1)) (lv' := [(10, .int (nI (t + 1))), (2, .int ((((((rds (S.2.1 1) (wBlk (S.2.1 9) (S.2.1 7) at0) (S.2.1 8) t 7) + (((rotr (rds (S.2.1 1) (wBlk (S.2.1 9) (S.2.1 7) at0) (S.2.1 8) t 4) 6) ^^^ (rotr (rds (S.2.1 1) (wBlk (S.2.1 9) (S.2.1 7) at0) (S.2.1 8) t 4) 11)) ^^^ (rotr (rds (S.2.1 1) (wBlk (S.2.1 9) (S.2.1 7) at0) (S.2.1 8) t 4) 25))) + (((rds (S.2.1 1) (wBlk (S.2.1 9) (S.2.1 7) at0) (S.2.1 8) t 4) &&& (rds (S.2.1 1) (wBlk (S.2.1 9) (S.2.1 7) at0) (S.2.1 8) t 5)) ^^^ (((rds (S.2.1 1) (wBlk (S.2.1 9) (S.2.1 7) at0) (S.2.1 8) t 4) ^^^ ((-1))) &&& (rds (S.2.1 1) (wBlk (S.2.1 9) (S.2.1 7) at0) (S.2.1 8) t 6)))) + ((S.2.1 1) t)) + ((wBlk (S.2.1 9) (S.2.1 7) at0) t)) + ((((rotr (rds (S.2.1 1) (wBlk (S.2.1 9) (S.2.1 7) at0) (S.2.1 8) t 0) 2) ^^^ (rotr (rds (S.2.1 1) (wBlk (S.2.1 9) (S.2.1 7) at0) (S.2.1 8) t 0) 13)) ^^^ (rotr (rds (S.2.1 1) (wBlk (S.2.1 9) (S.2.1 7) at0) (S.2.1 8) t 0) 22)) + ((((rds (S.2.1 1) (wBlk (S.2.1 9) (S.2.1 7) at0) (S.2.1 8) t 0) &&& (rds (S.2.1 1) (wBlk (S.2.1 9) (S.2.1 7) at0) (S.2.1 8) t 1)) ^^^ ((rds (S.2.1 1) (wBlk (S.2.1 9) (S.2.1 7) at0) (S.2.1 8) t 0) &&& (rds (S.2.1 1) (wBlk (S.2.1 9) (S.2.1 7) at0) (S.2.1 8) t 2))) ^^^ ((rds (S.2.1 1) (wBlk (S.2.1 9) (S.2.1 7) at0) (S.2.1 8) t 1) &&& (rds (S.2.1 1) (wBlk (S.2.1 9) (S.2.1 7) at0) (S.2.1 8) t 2)))))), (3, .int (rds (S.2.1 1) (wBlk (S.2.1 9) (S.2.1 7) at0) (S.2.1 8) t 0)), (4, .int (rds (S.2.1 1) (wBlk (S.2.1 9) (S.2.1 7) at0) (S.2.1 8) t 1)), (5, .int (rds (S.2.1 1) (wBlk (S.2.1 9) (S.2.1 7) at0) (S.2.1 8) t 2)), (6, .int ((rds (S.2.1 1) (wBlk (S.2.1 9) (S.2.1 7) at0) (S.2.1 8) t 3) + (((((rds (S.2.1 1) (wBlk (S.2.1 9) (S.2.1 7) at0) (S.2.1 8) t 7) + (((rotr (rds (S.2.1 1) (wBlk (S.2.1 9) (S.2.1 7) at0) (S.2.1 8) t 4) 6) ^^^ (rotr (rds (S.2.1 1) (wBlk (S.2.1 9) (S.2.1 7) at0) (S.2.1 8) t 4) 11)) ^^^ (rotr (rds (S.2.1 1) (wBlk (S.2.1 9) (S.2.1 7) at0) (S.2.1 8) t 4) 25))) + (((rds (S.2.1 1) (wBlk (S.2.1 9) (S.2.1 7) at0) (S.2.1 8) t 4) &&& (rds (S.2.1 1) (wBlk (S.2.1 9) (S.2.1 7) at0) (S.2.1 8) t 5)) ^^^ (((rds (S.2.1 1) (wBlk (S.2.1 9) (S.2.1 7) at0) (S.2.1 8) t 4) ^^^ ((-1))) &&& (rds (S.2.1 1) (wBlk (S.2.1 9) (S.2.1 7) at0) (S.2.1 8) t 6)))) + ((S.2.1 1) t)) + ((wBlk (S.2.1 9) (S.2.1 7) at0) t)))), (7, .int (rds (S.2.1 1) (wBlk (S.2.1 9) (S.2.1 7) at0) (S.2.1 8) t 4)), (8, .int (rds (S.2.1 1) (wBlk (S.2.1 9) (S.2.1 7) at0) (S.2.1 8) t 5)), (9, .int (rds (S.2.1 1) (wBlk (S.2.1 9) (S.2.1 7) at0) (S.2.1 8) t 6)), (12, .int ((((rotr (rds (S.2.1 1) (wBlk (S.2.1 9) (S.2.1 7) at0) (S.2.1 8) t 0) 2) ^^^ (rotr (rds (S.2.1 1) (wBlk (S.2.1 9) (S.2.1 7) at0) (S.2.1 8) t 0) 13)) ^^^ (rotr (rds (S.2.1 1) (wBlk (S.2.1 9) (S.2.1 7) at0) (S.2.1 8) t 0) 22)) + ((((rds (S.2.1 1) (wBlk (S.2.1 9) (S.2.1 7) at0) (S.2.1 8) t 0) &&& (rds (S.2.1 1) (wBlk (S.2.1 9) (S.2.1 7) at0) (S.2.1 8) t 1)) ^^^ ((rds (S.2.1 1) (wBlk (S.2.1 9) (S.2.1 7) at0) (S.2.1 8) t 0) &&& (rds (S.2.1 1) (wBlk (S.2.1 9) (S.2.1 7) at0) (S.2.1 8) t 2))) ^^^ ((rds (S.2.1 1) (wBlk (S.2.1 9) (S.2.1 7) at0) (S.2.1 8) t 1) &&& (rds (S.2.1 1) (wBlk (S.2.1 9) (S.2.1 7) at0) (S.2.1 8) t 2))))), (11, .int (((((rds (S.2.1 1) (wBlk (S.2.1 9) (S.2.1 7) at0) (S.2.1 8) t 7) + (((rotr (rds (S.2.1 1) (wBlk (S.2.1 9) (S.2.1 7) at0) (S.2.1 8) t 4) 6) ^^^ (rotr (rds (S.2.1 1) (wBlk (S.2.1 9) (S.2.1 7) at0) (S.2.1 8) t 4) 11)) ^^^ (rotr (rds (S.2.1 1) (wBlk (S.2.1 9) (S.2.1 7) at0) (S.2.1 8) t 4) 25))) + (((rds (S.2.1 1) (wBlk (S.2.1 9) (S.2.1 7) at0) (S.2.1 8) t 4) &&& (rds (S.2.1 1) (wBlk (S.2.1 9) (S.2.1 7) at0) (S.2.1 8) t 5)) ^^^ (((rds (S.2.1 1) (wBlk (S.2.1 9) (S.2.1 7) at0) (S.2.1 8) t 4) ^^^ ((-1))) &&& (rds (S.2.1 1) (wBlk (S.2.1 9) (S.2.1 7) at0) (S.2.1 8) t 6)))) + ((S.2.1 1) t)) + ((wBlk (S.2.1 9) (S.2.1 7) at0) t))), (0, .ref (ad (0))), (1, .int (nI (at0)))]) hx hbc dX8_block_369 hl (k := 12) rfl (ni_inc _ _) (by decide) rfl (fun ls hl => ?_)
                    refine lv_goto (tgt := 235) hx hbc dX8_block_372 (by decide) ?_
                    exact ih (t + 1) _ _ _ (by omega) (by omega) w (lv_sub hl [11, 12, 1, 2, 3, 4, 5, 6, 7, 8, 0] rfl)
              exact lp_235 65 0 _ _ _ (by decide) (by decide) w (lv_sub hl [9, 10, 8, 7, 6, 5, 4, 3, 2, 1, 0] rfl)
            · refine lv_aload_n hx hbc dX8_block_77 rfl (lv_at hl 0 rfl) ?_
              refine wb_gr (t := 9) hx hbc hg hown w inG_X8 0 (by decide) rfl rfl 10 (by decide) rfl wk_677 dX8_block_78 ?_
              refine lv_iload_n hx hbc dX8_block_81 rfl (lv_at hl 2 rfl) ?_
              refine lv_bipush (v := nI (15)) hx hbc dX8_block_82 (by decide) ?_
              refine n_isub (by omega) hx hbc dX8_block_84 ?_
              refine wb_iald (k := (16 + u) - 15) (v := (schN (wfl (S.2.1 9) (S.2.1 7) at0 16) u) ((16 + u) - 15)) hx hbc w 9 (by decide) rfl 0 rfl rfl (by omega) (by decide) rfl dX8_block_85 ?_
              refine lv_istore_n (lv' := [(3, .int ((schN (wfl (S.2.1 9) (S.2.1 7) at0 16) u) ((16 + u) - 15))), (0, .ref (ad (0))), (1, .int (nI (at0))), (2, .int (nI (16 + u)))]) hx hbc dX8_block_86 rfl hl (by decide) rfl (fun ls hl => ?_)
              refine lv_aload_n hx hbc dX8_block_87 rfl (lv_at hl 1 rfl) ?_
              refine wb_gr (t := 9) hx hbc hg hown w inG_X8 0 (by decide) rfl rfl 10 (by decide) rfl wk_677 dX8_block_88 ?_
              refine lv_iload_n hx hbc dX8_block_91 rfl (lv_at hl 3 rfl) ?_
              refine lv_iconst (v := nI (2)) hx hbc dX8_block_92 (by decide) ?_
              refine n_isub (by omega) hx hbc dX8_block_93 ?_
              refine wb_iald (k := (16 + u) - 2) (v := (schN (wfl (S.2.1 9) (S.2.1 7) at0 16) u) ((16 + u) - 2)) hx hbc w 9 (by decide) rfl 0 rfl rfl (by omega) (by decide) rfl dX8_block_94 ?_
              refine lv_istore (lv' := [(4, .int ((schN (wfl (S.2.1 9) (S.2.1 7) at0 16) u) ((16 + u) - 2))), (3, .int ((schN (wfl (S.2.1 9) (S.2.1 7) at0 16) u) ((16 + u) - 15))), (0, .ref (ad (0))), (1, .int (nI (at0))), (2, .int (nI (16 + u)))]) hx hbc dX8_block_95 hl (by decide) rfl (fun ls hl => ?_)
              refine lv_aload_n hx hbc dX8_block_97 rfl (lv_at hl 2 rfl) ?_
              refine wb_gr (t := 9) hx hbc hg hown w inG_X8 0 (by decide) rfl rfl 10 (by decide) rfl wk_677 dX8_block_98 ?_
              refine lv_iload_n hx hbc dX8_block_101 rfl (lv_at hl 4 rfl) ?_
              refine lv_iload hx hbc dX8_block_102 (lv_at hl 0 rfl) ?_
              refine lv_bipush (v := nI (17)) hx hbc dX8_block_104 (by decide) ?_
              refine wb_Si (na := 2) (As := [.int ((schN (wfl (S.2.1 9) (S.2.1 7) at0 16) u) ((16 + u) - 2)), .int (nI (17))]) (rest := [.int (nI (16 + u)), .ref (ad (9))]) hx hbc hml hg hown w E0_ok trivial w.1 Sub.none (k_X8_right l D cy ad (sB S 9 (schN (wfl (S.2.1 9) (S.2.1 7) at0 16) u)) ((schN (wfl (S.2.1 9) (S.2.1 7) at0 16) u) ((16 + u) - 2)) 17 ((by decide))) wk_828 wk_9 wk_826 wk_827 ⟨by decide, by decide, by decide⟩ ⟨by rw [hRf]; decide, by rw [hRl]; decide⟩ rfl hl.1 rfl (Nat.le_of_ble_eq_true rfl) dX8_block_106 ⟨Nat.zero_le _, Nat.zero_le _⟩ (fun r S9 H locs hp w => ?_)
              subst hp
              refine lv_iload hx hbc dX8_block_109 (lv_at hl 0 rfl) ?_
              refine lv_bipush (v := nI (19)) hx hbc dX8_block_111 (by decide) ?_
              refine wb_Si (na := 2) (As := [.int ((schN (wfl (S.2.1 9) (S.2.1 7) at0 16) u) ((16 + u) - 2)), .int (nI (19))]) (rest := [.int (rotr ((schN (wfl (S.2.1 9) (S.2.1 7) at0 16) u) ((16 + u) - 2)) 17), .int (nI (16 + u)), .ref (ad (9))]) hx hbc hml hg hown w E0_ok trivial w.1 Sub.none (k_X8_right l D cy ad (sB S 9 (schN (wfl (S.2.1 9) (S.2.1 7) at0 16) u)) ((schN (wfl (S.2.1 9) (S.2.1 7) at0 16) u) ((16 + u) - 2)) 19 ((by decide))) wk_828 wk_9 wk_826 wk_827 ⟨by decide, by decide, by decide⟩ ⟨by rw [hRf]; decide, by rw [hRl]; decide⟩ rfl hl.1 rfl (Nat.le_of_ble_eq_true rfl) dX8_block_113 ⟨Nat.zero_le _, Nat.zero_le _⟩ (fun r S9 H locs hp w => ?_)
              subst hp
              refine lv_ixor hx hbc dX8_block_116 ?_
              refine lv_iload hx hbc dX8_block_117 (lv_at hl 0 rfl) ?_
              refine lv_bipush (v := nI (10)) hx hbc dX8_block_119 (by decide) ?_
              refine lv_iushr hx hbc dX8_block_121 rfl ?_
              refine lv_ixor hx hbc dX8_block_122 ?_
              refine lv_aload_n hx hbc dX8_block_123 rfl (lv_at hl 2 rfl) ?_
              refine wb_gr (t := 9) hx hbc hg hown w inG_X8 0 (by decide) rfl rfl 10 (by decide) rfl wk_677 dX8_block_124 ?_
              refine lv_iload_n hx hbc dX8_block_127 rfl (lv_at hl 4 rfl) ?_
              refine lv_bipush (v := nI (7)) hx hbc dX8_block_128 (by decide) ?_
              refine n_isub (by omega) hx hbc dX8_block_130 ?_
              refine wb_iald (k := (16 + u) - 7) (v := (schN (wfl (S.2.1 9) (S.2.1 7) at0 16) u) ((16 + u) - 7)) hx hbc w 9 (by decide) rfl 0 rfl rfl (by omega) (by decide) rfl dX8_block_131 ?_
              refine lv_iadd hx hbc dX8_block_132 ?_
              refine lv_iload_n hx hbc dX8_block_133 rfl (lv_at hl 1 rfl) ?_
              refine lv_bipush (v := nI (7)) hx hbc dX8_block_134 (by decide) ?_
              refine wb_Si (na := 2) (As := [.int ((schN (wfl (S.2.1 9) (S.2.1 7) at0 16) u) ((16 + u) - 15)), .int (nI (7))]) (rest := [.int ((((rotr ((schN (wfl (S.2.1 9) (S.2.1 7) at0 16) u) ((16 + u) - 2)) 17) ^^^ (rotr ((schN (wfl (S.2.1 9) (S.2.1 7) at0 16) u) ((16 + u) - 2)) 19)) ^^^ ((((schN (wfl (S.2.1 9) (S.2.1 7) at0 16) u) ((16 + u) - 2)).toUInt32 >>> ((nI (10)).toUInt32 &&& Int32.toUInt32 31)).toInt32)) + ((schN (wfl (S.2.1 9) (S.2.1 7) at0 16) u) ((16 + u) - 7))), .int (nI (16 + u)), .ref (ad (9))]) hx hbc hml hg hown w E0_ok trivial w.1 Sub.none (k_X8_right l D cy ad (sB S 9 (schN (wfl (S.2.1 9) (S.2.1 7) at0 16) u)) ((schN (wfl (S.2.1 9) (S.2.1 7) at0 16) u) ((16 + u) - 15)) 7 ((by decide))) wk_828 wk_9 wk_826 wk_827 ⟨by decide, by decide, by decide⟩ ⟨by rw [hRf]; decide, by rw [hRl]; decide⟩ rfl hl.1 rfl (Nat.le_of_ble_eq_true rfl) dX8_block_136 ⟨Nat.zero_le _, Nat.zero_le _⟩ (fun r S9 H locs hp w => ?_)
              subst hp
              refine lv_iload_n hx hbc dX8_block_139 rfl (lv_at hl 1 rfl) ?_
              refine lv_bipush (v := nI (18)) hx hbc dX8_block_140 (by decide) ?_
              refine wb_Si (na := 2) (As := [.int ((schN (wfl (S.2.1 9) (S.2.1 7) at0 16) u) ((16 + u) - 15)), .int (nI (18))]) (rest := [.int (rotr ((schN (wfl (S.2.1 9) (S.2.1 7) at0 16) u) ((16 + u) - 15)) 7), .int ((((rotr ((schN (wfl (S.2.1 9) (S.2.1 7) at0 16) u) ((16 + u) - 2)) 17) ^^^ (rotr ((schN (wfl (S.2.1 9) (S.2.1 7) at0 16) u) ((16 + u) - 2)) 19)) ^^^ ((((schN (wfl (S.2.1 9) (S.2.1 7) at0 16) u) ((16 + u) - 2)).toUInt32 >>> ((nI (10)).toUInt32 &&& Int32.toUInt32 31)).toInt32)) + ((schN (wfl (S.2.1 9) (S.2.1 7) at0 16) u) ((16 + u) - 7))), .int (nI (16 + u)), .ref (ad (9))]) hx hbc hml hg hown w E0_ok trivial w.1 Sub.none (k_X8_right l D cy ad (sB S 9 (schN (wfl (S.2.1 9) (S.2.1 7) at0 16) u)) ((schN (wfl (S.2.1 9) (S.2.1 7) at0 16) u) ((16 + u) - 15)) 18 ((by decide))) wk_828 wk_9 wk_826 wk_827 ⟨by decide, by decide, by decide⟩ ⟨by rw [hRf]; decide, by rw [hRl]; decide⟩ rfl hl.1 rfl (Nat.le_of_ble_eq_true rfl) dX8_block_142 ⟨Nat.zero_le _, Nat.zero_le _⟩ (fun r S9 H locs hp w => ?_)
              subst hp
              refine lv_ixor hx hbc dX8_block_145 ?_
              refine lv_iload_n hx hbc dX8_block_146 rfl (lv_at hl 1 rfl) ?_
              refine lv_iconst (v := nI (3)) hx hbc dX8_block_147 (by decide) ?_
              refine lv_iushr hx hbc dX8_block_148 rfl ?_
              refine lv_ixor hx hbc dX8_block_149 ?_
              refine lv_iadd hx hbc dX8_block_150 ?_
              refine lv_aload_n hx hbc dX8_block_151 rfl (lv_at hl 2 rfl) ?_
              refine wb_gr (t := 9) hx hbc hg hown w inG_X8 0 (by decide) rfl rfl 10 (by decide) rfl wk_677 dX8_block_152 ?_
              refine lv_iload_n hx hbc dX8_block_155 rfl (lv_at hl 4 rfl) ?_
              refine lv_bipush (v := nI (16)) hx hbc dX8_block_156 (by decide) ?_
              refine n_isub (by omega) hx hbc dX8_block_158 ?_
              refine wb_iald (k := (16 + u) - 16) (v := (schN (wfl (S.2.1 9) (S.2.1 7) at0 16) u) ((16 + u) - 16)) hx hbc w 9 (by decide) rfl 0 rfl rfl (by omega) (by decide) rfl dX8_block_159 ?_
              refine lv_iadd hx hbc dX8_block_160 ?_
              refine wb_iast (k := 16 + u) (f := schN (wfl (S.2.1 9) (S.2.1 7) at0 16) u) hx hbc w 9 (by decide) rfl 0 rfl rfl (by omega) (by decide) rfl (sB_sB _ _ _ _) dX8_block_161 (fun H locs w => ?_)
              refine lv_iinc (v := nI (16 + u + 1)) (lv' := [(2, .int (nI (16 + u + 1))), (4, .int ((schN (wfl (S.2.1 9) (S.2.1 7) at0 16) u) ((16 + u) - 2))), (3, .int ((schN (wfl (S.2.1 9) (S.2.1 7) at0 16) u) ((16 + u) - 15))), (0, .ref (ad (0))), (1, .int (nI (at0)))]) hx hbc dX8_block_162 hl (k := 4) rfl (ni_inc _ _) (by decide) rfl (fun ls hl => ?_)
              refine lv_goto (tgt := 71) hx hbc dX8_block_165 (by decide) ?_
              exact ih (u + 1) _ _ _ (by omega) (by omega) w (lv_sub hl [3, 4, 0] rfl)
        exact lp_71 49 0 _ _ _ (by decide) (by decide) w (lv_sub hl [1, 2, 0] rfl)
      · refine lv_iload_n hx hbc dX8_block_8 rfl (lv_at hl 1 rfl) ?_
        refine lv_iconst (v := nI (4)) hx hbc dX8_block_9 (by decide) ?_
        refine lv_iload_n hx hbc dX8_block_10 rfl (lv_at hl 2 rfl) ?_
        refine n_imul hx hbc dX8_block_11 ?_
        refine n_iadd hx hbc dX8_block_12 ?_
        refine lv_istore_n (lv' := [(3, .int (nI (at0 + (4 * t)))), (0, .ref (ad (0))), (1, .int (nI (at0))), (2, .int (nI (t)))]) hx hbc dX8_block_13 rfl hl (by decide) rfl (fun ls hl => ?_)
        refine lv_aload_n hx hbc dX8_block_14 rfl (lv_at hl 1 rfl) ?_
        refine wb_gr (t := 9) hx hbc hg hown w inG_X8 0 (by decide) rfl rfl 10 (by decide) rfl wk_677 dX8_block_15 ?_
        refine lv_iload_n hx hbc dX8_block_18 rfl (lv_at hl 3 rfl) ?_
        refine lv_aload_n hx hbc dX8_block_19 rfl (lv_at hl 1 rfl) ?_
        refine wb_gr (t := 7) hx hbc hg hown w inG_X8 0 (by decide) rfl rfl 7 (by decide) rfl wk_674 dX8_block_20 ?_
        refine lv_iload_n hx hbc dX8_block_23 rfl (lv_at hl 0 rfl) ?_
        refine wb_iald (k := at0 + (4 * t)) (v := (S.2.1 7) (at0 + (4 * t))) hx hbc w 7 (by decide) rfl 0 rfl rfl (by omega) (by decide) rfl dX8_block_24 ?_
        refine lv_bipush (v := nI (24)) hx hbc dX8_block_25 (by decide) ?_
        refine lv_ishl hx hbc dX8_block_27 ?_
        refine lv_aload_n hx hbc dX8_block_28 rfl (lv_at hl 1 rfl) ?_
        refine wb_gr (t := 7) hx hbc hg hown w inG_X8 0 (by decide) rfl rfl 7 (by decide) rfl wk_674 dX8_block_29 ?_
        refine lv_iload_n hx hbc dX8_block_32 rfl (lv_at hl 0 rfl) ?_
        refine lv_iconst (v := nI (1)) hx hbc dX8_block_33 (by decide) ?_
        refine n_iadd hx hbc dX8_block_34 ?_
        refine wb_iald (k := (at0 + (4 * t)) + 1) (v := (S.2.1 7) ((at0 + (4 * t)) + 1)) hx hbc w 7 (by decide) rfl 0 rfl rfl (by omega) (by decide) rfl dX8_block_35 ?_
        refine lv_bipush (v := nI (16)) hx hbc dX8_block_36 (by decide) ?_
        refine lv_ishl hx hbc dX8_block_38 ?_
        refine lv_ior hx hbc dX8_block_39 ?_
        refine lv_aload_n hx hbc dX8_block_40 rfl (lv_at hl 1 rfl) ?_
        refine wb_gr (t := 7) hx hbc hg hown w inG_X8 0 (by decide) rfl rfl 7 (by decide) rfl wk_674 dX8_block_41 ?_
        refine lv_iload_n hx hbc dX8_block_44 rfl (lv_at hl 0 rfl) ?_
        refine lv_iconst (v := nI (2)) hx hbc dX8_block_45 (by decide) ?_
        refine n_iadd hx hbc dX8_block_46 ?_
        refine wb_iald (k := (at0 + (4 * t)) + 2) (v := (S.2.1 7) ((at0 + (4 * t)) + 2)) hx hbc w 7 (by decide) rfl 0 rfl rfl (by omega) (by decide) rfl dX8_block_47 ?_
        refine lv_bipush (v := nI (8)) hx hbc dX8_block_48 (by decide) ?_
        refine lv_ishl hx hbc dX8_block_50 ?_
        refine lv_ior hx hbc dX8_block_51 ?_
        refine lv_aload_n hx hbc dX8_block_52 rfl (lv_at hl 1 rfl) ?_
        refine wb_gr (t := 7) hx hbc hg hown w inG_X8 0 (by decide) rfl rfl 7 (by decide) rfl wk_674 dX8_block_53 ?_
        refine lv_iload_n hx hbc dX8_block_56 rfl (lv_at hl 0 rfl) ?_
        refine lv_iconst (v := nI (3)) hx hbc dX8_block_57 (by decide) ?_
        refine n_iadd hx hbc dX8_block_58 ?_
        refine wb_iald (k := (at0 + (4 * t)) + 3) (v := (S.2.1 7) ((at0 + (4 * t)) + 3)) hx hbc w 7 (by decide) rfl 0 rfl rfl (by omega) (by decide) rfl dX8_block_59 ?_
        refine lv_ior hx hbc dX8_block_60 ?_
        refine wb_iast (k := t) (f := wfl (S.2.1 9) (S.2.1 7) at0 t) hx hbc w 9 (by decide) rfl 0 rfl rfl (by omega) (by decide) rfl (sB_sB _ _ _ _) dX8_block_61 (fun H locs w => ?_)
        refine lv_iinc (v := nI (t + 1)) (lv' := [(2, .int (nI (t + 1))), (3, .int (nI (at0 + (4 * t)))), (0, .ref (ad (0))), (1, .int (nI (at0)))]) hx hbc dX8_block_62 hl (k := 3) rfl (ni_inc _ _) (by decide) rfl (fun ls hl => ?_)
        refine lv_goto (tgt := 2) hx hbc dX8_block_65 (by decide) ?_
        exact ih (t + 1) _ _ _ (by omega) (by omega) w (lv_sub hl [2, 3, 0] rfl)
  exact lp_2 17 0 _ _ _ (by decide) (by decide) (WB_cast w (by simp [sB, wfl, up_id])) (lv_sub hl [1, 2, 0] rfl)
end
