/-- the same cell, said in two ways -/
def cE (e e2 : va_E) : Prop := e = e2 ∨ ∃ (cA : ClassId) (n : Nat) (f g : Nat → Option Nat), e = .inl (cA, n, .inr (.inr (.inr (.inr f)))) ∧ e2 = .inl (cA, n, .inr (.inr (.inr (.inr g)))) ∧ ∀ j, j < n → f j = g j
theorem arrV_cg {c : ClassId} {n : Nat} {f g : Nat → Value} (h : ∀ j, j < n → f j = g j) : arrV c n f = arrV c n g := by
  unfold arrV
  congr 1
  apply Array.ext
  · simp
  · intro i h1 h2
    simp at h1
    simp [h i h1]
def psL : List Nat := [7, 8, 9, 190, 191, 192, 196, 197, 198, 202, 203, 204, 208, 209, 210, 10, 11, 12, 193, 194, 195, 199, 200, 201, 205, 206, 207, 211, 212, 213, 1, 13, 14, 75, 136, 137, 138, 2, 214, 215, 216, 241, 242, 243, 268, 269, 270, 295, 296, 297, 139, 140, 145, 146, 187, 188, 189, 0, 3, 4, 5, 6, 15, 16, 17, 18, 19, 20, 21, 22, 23, 24, 25, 26, 27, 28, 29, 30, 31, 32, 33, 34, 35, 36, 37, 38, 39, 40, 41, 42, 43, 44, 45, 46, 47, 48, 49, 50, 51, 52, 53, 54, 55, 56, 57, 58, 59, 60, 61, 62, 63, 64, 65, 66, 67, 68, 69, 70, 71, 72, 73, 74, 76, 77, 78, 79, 80, 81, 82, 83, 84, 85, 86, 87, 88, 89, 90, 91, 92, 93, 94, 95, 96, 97, 98, 99, 100, 101, 102, 103, 104, 105, 106, 107, 108, 109, 110, 111, 112, 113, 114, 115, 116, 117, 118, 119, 120, 121, 122, 123, 124, 125, 126, 127, 128, 129, 130, 131, 132, 133, 134, 135, 217, 218, 219, 220, 221, 222, 223, 224, 225, 226, 227, 228, 229, 230, 231, 232, 233, 234, 235, 236, 237, 238, 239, 240, 244, 245, 246, 247, 248, 249, 250, 251, 252, 253, 254, 255, 256, 257, 258, 259, 260, 261, 262, 263, 264, 265, 266, 267, 271, 272, 273, 274, 275, 276, 277, 278, 279, 280, 281, 282, 283, 284, 285, 286, 287, 288, 289, 290, 291, 292, 293, 294, 298, 299, 300, 301, 302, 303, 304, 305, 306, 307, 308, 309, 310, 311, 312, 313, 314, 315, 316, 317, 318, 319, 320, 321, 141, 142, 143, 144, 147, 148, 149, 150, 151, 152, 153, 154, 155, 156, 157, 158, 159, 160, 161, 162, 163, 164, 165, 166, 167, 168, 169, 170, 171, 172, 173, 174, 175, 176, 177, 178, 179, 180, 181, 182, 183, 184, 185, 186]
def qsL : List Nat := [57, 30, 37, 58, 59, 60, 61, 0, 1, 2, 15, 16, 17, 31, 32, 62, 63, 64, 65, 66, 67, 68, 69, 70, 71, 72, 73, 74, 75, 76, 77, 78, 79, 80, 81, 82, 83, 84, 85, 86, 87, 88, 89, 90, 91, 92, 93, 94, 95, 96, 97, 98, 99, 100, 101, 102, 103, 104, 105, 106, 107, 108, 109, 110, 111, 112, 113, 114, 115, 116, 117, 118, 119, 120, 121, 33, 122, 123, 124, 125, 126, 127, 128, 129, 130, 131, 132, 133, 134, 135, 136, 137, 138, 139, 140, 141, 142, 143, 144, 145, 146, 147, 148, 149, 150, 151, 152, 153, 154, 155, 156, 157, 158, 159, 160, 161, 162, 163, 164, 165, 166, 167, 168, 169, 170, 171, 172, 173, 174, 175, 176, 177, 178, 179, 180, 181, 34, 35, 36, 50, 51, 278, 279, 280, 281, 52, 53, 282, 283, 284, 285, 286, 287, 288, 289, 290, 291, 292, 293, 294, 295, 296, 297, 298, 299, 300, 301, 302, 303, 304, 305, 306, 307, 308, 309, 310, 311, 312, 313, 314, 315, 316, 317, 318, 319, 320, 321, 54, 55, 56, 3, 4, 5, 18, 19, 20, 6, 7, 8, 21, 22, 23, 9, 10, 11, 24, 25, 26, 12, 13, 14, 27, 28, 29, 38, 39, 40, 182, 183, 184, 185, 186, 187, 188, 189, 190, 191, 192, 193, 194, 195, 196, 197, 198, 199, 200, 201, 202, 203, 204, 205, 41, 42, 43, 206, 207, 208, 209, 210, 211, 212, 213, 214, 215, 216, 217, 218, 219, 220, 221, 222, 223, 224, 225, 226, 227, 228, 229, 44, 45, 46, 230, 231, 232, 233, 234, 235, 236, 237, 238, 239, 240, 241, 242, 243, 244, 245, 246, 247, 248, 249, 250, 251, 252, 253, 47, 48, 49, 254, 255, 256, 257, 258, 259, 260, 261, 262, 263, 264, 265, 266, 267, 268, 269, 270, 271, 272, 273, 274, 275, 276, 277]
theorem ps_qs : ∀ i : Fin 322, qsL.getD (psL.getD i.val 0) 0 = i.val ∧ psL.getD i.val 0 < 322 := by decide +kernel
def LD (cy : Nat → ClassId) (a q1 q3 q5 q8 q11 q12 q20 q21 q24 q29 q30 q36 q42 q48 q54 q58 q62 q66 b2 b4 b6 c7 b9 c10 q13 q915 b17 c18 d19 q22 q25 b27 c28 q31 b32 c33 b34 c35 q37 b38 c39 b40 c41 q43 b44 c45 b46 c47 q49 b50 c51 b52 c53 b55 q56 b59 q60 b63 q64 b67 q68 : Nat) (r14 r916 r23 r26 r57 r61 r65 r69 : Nat → Nat) : va_W := (((((((((((((((((((((([(a, .inr (10, [.ref q1, .ref q3, .ref q5, .ref q8, .ref q11, .ref q12, .ref q20, .ref q21, .ref q24, .ref q29]))] ++ [(q11, eQ cy 3 4 (va_up (va_up (va_up (va_up (fun _ => none) 0 (some q30)) 1 (some q36)) 2 (some q42)) 3 (some q48)))]) ++ [(q20, eQ cy 4 4 (va_up (va_up (va_up (va_up (fun _ => none) 0 (some q54)) 1 (some q58)) 2 (some q62)) 3 (some q66)))]) ++ [(q1, .inr (3, [.ref b2, .int 0])), (b2, eI cy 1 200)]) ++ [(q3, .inr (3, [.ref b4, .int 0])), (b4, eI cy 1 200)]) ++ [(q5, .inr (5, [.ref b6, .ref c7, .int 0, .int 0, .int 0])), (b6, eI cy 0 8), (c7, eI cy 0 64)]) ++ [(q8, .inr (4, [.ref q5, .ref b9, .ref c10, .int 0, .int 0, .int 0, .int 0])), (b9, eI cy 1 64), (c10, eI cy 1 32)]) ++ ((((([(q12, .inr (7, [.ref q13, .ref q915, .ref b17, .ref c18, .ref d19, .int 0]))] ++ ([(q13, eQ cy 5 60 (rwQ 60 r14))] ++ rwL 60 r14 (eI cy 1 32))) ++ ([(q915, eQ cy 6 60 (rwQ 60 r916))] ++ rwL 60 r916 (eI cy 0 16))) ++ [(b17, eI cy 0 60)]) ++ [(c18, eI cy 0 60)]) ++ [(d19, eI cy 0 64)])) ++ ([(q21, .inr (6, [.ref q22, .int 0]))] ++ ([(q22, eQ cy 5 4 (rwQ 4 r23))] ++ rwL 4 r23 (eI cy 1 32)))) ++ ((([(q24, .inr (8, [.ref q25, .ref b27, .ref c28, .int 0, .int 0, .int 0]))] ++ ([(q25, eQ cy 5 40 (rwQ 40 r26))] ++ rwL 40 r26 (eI cy 1 40))) ++ [(b27, eI cy 0 40)]) ++ [(c28, eI cy 0 40)])) ++ [(q29, eI cy 1 32)]) ++ [(q31, .inr (5, [.ref b32, .ref c33, .int 0, .int 0, .int 0])), (b32, eI cy 0 8), (c33, eI cy 0 64)]) ++ [(q30, .inr (4, [.ref q31, .ref b34, .ref c35, .int 0, .int 0, .int 0, .int 0])), (b34, eI cy 1 64), (c35, eI cy 1 32)]) ++ [(q37, .inr (5, [.ref b38, .ref c39, .int 0, .int 0, .int 0])), (b38, eI cy 0 8), (c39, eI cy 0 64)]) ++ [(q36, .inr (4, [.ref q37, .ref b40, .ref c41, .int 0, .int 0, .int 0, .int 0])), (b40, eI cy 1 64), (c41, eI cy 1 32)]) ++ [(q43, .inr (5, [.ref b44, .ref c45, .int 0, .int 0, .int 0])), (b44, eI cy 0 8), (c45, eI cy 0 64)]) ++ [(q42, .inr (4, [.ref q43, .ref b46, .ref c47, .int 0, .int 0, .int 0, .int 0])), (b46, eI cy 1 64), (c47, eI cy 1 32)]) ++ [(q49, .inr (5, [.ref b50, .ref c51, .int 0, .int 0, .int 0])), (b50, eI cy 0 8), (c51, eI cy 0 64)]) ++ [(q48, .inr (4, [.ref q49, .ref b52, .ref c53, .int 0, .int 0, .int 0, .int 0])), (b52, eI cy 1 64), (c53, eI cy 1 32)]) ++ (([(q54, .inr (9, [.ref b55, .ref q56, .int 0]))] ++ [(b55, eI cy 0 12)]) ++ ([(q56, eQ cy 5 24 (rwQ 24 r57))] ++ rwL 24 r57 (eI cy 1 32)))) ++ (([(q58, .inr (9, [.ref b59, .ref q60, .int 0]))] ++ [(b59, eI cy 0 12)]) ++ ([(q60, eQ cy 5 24 (rwQ 24 r61))] ++ rwL 24 r61 (eI cy 1 32)))) ++ (([(q62, .inr (9, [.ref b63, .ref q64, .int 0]))] ++ [(b63, eI cy 0 12)]) ++ ([(q64, eQ cy 5 24 (rwQ 24 r65))] ++ rwL 24 r65 (eI cy 1 32)))) ++ (([(q66, .inr (9, [.ref b67, .ref q68, .int 0]))] ++ [(b67, eI cy 0 12)]) ++ ([(q68, eQ cy 5 24 (rwQ 24 r69))] ++ rwL 24 r69 (eI cy 1 32))))
def Z0 : wS := ((fun _ _ => 0), (fun _ _ => 0), (fun _ _ => 0))
/-- the list L as a world: cell i stands at place ps i -/
def adL (L : va_W) (i : Nat) : Nat := ((L[psL.getD i 0]?).map Prod.fst).getD 0
def eeL (L : va_W) (i : Nat) : va_E := ((L[psL.getD i 0]?).map Prod.snd).getD (.inr (0, []))
theorem CB_to {D : va_G} {cy : Nat → ClassId} {A : Nat → Prop} {s : State} {L : va_W} {H : Heap} {locs : List Loc} (w : CB D cy A s L H locs) (hlen : L.length = 322) (he : ∀ i, i < 322 → cE (eeL L i) (wC cy (adL L) skD Z0 i)) : CB D cy A s (wW 322 cy (adL L) skD Z0) H locs := by
  have hget : ∀ i, i < 322 → L[psL.getD i 0]? = some (adL L i, eeL L i) := by
    intro i hi
    have h1 := (ps_qs ⟨i, hi⟩).2
    have h2 : psL.getD i 0 < L.length := by rw [hlen]; exact h1
    have h3 := List.getElem?_eq_getElem h2
    unfold adL eeL
    rw [h3]
    rfl
  refine ⟨w.1, fun k q hk => ?_, ⟨fun i j x z hi hj hxz => ?_, fun k q hk => ?_⟩, w.2.2.2.1, w.2.2.2.2⟩
  · obtain ⟨hk2, rfl⟩ := wW_of hk
    have h1 := w.2.1 _ _ (hget k hk2)
    rcases he k hk2 with h2 | ⟨cA, n, f, g, h2, h3, h4⟩
    · rw [← h2]; exact h1
    · rw [h3]
      rw [h2] at h1
      have e1 : vp_cell cA (n, .inr (.inr (.inr (.inr f)))) = vp_cell cA (n, .inr (.inr (.inr (.inr g)))) := by
        rw [vp_cell_q, vp_cell_q]
        exact arrV_cg (fun j hj => by rw [h4 j hj])
      show H[adL L k]? = some (vp_cell cA (n, .inr (.inr (.inr (.inr g)))))
      rw [← e1]
      exact h1
  · obtain ⟨h1, rfl⟩ := wW_of hi
    obtain ⟨h2, rfl⟩ := wW_of hj
    have h3 := w.2.2.1.1 _ _ _ _ (hget i h1) (hget j h2) hxz
    have h4 := (ps_qs ⟨i, h1⟩).1
    have h5 := (ps_qs ⟨j, h2⟩).1
    simp only at h4 h5
    rw [h3] at h4
    exact h4.symm.trans h5
  · obtain ⟨h1, rfl⟩ := wW_of hk
    exact w.2.2.1.2 _ (adL L k, eeL L k) (hget k h1)
