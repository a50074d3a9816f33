/-! ===== the abstract heap: rows of ints at places; what stands at a place never changes, only the ints do ===== -/
abbrev ea_M : Type := Nat → Nat → Int32
def ea_up (m : ea_M) (a : Nat) (f : Nat → Int32) : ea_M := fun b => if b = a then f else m b
def ea_st (m : ea_M) (a i : Nat) (v : Int32) : ea_M := ea_up m a (upd (m a) i v)
abbrev ea_S : Type := (Nat × Nat) ⊕ (Nat × List (Option Nat)) ⊕ (Nat × List Nat)
def ea_N : Nat := 288
def ea_shl : List ea_S := [.inr (.inl (11, [some 1, none, none, some 2, some 16, some 24, some 38, some 46, some 48, none, some 50, some 64, some 72, none, none, some 73, some 76, some 79, none, some 80, some 83])),
  .inl (0, 400),
  .inr (.inl (2, [none, none, none, none, none, none, none, none, none, some 3, some 4, some 5, some 6, some 7, some 8, some 14])),
  .inl (0, 13),
  .inl (0, 6),
  .inl (0, 6),
  .inl (0, 6),
  .inl (0, 6),
  .inr (.inl (1, [none, none, some 9, some 10, some 11, some 12, some 13])),
  .inl (0, 24),
  .inl (0, 12),
  .inl (0, 12),
  .inl (0, 12),
  .inl (0, 12),
  .inr (.inl (6, [none, none, some 15])),
  .inl (0, 360),
  .inr (.inl (7, [none, none, none, none, some 17, some 18, some 19, some 20, some 21, some 22, some 23])),
  .inl (0, 12),
  .inl (0, 12),
  .inl (0, 12),
  .inl (0, 12),
  .inl (0, 400),
  .inl (0, 8),
  .inl (0, 32),
  .inr (.inl (2, [none, none, none, none, none, none, none, none, none, some 25, some 26, some 27, some 28, some 29, some 30, some 36])),
  .inl (0, 13),
  .inl (0, 6),
  .inl (0, 6),
  .inl (0, 6),
  .inl (0, 6),
  .inr (.inl (1, [none, none, some 31, some 32, some 33, some 34, some 35])),
  .inl (0, 24),
  .inl (0, 12),
  .inl (0, 12),
  .inl (0, 12),
  .inl (0, 12),
  .inr (.inl (6, [none, none, some 37])),
  .inl (0, 360),
  .inr (.inl (7, [none, none, none, none, some 39, some 40, some 41, some 42, some 43, some 44, some 45])),
  .inl (0, 12),
  .inl (0, 12),
  .inl (0, 12),
  .inl (0, 12),
  .inl (0, 400),
  .inl (0, 8),
  .inl (0, 32),
  .inr (.inl (3, [some 47, some 24])),
  .inr (.inl (9, [some 1, none, none, none, none, none, none])),
  .inr (.inl (8, [some 49, some 38])),
  .inr (.inl (9, [some 1, none, none, none, none, none, none])),
  .inr (.inl (2, [none, none, none, none, none, none, none, none, none, some 51, some 52, some 53, some 54, some 55, some 56, some 62])),
  .inl (0, 13),
  .inl (0, 6),
  .inl (0, 6),
  .inl (0, 6),
  .inl (0, 6),
  .inr (.inl (1, [none, none, some 57, some 58, some 59, some 60, some 61])),
  .inl (0, 24),
  .inl (0, 12),
  .inl (0, 12),
  .inl (0, 12),
  .inl (0, 12),
  .inr (.inl (6, [none, none, some 63])),
  .inl (0, 360),
  .inr (.inl (7, [none, none, none, none, some 65, some 66, some 67, some 68, some 69, some 70, some 71])),
  .inl (0, 12),
  .inl (0, 12),
  .inl (0, 12),
  .inl (0, 12),
  .inl (0, 400),
  .inl (0, 8),
  .inl (0, 32),
  .inr (.inr (3, [86, 100, 114, 128, 142, 156, 170, 184, 198, 212, 226, 240])),
  .inr (.inl (0, [some 2, some 16, some 74, some 75, none, none, none])),
  .inr (.inl (5, [none, none, none, none, none, none])),
  .inr (.inl (5, [none, none, none, none, none, none])),
  .inr (.inl (10, [some 73, some 77, some 78])),
  .inl (0, 208),
  .inl (0, 208),
  .inr (.inr (4, [254, 257, 260, 263, 266, 269])),
  .inr (.inl (4, [none, none, some 81, some 82])),
  .inl (0, 128),
  .inl (0, 9),
  .inr (.inl (4, [none, none, some 84, some 85])),
  .inl (0, 128),
  .inl (0, 9),
  .inr (.inl (2, [none, none, none, none, none, none, none, none, none, some 87, some 88, some 89, some 90, some 91, some 92, some 98])),
  .inl (0, 13),
  .inl (0, 6),
  .inl (0, 6),
  .inl (0, 6),
  .inl (0, 6),
  .inr (.inl (1, [none, none, some 93, some 94, some 95, some 96, some 97])),
  .inl (0, 24),
  .inl (0, 12),
  .inl (0, 12),
  .inl (0, 12),
  .inl (0, 12),
  .inr (.inl (6, [none, none, some 99])),
  .inl (0, 360),
  .inr (.inl (2, [none, none, none, none, none, none, none, none, none, some 101, some 102, some 103, some 104, some 105, some 106, some 112])),
  .inl (0, 13),
  .inl (0, 6),
  .inl (0, 6),
  .inl (0, 6),
  .inl (0, 6),
  .inr (.inl (1, [none, none, some 107, some 108, some 109, some 110, some 111])),
  .inl (0, 24),
  .inl (0, 12),
  .inl (0, 12),
  .inl (0, 12),
  .inl (0, 12),
  .inr (.inl (6, [none, none, some 113])),
  .inl (0, 360),
  .inr (.inl (2, [none, none, none, none, none, none, none, none, none, some 115, some 116, some 117, some 118, some 119, some 120, some 126])),
  .inl (0, 13),
  .inl (0, 6),
  .inl (0, 6),
  .inl (0, 6),
  .inl (0, 6),
  .inr (.inl (1, [none, none, some 121, some 122, some 123, some 124, some 125])),
  .inl (0, 24),
  .inl (0, 12),
  .inl (0, 12),
  .inl (0, 12),
  .inl (0, 12),
  .inr (.inl (6, [none, none, some 127])),
  .inl (0, 360),
  .inr (.inl (2, [none, none, none, none, none, none, none, none, none, some 129, some 130, some 131, some 132, some 133, some 134, some 140])),
  .inl (0, 13),
  .inl (0, 6),
  .inl (0, 6),
  .inl (0, 6),
  .inl (0, 6),
  .inr (.inl (1, [none, none, some 135, some 136, some 137, some 138, some 139])),
  .inl (0, 24),
  .inl (0, 12),
  .inl (0, 12),
  .inl (0, 12),
  .inl (0, 12),
  .inr (.inl (6, [none, none, some 141])),
  .inl (0, 360),
  .inr (.inl (2, [none, none, none, none, none, none, none, none, none, some 143, some 144, some 145, some 146, some 147, some 148, some 154])),
  .inl (0, 13),
  .inl (0, 6),
  .inl (0, 6),
  .inl (0, 6),
  .inl (0, 6),
  .inr (.inl (1, [none, none, some 149, some 150, some 151, some 152, some 153])),
  .inl (0, 24),
  .inl (0, 12),
  .inl (0, 12),
  .inl (0, 12),
  .inl (0, 12),
  .inr (.inl (6, [none, none, some 155])),
  .inl (0, 360),
  .inr (.inl (2, [none, none, none, none, none, none, none, none, none, some 157, some 158, some 159, some 160, some 161, some 162, some 168])),
  .inl (0, 13),
  .inl (0, 6),
  .inl (0, 6),
  .inl (0, 6),
  .inl (0, 6),
  .inr (.inl (1, [none, none, some 163, some 164, some 165, some 166, some 167])),
  .inl (0, 24),
  .inl (0, 12),
  .inl (0, 12),
  .inl (0, 12),
  .inl (0, 12),
  .inr (.inl (6, [none, none, some 169])),
  .inl (0, 360),
  .inr (.inl (2, [none, none, none, none, none, none, none, none, none, some 171, some 172, some 173, some 174, some 175, some 176, some 182])),
  .inl (0, 13),
  .inl (0, 6),
  .inl (0, 6),
  .inl (0, 6),
  .inl (0, 6),
  .inr (.inl (1, [none, none, some 177, some 178, some 179, some 180, some 181])),
  .inl (0, 24),
  .inl (0, 12),
  .inl (0, 12),
  .inl (0, 12),
  .inl (0, 12),
  .inr (.inl (6, [none, none, some 183])),
  .inl (0, 360),
  .inr (.inl (2, [none, none, none, none, none, none, none, none, none, some 185, some 186, some 187, some 188, some 189, some 190, some 196])),
  .inl (0, 13),
  .inl (0, 6),
  .inl (0, 6),
  .inl (0, 6),
  .inl (0, 6),
  .inr (.inl (1, [none, none, some 191, some 192, some 193, some 194, some 195])),
  .inl (0, 24),
  .inl (0, 12),
  .inl (0, 12),
  .inl (0, 12),
  .inl (0, 12),
  .inr (.inl (6, [none, none, some 197])),
  .inl (0, 360),
  .inr (.inl (2, [none, none, none, none, none, none, none, none, none, some 199, some 200, some 201, some 202, some 203, some 204, some 210])),
  .inl (0, 13),
  .inl (0, 6),
  .inl (0, 6),
  .inl (0, 6),
  .inl (0, 6),
  .inr (.inl (1, [none, none, some 205, some 206, some 207, some 208, some 209])),
  .inl (0, 24),
  .inl (0, 12),
  .inl (0, 12),
  .inl (0, 12),
  .inl (0, 12),
  .inr (.inl (6, [none, none, some 211])),
  .inl (0, 360),
  .inr (.inl (2, [none, none, none, none, none, none, none, none, none, some 213, some 214, some 215, some 216, some 217, some 218, some 224])),
  .inl (0, 13),
  .inl (0, 6),
  .inl (0, 6),
  .inl (0, 6),
  .inl (0, 6),
  .inr (.inl (1, [none, none, some 219, some 220, some 221, some 222, some 223])),
  .inl (0, 24),
  .inl (0, 12),
  .inl (0, 12),
  .inl (0, 12),
  .inl (0, 12),
  .inr (.inl (6, [none, none, some 225])),
  .inl (0, 360),
  .inr (.inl (2, [none, none, none, none, none, none, none, none, none, some 227, some 228, some 229, some 230, some 231, some 232, some 238])),
  .inl (0, 13),
  .inl (0, 6),
  .inl (0, 6),
  .inl (0, 6),
  .inl (0, 6),
  .inr (.inl (1, [none, none, some 233, some 234, some 235, some 236, some 237])),
  .inl (0, 24),
  .inl (0, 12),
  .inl (0, 12),
  .inl (0, 12),
  .inl (0, 12),
  .inr (.inl (6, [none, none, some 239])),
  .inl (0, 360),
  .inr (.inl (2, [none, none, none, none, none, none, none, none, none, some 241, some 242, some 243, some 244, some 245, some 246, some 252])),
  .inl (0, 13),
  .inl (0, 6),
  .inl (0, 6),
  .inl (0, 6),
  .inl (0, 6),
  .inr (.inl (1, [none, none, some 247, some 248, some 249, some 250, some 251])),
  .inl (0, 24),
  .inl (0, 12),
  .inl (0, 12),
  .inl (0, 12),
  .inl (0, 12),
  .inr (.inl (6, [none, none, some 253])),
  .inl (0, 360),
  .inr (.inl (4, [none, none, some 255, some 256])),
  .inl (0, 128),
  .inl (0, 9),
  .inr (.inl (4, [none, none, some 258, some 259])),
  .inl (0, 128),
  .inl (0, 9),
  .inr (.inl (4, [none, none, some 261, some 262])),
  .inl (0, 128),
  .inl (0, 9),
  .inr (.inl (4, [none, none, some 264, some 265])),
  .inl (0, 128),
  .inl (0, 9),
  .inr (.inl (4, [none, none, some 267, some 268])),
  .inl (0, 128),
  .inl (0, 9),
  .inr (.inl (4, [none, none, some 270, some 271])),
  .inl (0, 128),
  .inl (0, 9),
  .inr (.inl (12, [none, some 273, some 274, some 275, some 276, some 277, none, none, some 278, none, none, none, none, none, none, some 279, none, some 280, none, none, none, none, some 281, some 282, some 283, none, none, some 284, some 285, some 286])),
  .inl (0, 2180),
  .inl (0, 1331),
  .inl (0, 1331),
  .inl (0, 482),
  .inl (0, 5784),
  .inl (1, 400),
  .inl (0, 5),
  .inl (0, 400),
  .inl (0, 208),
  .inl (0, 208),
  .inl (0, 144),
  .inl (0, 8),
  .inl (0, 2),
  .inl (0, 54),
  .inl (2, 1)]
def ea_sh (k : Nat) : ea_S := ea_shl.getD k (.inl (0, 0))
/-- the String constants: owner, place in its pool, text -/
def ea_str : List (String × Nat × String) := [("FeatherYard$CourtText", 46, "bird"), ("FeatherYard$CourtText", 99, "falls"), ("FeatherYard$CourtText", 104, "light"), ("FeatherYard$CourtText", 109, "songs"), ("FeatherYard$CourtText", 121, "moults"), ("FeatherYard$CourtText", 55, "counsel"), ("FeatherYard$CourtText", 60, "case"), ("FeatherYard$CourtText", 160, "present"), ("FeatherYard$CourtText", 65, "tower"), ("FeatherYard$CourtText", 169, "top"), ("FeatherYard$CourtText", 70, "yard"), ("FeatherYard$CourtText", 176, "to"), ("FeatherYard$CourtText", 75, "wind"), ("FeatherYard$CourtText", 180, "west"), ("FeatherYard$CourtText", 182, "east"), ("FeatherYard$CourtText", 80, "hour"), ("FeatherYard", 131, "the text is wrong"), ("FeatherYard", 141, "there are 12 texts"), ("FeatherYard$LawText", 82, "drop"), ("FeatherYard$LawText", 84, "lift"), ("FeatherYard$LawText", 86, "east"), ("FeatherYard$LawText", 88, "west"), ("FeatherYard$LawText", 69, "if"), ("FeatherYard$LawText", 103, "not"), ("FeatherYard$LawText", 111, "high"), ("FeatherYard$LawText", 113, "over"), ("FeatherYard$LawText", 124, "bird"), ("FeatherYard$LawText", 126, "level"), ("FeatherYard$LawText", 128, "column"), ("FeatherYard$LawText", 130, "light"), ("FeatherYard$LawText", 132, "hour"), ("FeatherYard$LawText", 134, "breath"), ("FeatherYard$LawText", 101, "and"), ("FeatherYard$LawText", 93, "or"), ("FeatherYard", 435, "there is no such bird"), ("FeatherYard", 174, "there is no such what"), ("FeatherYard", 438, "there is no such counsel"), ("FeatherYard", 440, "there is no such case"), ("FeatherYard", 444, "there is no such level"), ("FeatherYard", 446, "there is no such column"), ("FeatherYard", 448, "the number is none"), ("FeatherYard", 278, "it cannot be called so"), ("FeatherYard", 307, "both are one"), ("FeatherYard", 309, "it is open"), ("FeatherYard", 442, "it is not open"), ("FeatherYard", 412, "the tape tells no songs"), ("FeatherYardModel", 156, "bird"), ("FeatherYardModel", 130, "falls"), ("FeatherYardModel", 132, "light"), ("FeatherYardModel", 138, "songs"), ("FeatherYardModel", 144, "moults"), ("FeatherYardModel", 162, "counsel"), ("FeatherYardModel", 166, "case"), ("FeatherYardModel", 146, "present"), ("FeatherYardModel", 171, "tower"), ("FeatherYardModel", 148, "top"), ("FeatherYardModel", 176, "yard"), ("FeatherYardModel", 150, "to"), ("FeatherYardModel", 181, "wind"), ("FeatherYardModel", 152, "west"), ("FeatherYardModel", 154, "east"), ("FeatherYardModel", 186, "hour"), ("FeatherYardModel", 242, "drop"), ("FeatherYardModel", 244, "lift"), ("FeatherYardModel", 246, "if"), ("FeatherYardModel", 221, "not"), ("FeatherYardModel", 211, "high"), ("FeatherYardModel", 213, "over"), ("FeatherYardModel", 198, "level"), ("FeatherYardModel", 200, "column"), ("FeatherYardModel", 202, "breath"), ("FeatherYardModel", 235, "and"), ("FeatherYardModel", 240, "or")]
def ea_exn (k : Nat) : String := ["", "java/lang/IndexOutOfBoundsException", "java/lang/IllegalArgumentException", "java/lang/IllegalStateException", "java/util/NoSuchElementException", "java/lang/UnsupportedOperationException"].getD k ""
def ea_rows : List Int32 := [6561, 2187, 729, 243, 81, 27, 9, 3, 1]
/-- the surroundings: launch, addresses of the places, classes, array classes, the first address that is ours, the bytes of the texts, the script -/
abbrev ea_G : Type := Launch × (Nat → Nat) × va_G × (Nat → ClassId) × Nat × (Nat → Nat) × Nat × (Nat → Int32)
def ea_l (G : ea_G) : Launch := G.1
def ea_ad (G : ea_G) : Nat → Nat := G.2.1
def ea_D (G : ea_G) : va_G := G.2.2.1
def ea_cA (G : ea_G) : Nat → ClassId := G.2.2.2.1
def ea_n0 (G : ea_G) : Nat := G.2.2.2.2.1
def ea_adV (G : ea_G) : Nat → Nat := fun j => ea_ad G (3000 + j)
def ea_L (G : ea_G) : Nat := G.2.2.2.2.2.2.1
def ea_xs (G : ea_G) : Nat → Int32 := G.2.2.2.2.2.2.2
def ea_A (G : ea_G) : Nat → Prop := fun q => ea_n0 G ≤ q
def ea_tys (G : ea_G) : List (ClassId × FieldType) := [(ea_cA G 0, .int), (ea_cA G 1, .byte), (ea_cA G 2, .long), (ea_cA G 3, .object "FeatherYard$Court"), (ea_cA G 4, .object "FeatherYard$Fates")]
def ea_tv (G : ea_G) (v : Value) : Value := match v with
  | .ref k => .ref (ea_ad G k)
  | v => v
def ea_fs (G : ea_G) (f : Nat → Int32) (fds : List (Option Nat)) : List Value := fds.mapIdx (fun i t => match t with | none => .int (f i) | some r => .ref (ea_ad G r))
def ea_cell (G : ea_G) (sh : ea_S) (f : Nat → Int32) : va_E := match sh with
  | .inl (k, n) => .inl (ea_cA G k, n, if k = 2 then .inr (.inl (fun j => (f j).toInt64)) else .inl f)
  | .inr (.inl (c, fds)) => .inr (c, ea_fs G f fds)
  | .inr (.inr (k, rs)) => .inl (ea_cA G k, rs.length, .inr (.inr (.inr (.inr (fun j => (rs[j]?).map (ea_ad G))))))
def ea_ws (G : ea_G) (m : ea_M) : va_W := (List.range ea_N).map (fun k => (ea_ad G k, ea_cell G (ea_sh k) (m k)))
theorem ea_ws_get (G : ea_G) (m : ea_M) {k : Nat} (h : k < ea_N) : (ea_ws G m)[k]? = some (ea_ad G k, ea_cell G (ea_sh k) (m k)) := by
  simp [ea_ws, h]
theorem ea_ws_set (G : ea_G) (m : ea_M) {k : Nat} (f : Nat → Int32) : (ea_ws G m).set k (ea_ad G k, ea_cell G (ea_sh k) f) = ea_ws G (ea_up m k f) := by
  apply List.ext_getElem?
  intro i
  rw [List.getElem?_set]
  by_cases hi : k = i
  · subst hi
    by_cases hk : k < ea_N
    · rw [if_pos rfl, if_pos (by simpa [ea_ws] using hk), ea_ws_get _ _ hk]
      simp [ea_up]
    · rw [if_pos rfl, if_neg (by simpa [ea_ws] using hk), List.getElem?_eq_none (by simpa [ea_ws] using hk)]
  · rw [if_neg hi]
    by_cases hk : i < ea_N
    · rw [ea_ws_get _ _ hk, ea_ws_get _ _ hk]
      simp [ea_up, Ne.symm hi]
    · rw [List.getElem?_eq_none (by simpa [ea_ws] using hk), List.getElem?_eq_none (by simpa [ea_ws] using hk)]
/-- the formatter of the index checks: a reference or null, nobody asks which -/
def ea_fm (G : ea_G) : Value := if G.2.2.2.2.2.1 0 = 0 then .null else .ref 2002
/-- what is known of a String constant -/
def ea_Str (G : ea_G) (j : Nat) (U : State) : Prop :=
  vk_R (ea_str.getD j ("", 0, "")).1 (ea_str.getD j ("", 0, "")).2.1 (ea_str.getD j ("", 0, "")).2.2 (ea_ad G (1000 + j)) U ∧ va_O "java/lang/String" (ea_ad G (1000 + j)) (ea_A G) U U.heap ∧
  va_OF "java/lang/String" "coder" "B" (.int 0) (ea_ad G (1000 + j)) (ea_A G) U U.heap ∧ va_OF "java/lang/String" "value" "[B" (.ref (ea_adV G j)) (ea_ad G (1000 + j)) (ea_A G) U U.heap ∧
  va_T .byte (ea_adV G j) (ea_str.getD j ("", 0, "")).2.2.length (fun i => .int (nI ((ea_str.getD j ("", 0, "")).2.2.toList.getD i ' ').toNat)) (ea_A G) U U.heap
def ea_ncs : List (String × String) := [(ea_exn 5, ea_exn 2), (ea_exn 2, ea_exn 1), (ea_exn 3, ea_exn 1), (ea_exn 4, ea_exn 1)]
/-- words that stay when the tables grow warmer -/
def ea_gw (w : Cond) : Bool := goodWord w || (w.onTables && w.keepsFace)
theorem ea_word {s U : State} {w : Cond} {a a' : Array Value} (hW : s.WarmedH U.vm) (hg : ea_gw w = true) (h : w.before a s = true) : w.before a' U = true := by
  unfold ea_gw at hg
  rw [Bool.or_eq_true] at hg
  rcases hg with hg | hg
  · exact word_at hW (good_of_word hg) h
  · rw [Bool.and_eq_true] at hg
    exact va_tabs (u := s.setVm U.vm) hg.1 rfl (Cond.before_shiftedFace (State.Shifted.of_warmed hW) w hg.2 h)
/-- what is known of the surroundings at a state -/
def ea_Cx (G : ea_G) (U : State) : Prop :=
  (∀ w ∈ lw_tbl, ea_gw w = true → ∀ a : Array Value, w.before a U = true) ∧
  va_K (ea_D G) vwCl (ea_tys G) U ∧
  ((∀ i j : Nat, i < ea_N → j < ea_N → ea_ad G i = ea_ad G j → i = j) ∧ ∀ k : Nat, k < ea_N → ea_n0 G ≤ ea_ad G k) ∧
  (∀ j : Nat, j < ea_str.length → ea_Str G j U) ∧
  (va_Z "java/lang/String" "COMPACT_STRINGS" "Z" (.int 1) (ea_A G) U U.heap ∧ va_Z "FeatherYard$Reckoner" "ROWS_LEFT" "[I" (.ref (ea_ad G 2001)) (ea_A G) U U.heap ∧ va_T .int (ea_ad G 2001) 9 (fun j => .int (ea_rows.getD j 0)) (ea_A G) U U.heap ∧ va_Z "jdk/internal/util/Preconditions" "SIOOBE_FORMATTER" "Ljava/util/function/BiFunction;" (ea_tv G (ea_fm G)) (ea_A G) U U.heap) ∧
  (vx_Zq Jvm.Bundle.tN "UNASSIGNED_STACK" Jvm.Bundle.steD (ea_A G) U U.heap ∧ vx_Zq Jvm.Bundle.tN "SUPPRESSED_SENTINEL" Jvm.Bundle.listD (ea_A G) U U.heap) ∧
  (va_X (ea_ad G 2000) (ea_L G) (ea_xs G) U U.heap ∧ ea_ad G 2000 < U.heap.size ∧ ¬ ea_A G (ea_ad G 2000)) ∧
  (∀ q ∈ ea_ncs, va_Nc q.1 q.2 U) ∧ (ea_l G).stackTraces = false
theorem ea_Cx.go {G : ea_G} {s U : State} (h : ea_Cx G s) (hW : s.WarmedH U.vm) (hz : s.heap.size ≤ U.heap.size) (hq : ∀ q : Nat, q < s.heap.size → ¬ ea_A G q → U.heap[q]? = s.heap[q]?) : ea_Cx G U := by
  obtain ⟨h1, h2, h3, h4, ⟨h5, h6, h7, h7f⟩, ⟨h8, h9⟩, ⟨h10, h11, h12⟩, h13, h14⟩ := h
  have hA := hW.alike
  refine ⟨fun w hw hg a => ea_word hW hg (h1 w hw hg a), va_K.moved hA h2, h3, fun j hj => ?_, ⟨va_Z.moved hA (h5.kept hq), va_Z.moved hA (h6.kept hq), va_T.moved hA (h7.kept hq), va_Z.moved hA (h7f.kept hq)⟩, ⟨vx_Zq.moved hA (h8.kept hq), vx_Zq.moved hA (h9.kept hq)⟩, ⟨va_X.moved hA (h10.kept (hq _ h11 h12)), Nat.lt_of_lt_of_le h11 hz, h12⟩, fun q hq => va_Nc.moved hA (h13 q hq), h14⟩
  obtain ⟨g1, g2, g3, g4, g5⟩ := h4 j hj
  exact ⟨vk_R.warm hW g1, va_O.moved hA (g2.kept hq), va_OF.moved hA (g3.kept hq), va_OF.moved hA (g4.kept hq), va_T.moved hA (g5.kept hq)⟩
theorem ea_Cx.D {G : ea_G} {s : State} (h : ea_Cx G s) (m : ea_M) : va_D (ea_A G) (ea_ws G m) := by
  obtain ⟨-, -, ⟨h1, h2⟩, -⟩ := h
  refine ⟨fun i j p q hi hj e => ?_, fun k q hk => ?_⟩
  · by_cases a : i < ea_N
    · by_cases b : j < ea_N
      · rw [ea_ws_get _ _ a] at hi
        rw [ea_ws_get _ _ b] at hj
        cases hi; cases hj
        exact h1 i j a b e
      · rw [List.getElem?_eq_none (by simpa [ea_ws] using b)] at hj; cases hj
    · rw [List.getElem?_eq_none (by simpa [ea_ws] using a)] at hi; cases hi
  · by_cases a : k < ea_N
    · rw [ea_ws_get _ _ a] at hk
      cases hk
      exact h2 k a
    · rw [List.getElem?_eq_none (by simpa [ea_ws] using a)] at hk; cases hk
/-- a method: room, bytes, owner, what it returns, its locals, its table, its cells and slots -/
abbrev ea_F : Type := Room × ByteArray × String × Option FieldType × Nat × List (Nat × Nat × Nat × Nat) × Nat × Nat
def ea_R (F : ea_F) : Room := F.1
def ea_cc (F : ea_F) : ByteArray := F.2.1
def ea_own (F : ea_F) : String := F.2.2.1
def ea_ret (F : ea_F) : Option FieldType := F.2.2.2.1
def ea_nL (F : ea_F) : Nat := F.2.2.2.2.1
def ea_tb (F : ea_F) : List (Nat × Nat × Nat × Nat) := F.2.2.2.2.2.1
def ea_mc (F : ea_F) : Nat := F.2.2.2.2.2.2.1
def ea_ms (F : ea_F) : Nat := F.2.2.2.2.2.2.2
def ea_rm (lev mc ms : Nat) : Room := { frames := lev, cells := mc, slots := ms, locals := 48 * lev }
/-- a method's end: 0 and its answer, or an exception's kind; the memory behind it -/
abbrev ea_O : Type := Nat × Int32 × ea_M
def ea_Q (G : ea_G) (F : ea_F) (res : ea_O) : Array Value → State → Outcome → State → Prop := fun _ st o t =>
  res.1 = 0 ∧ o = .returned (match ea_ret F with | none => none | some _ => some (.int res.2.1)) ∧ va_P (ea_D G) vwCl (ea_ws G res.2.2) t.heap ∧ va_F (ea_A G) st t
def ea_X (G : ea_G) (res : ea_O) : String → State → State → Prop := fun E st t =>
  0 < res.1 ∧ E = ea_exn res.1 ∧ va_P (ea_D G) vwCl (ea_ws G res.2.2) t.heap ∧ va_F (ea_A G) st t
/-- the locals hold what is listed (values of one word) -/
def ea_lh (G : ea_G) (lsA : Array Slot) (nL : Nat) (ls : List (Option Value)) : Prop := lsA.size = nL ∧ lv_wf lsA ∧ ∀ (j : Nat) (v : Value), ls[j]? = some (some v) → v.category = 1 ∧ lsA[j]? = some (.val (ea_tv G v))
def ea_H (G : ea_G) (F : ea_F) (p : Program) (s : State) (mi : MethodId) (meth : Method) (c : Code) (H : Heap) (locs : List Loc) (m : ea_M) : Prop :=
  p.tables.exec = Jvm.exec ∧ c.code = ea_cc F ∧ (meth.sig.returnType = ea_ret F ∧ c.maxLocals = ea_nL F ∧ s.vm.findClass (ea_own F) = some mi.cls ∧ meth.locks = false ∧ c.exceptionTable.toList = tableOf (ea_tb F)) ∧ ea_Cx G s ∧ va_S (ea_A G) s.heap H locs ∧ va_P (ea_D G) vwCl (ea_ws G m) H
def ea_Ev (G : ea_G) (F : ea_F) (res : ea_O) (pc : Nat) (ls : List (Option Value)) (st : List Value) (m : ea_M) (k n : Nat) : Prop :=
  ∀ (p : Program) (e : Env) (s : State) (mi : MethodId) (args : Array Value) (below : List Frame) (meth : Method) (c : Code) (H : Heap) (locs : List Loc) (lsA : Array Slot), ea_H G F p s mi meth c H locs m → ea_lh G lsA (ea_nL F) ls →
    W p (ea_l G) e (ea_R F) s mi args below meth c H locs k n (vx_MQ below (ea_Q G F res) (ea_X G res) args s (ea_mc F) (ea_ms F) (ea_A G)) (F0 mi pc lsA (st.map (ea_tv G)))
/-- if x comes to t, and what is to be done at t is done, the method comes to its end from here -/
def ea_E {τ : Type} (G : ea_G) (F : ea_F) (res : ea_O) (pc : Nat) (ls : List (Option Value)) (st : List Value) (m : ea_M) (k n : Nat) (x : Option τ) (Φ : τ → Prop) : Prop :=
  ∀ t : τ, x = some t → Φ t → ea_Ev G F res pc ls st m k n
def ea_g {τ : Type} (i : Int32) (n : Nat) (x : Option τ) : Option τ := if i < 0 ∨ n ≤ i.toNatClampNeg then none else x
def ea_gz {τ : Type} (v : Int32) (x : Option τ) : Option τ := if v = 0 ∨ v = 1 then x else none
def ea_gn {τ : Type} (v : Int32) (x : Option τ) : Option τ := if v = 0 then none else x
theorem ea_g_some {τ : Type} {i : Int32} {n : Nat} {x : Option τ} {t : τ} (h : ea_g i n x = some t) : vp_in i n ∧ x = some t := by
  unfold ea_g at h
  split at h
  · cases h
  · rename_i q; exact ⟨q, h⟩
theorem ea_gz_some {τ : Type} {v : Int32} {x : Option τ} {t : τ} (h : ea_gz v x = some t) : (v = 0 ∨ v = 1) ∧ x = some t := by
  unfold ea_gz at h
  split at h
  · rename_i q; exact ⟨q, h⟩
  · cases h
theorem ea_gn_some {τ : Type} {v : Int32} {x : Option τ} {t : τ} (h : ea_gn v x = some t) : ¬ v = 0 ∧ x = some t := by
  unfold ea_gn at h
  split at h
  · cases h
  · rename_i q; exact ⟨q, h⟩
def ea_loop {σ ρ : Type} (step : σ → Option (σ ⊕ ρ)) : Nat → σ → Option ρ
  | 0, _ => none
  | n + 1, s => match step s with
    | none => none
    | some (.inl s') => ea_loop step n s'
    | some (.inr r) => some r
theorem ea_at {cc : ByteArray} {D : List (Nat × Instr × Nat)} (h : ∀ q ∈ D, decode cc q.1 = .ok q.2) (i : Nat) {pc len : Nat} {ins : Instr} (hq : D[i]? = some (pc, ins, len)) : decode cc pc = .ok (ins, len) := h (pc, ins, len) (List.mem_of_getElem? hq)
section EVA
variable {τ : Type} {G : ea_G} {F : ea_F} {res : ea_O} {pc : Nat} {ls : List (Option Value)} {st : List Value} {m : ea_M} {k n : Nat} {x : Option τ} {Φ : τ → Prop}
theorem ev_leaf {t : τ} (h : Φ t → ea_Ev G F res pc ls st m k n) : ea_E G F res pc ls st m k n (some t) Φ := fun t' e q => h (by cases e; exact q)
theorem ev_none : ea_E G F res pc ls st m k n none Φ := fun _ e _ => by cases e
theorem ev_bind {σ : Type} {y : Option σ} {f : σ → Option τ} (h : ea_E G F res pc ls st m k n y (fun r => ∃ t, f r = some t ∧ Φ t)) : ea_E G F res pc ls st m k n (y.bind f) Φ := by
  intro t e q
  cases hy : y with
  | none => rw [hy] at e; cases e
  | some r => exact h r hy ⟨t, by rw [hy] at e; exact e, q⟩
theorem ev_loop {σ ρ : Type} {step : σ → Option (σ ⊕ ρ)} {Ψ : ρ → Prop} (LS : σ → List (Option Value)) (MM : σ → ea_M)
    (h : ∀ s : σ, ea_E G F res pc (LS s) st (MM s) k n (step s) (Sum.elim (fun s' => ea_Ev G F res pc (LS s') st (MM s') k n) Ψ)) : ∀ (f : Nat) (s : σ), ea_E G F res pc (LS s) st (MM s) k n (ea_loop step f s) Ψ := by
  intro f
  induction f with
  | zero => intro s t e; cases e
  | succ f ih =>
    intro s t e q
    rw [ea_loop] at e
    cases hs : step s with
    | none => rw [hs] at e; cases e
    | some z =>
      rw [hs] at e
      cases z with
      | inl s' => exact h s (.inl s') hs (ih s' t e q)
      | inr r => exact h s (.inr r) hs (by cases e; exact q)
end EVA

