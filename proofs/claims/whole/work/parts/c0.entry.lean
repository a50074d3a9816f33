section ENTRY
/-! what is known at the law's entry -/
def ez_tx : List Nat := [146, 154, 163, 172, 181, 191, 202, 210, 221, 230, 237, 245, 251, 259, 267, 275, 283, 304, 326, 334, 342, 351, 360, 366, 373, 381, 389, 398, 407, 417, 427, 436, 446, 453, 459, 484, 509, 537, 562, 588, 615, 637, 663, 679, 693, 711, 738, 748, 758, 769, 779, 790, 802, 811, 823, 833, 841, 850, 857, 866, 876, 886, 896, 905, 914, 921, 929, 938, 947, 957, 968, 979, 987]
def ez_bw (q : String × Nat × String) : List Cond :=
  [.exactly (.string q.1 q.2.1) "java/lang/String", .eq (.field (.string q.1 q.2.1) "java/lang/String" "coder" "B") (.int 0), .arrayOf (.field (.string q.1 q.2.1) "java/lang/String" "value" "[B") .byte, .eq (.length (.field (.string q.1 q.2.1) "java/lang/String" "value" "[B")) (.int (Int32.ofNat q.2.2.length))] ++
  (List.range q.2.2.length).map (fun i => .eq (.elem (.field (.string q.1 q.2.1) "java/lang/String" "value" "[B") (.int (Int32.ofNat i))) (.int (nI (q.2.2.toList.getD i ' ').toNat)))
def ez_s (j : Nat) : String × Nat × String := ea_str.getD j ("", 0, "")
theorem ez_bw_at : ∀ j : Nat, j < 73 → ((flatC (Cond.and given_1 narrow_1)).drop (ez_tx.getD j 0)).take (ez_bw (ez_s j)).length = ez_bw (ez_s j) := by decide +kernel
theorem ez_bw_in (j : Nat) (hj : j < 73) : ∀ w ∈ ez_bw (ez_s j), w ∈ flatC (Cond.and given_1 narrow_1) := fun w hw => List.mem_of_mem_drop (i := ez_tx.getD j 0) (List.mem_of_mem_take (i := (ez_bw (ez_s j)).length) (by rw [ez_bw_at j hj]; exact hw))
theorem ez_ref : ∀ j : Nat, j < 73 → Cond.stringRef (ez_s j).1 (ez_s j).2.1 (ez_s j).2.2 ∈ lw_tbl := by decide +kernel
theorem ez_len : ∀ j : Nat, j < 73 → (ez_s j).2.2.length < 2 ^ 31 := by decide +kernel
theorem ez_ins : ∀ q ∈ vwCl, Cond.instantiable q.1 q.2.2 ∈ lw_tbl := by decide +kernel
theorem ez_nst : ∀ q ∈ eg_nl, Cond.methodLinkNest q.1 q.2.1 q.2.2.1 q.2.2.2 ∈ lw_tbl := by decide +kernel
theorem ez_ncs : ∀ q ∈ ea_ncs, Cond.not (.castable q.1 q.2) ∈ flatC (Cond.and given_1 narrow_1) := by decide +kernel
def ez_ad (a Y : Nat → Nat) : Nat → Nat := fun k => if k < 288 then a k else Y k
theorem ez_strs {args : Array Value} {s : State} (hts : ∀ w ∈ lw_tbl, w.before args s = true) (hs : ∀ w ∈ flatC (Cond.and given_1 narrow_1), w.before args s = true) {A : Nat → Prop} (hA : ∀ a : Nat, a < s.heap.size → ¬ A a) :
    ∃ ad : Nat → Nat × Nat, ∀ j : Nat, j < 73 → vk_R (ez_s j).1 (ez_s j).2.1 (ez_s j).2.2 (ad j).1 s ∧ va_O "java/lang/String" (ad j).1 A s s.heap ∧ va_OF "java/lang/String" "coder" "B" (.int 0) (ad j).1 A s s.heap ∧ va_OF "java/lang/String" "value" "[B" (.ref (ad j).2) (ad j).1 A s s.heap ∧ va_T .byte (ad j).2 (ez_s j).2.2.length (fun i => .int (nI ((ez_s j).2.2.toList.getD i ' ').toNat)) A s s.heap := by
  refine Classical.axiomOfChoice (r := fun (j : Nat) (q : Nat × Nat) => j < 73 → vk_R (ez_s j).1 (ez_s j).2.1 (ez_s j).2.2 q.1 s ∧ va_O "java/lang/String" q.1 A s s.heap ∧ va_OF "java/lang/String" "coder" "B" (.int 0) q.1 A s s.heap ∧ va_OF "java/lang/String" "value" "[B" (.ref q.2) q.1 A s s.heap ∧ va_T .byte q.2 (ez_s j).2.2.length (fun i => .int (nI ((ez_s j).2.2.toList.getD i ' ').toNat)) A s s.heap) (fun j => ?_)
  by_cases hj : j < 73
  · have hw : ∀ w ∈ ez_bw (ez_s j), w.before args s = true := fun w hw => hs w (ez_bw_in j hj w hw)
    obtain ⟨a, c, cA, kA, q1, q2, q3, q4, q5, q6, -⟩ := Cond.exactly_spec (args := args) (first := s) (o := none) (s := s) (idx := []) (t := .string (ez_s j).1 (ez_s j).2.1) (cls := "java/lang/String") (hw _ (by simp [ez_bw]))
    obtain ⟨t, ht, hT⟩ := va_Tof (tm := .field (.string (ez_s j).1 (ez_s j).2.1) "java/lang/String" "value" "[B") (ty := .byte) (f := fun i => .int (nI ((ez_s j).2.2.toList.getD i ' ').toNat)) (A := A) (ez_len j hj) (hw _ (by simp [ez_bw])) (va_eqt (hw _ (by simp [ez_bw]))) (fun i hi => va_eqt (hw _ (List.mem_append_right _ (List.mem_map.mpr ⟨i, List.mem_range.mpr hi, rfl⟩)))) hA
    exact ⟨(a, t), fun _ => ⟨vk_R.of (hts _ (ez_ref j hj)) q1, ⟨cA, q3, q5, by rw [q6]; exact q2, hA a (Array.getElem?_eq_some_iff.mp q3).1⟩, vk_OFof q1 (va_eqt (hw _ (by simp [ez_bw]))) hA, vk_OFof q1 ht hA, hT⟩⟩
  · exact ⟨(0, 0), fun h => absurd h hj⟩
theorem ez_kn {args : Array Value} {s : State} (hts : ∀ w ∈ lw_tbl, w.before args s = true) : ∃ D : Nat → ClassId × (Nat → Nat), ∀ (c : Nat) (q : vw_C), vwCl[c]? = some q → u_Kn s q.1 q.2.1 q.2.2 (D c).1 (D c).2 := by
  refine Classical.axiomOfChoice (r := fun (c : Nat) (x : ClassId × (Nat → Nat)) => ∀ q : vw_C, vwCl[c]? = some q → u_Kn s q.1 q.2.1 q.2.2 x.1 x.2) (fun c => ?_)
  cases h : vwCl[c]? with
  | none => exact ⟨(0, fun _ => 0), fun q hq => by cases hq⟩
  | some q =>
    have hm := List.mem_of_getElem? h
    obtain ⟨x, y, hxy⟩ := u_known (C := q.1) (T := q.2.1) (N := q.2.2) (n := q.2.2) hts (fun w hw => (ea_cw_in q hm w hw).1) (hts _ (ez_ins q hm))
    exact ⟨(x, y), fun q' hq => by cases hq; exact hxy⟩
theorem ez_arr {args : Array Value} {s : State} (hts : ∀ w ∈ lw_tbl, w.before args s = true) : ∃ cA : Nat → ClassId, ∀ (k : Nat) (q : ClassId × FieldType), ([(cA 0, .int), (cA 1, .byte), (cA 2, .long), (cA 3, .object "FeatherYard$Court"), (cA 4, .object "FeatherYard$Fates")] : List (ClassId × FieldType))[k]? = some q → ArrOfT s q.1 q.2 ∧ va_RA s q.1 q.2 := by
  obtain ⟨a0, k0, m0, x0, y0, z0⟩ := Cond.arrayClass_spec (hts (.arrayClass .int) (by decide +kernel))
  obtain ⟨a1, k1, m1, x1, y1, z1⟩ := Cond.arrayClass_spec (hts (.arrayClass .byte) (by decide +kernel))
  obtain ⟨a2, k2, m2, x2, y2, z2⟩ := Cond.arrayClass_spec (hts (.arrayClass .long) (by decide +kernel))
  obtain ⟨m3, a3, k3, f3, g3, h3, i3, j3⟩ := Cond.arrayOver_spec (hts (.arrayOver (.object "FeatherYard$Court")) (by decide +kernel))
  obtain ⟨m4, a4, k4, f4, g4, h4, i4, j4⟩ := Cond.arrayOver_spec (hts (.arrayOver (.object "FeatherYard$Fates")) (by decide +kernel))
  refine ⟨fun k => match k with | 0 => a0 | 1 => a1 | 2 => a2 | 3 => a3 | _ => a4, fun k q hq => ?_⟩
  match k, hq with
  | 0, hq => cases hq; exact ⟨fun n z => ⟨fun k h => (by cases h), k0, y0, m0, z0⟩, x0⟩
  | 1, hq => cases hq; exact ⟨fun n z => ⟨fun k h => (by cases h), k1, y1, m1, z1⟩, x1⟩
  | 2, hq => cases hq; exact ⟨fun n z => ⟨fun k h => (by cases h), k2, y2, m2, z2⟩, x2⟩
  | 3, hq => cases hq; exact ⟨fun n z => ⟨fun k h => (by cases h), k3, h3, m3, i3⟩, k3, m3, h3, i3, f3, j3⟩
  | 4, hq => cases hq; exact ⟨fun n z => ⟨fun k h => (by cases h), k4, h4, m4, i4⟩, k4, m4, h4, i4, f4, j4⟩
  | k + 5, hq => cases hq
theorem ez_cx {s : State} {b L : Nat} {xs : Nat → Int32} (l : Launch) (hl : l.stackTraces = false) (hts : ∀ w ∈ lw_tbl, w.before #[Value.ref b] s = true) (hX : va_X b L xs s s.heap) (hbl : b < s.heap.size) (hgv : (Jvm.Cond.and given_1 narrow_1).before #[Value.ref b] s = true) :
    ∃ (Y : Nat → Nat) (D : va_G) (cA : Nat → ClassId) (fl : Nat → Nat), Y 2000 = b ∧ ∀ a : Nat → Nat, (∀ i j : Nat, i < 288 → j < 288 → a i = a j → i = j) → (∀ k : Nat, k < 288 → s.heap.size ≤ a k) → eg_Cx (l, ez_ad a Y, D, cA, s.heap.size, fl, L, xs) s := by
  have hs := flat_of_before _ hgv
  have hA : ∀ a : Nat, a < s.heap.size → ¬ (fun q : Nat => s.heap.size ≤ q) a := fun a h => Nat.not_le.mpr h
  obtain ⟨ad, had⟩ := ez_strs hts hs hA
  obtain ⟨D, hD⟩ := ez_kn hts
  obtain ⟨cA, hcA⟩ := ez_arr hts
  obtain ⟨t, ht, hT⟩ := va_Tof (tm := .static "FeatherYard$Reckoner" "ROWS_LEFT" "[I") (ty := .int) (N := 9) (f := fun j => .int (ea_rows.getD j 0)) (by decide) (hs _ (by decide +kernel)) (va_eqt (hs _ (by decide +kernel))) (fun j hj => va_eqt (hs _ ((by decide +kernel : ∀ j : Nat, j < 9 → Cond.eq (.elem (.static "FeatherYard$Reckoner" "ROWS_LEFT" "[I") (.int (Int32.ofNat j))) (.int (ea_rows.getD j 0)) ∈ flatC (Cond.and given_1 narrow_1)) j hj))) hA
  have hZ1 : va_Z "FeatherYard$Reckoner" "ROWS_LEFT" "[I" (.ref t) (fun q : Nat => s.heap.size ≤ q) s s.heap := va_Zof (hts _ (by decide +kernel)) (hts _ (by decide +kernel)) ht hA
  have hZ0 : va_Z "java/lang/String" "COMPACT_STRINGS" "Z" (.int 1) (fun q : Nat => s.heap.size ≤ q) s s.heap := va_Zof (hts _ (by decide +kernel)) (hts _ (by decide +kernel)) (va_eqi (hs _ (by decide +kernel))) hA
  have hZ2 : va_Zq "jdk/internal/util/Preconditions" "SIOOBE_FORMATTER" "Ljava/util/function/BiFunction;" (fun q : Nat => s.heap.size ≤ q) s s.heap := va_Zqof (hts _ (by decide +kernel)) (hts _ (by decide +kernel)) (hs _ (by decide +kernel)) hA
  have hQ1 : vx_Zq Jvm.Bundle.tN "UNASSIGNED_STACK" Jvm.Bundle.steD (fun q : Nat => s.heap.size ≤ q) s s.heap := vx_Zqof (hts _ (by decide +kernel)) (hts _ (by decide +kernel)) (hs _ (by decide +kernel)) hA
  have hQ2 : vx_Zq Jvm.Bundle.tN "SUPPRESSED_SENTINEL" Jvm.Bundle.listD (fun q : Nat => s.heap.size ≤ q) s s.heap := vx_Zqof (hts _ (by decide +kernel)) (hts _ (by decide +kernel)) (hs _ (by decide +kernel)) hA
  obtain ⟨fl, f, hf⟩ : ∃ (fl : Nat → Nat) (f : Nat), va_Z "jdk/internal/util/Preconditions" "SIOOBE_FORMATTER" "Ljava/util/function/BiFunction;" (if fl 0 = 0 then .null else .ref f) (fun q : Nat => s.heap.size ≤ q) s s.heap := by
    rcases hZ2 with h | ⟨f, h⟩
    · exact ⟨fun _ => 0, 0, h⟩
    · exact ⟨fun _ => 1, f, h⟩
  obtain ⟨Y, y0, y1, y2, y3, y4⟩ : ∃ Y : Nat → Nat, Y 2000 = b ∧ Y 2001 = t ∧ Y 2002 = f ∧ (∀ j : Nat, j < 73 → Y (1000 + j) = (ad j).1) ∧ ∀ j : Nat, j < 73 → Y (3000 + j) = (ad j).2 := by
    refine ⟨fun k => if k = 2000 then b else if k = 2001 then t else if k = 2002 then f else if k < 2000 then (ad (k - 1000)).1 else (ad (k - 3000)).2, rfl, rfl, rfl, fun j hj => ?_, fun j hj => ?_⟩
    · show (if 1000 + j = 2000 then b else if 1000 + j = 2001 then t else if 1000 + j = 2002 then f else if 1000 + j < 2000 then (ad (1000 + j - 1000)).1 else (ad (1000 + j - 3000)).2) = _
      rw [if_neg (by omega), if_neg (by omega), if_neg (by omega), if_pos (by omega), Nat.add_sub_cancel_left]
    · show (if 3000 + j = 2000 then b else if 3000 + j = 2001 then t else if 3000 + j = 2002 then f else if 3000 + j < 2000 then (ad (3000 + j - 1000)).1 else (ad (3000 + j - 3000)).2) = _
      rw [if_neg (by omega), if_neg (by omega), if_neg (by omega), if_neg (by omega), Nat.add_sub_cancel_left]
  refine ⟨Y, (fun c => (D c).1, fun c => (D c).2), cA, fl, y0, fun a h1 h2 => ?_⟩
  have a1 : ∀ k : Nat, 288 ≤ k → ez_ad a Y k = Y k := fun k hk => by rw [ez_ad, if_neg (by omega)]
  have a2 : ∀ k : Nat, k < 288 → ez_ad a Y k = a k := fun k hk => by rw [ez_ad, if_pos hk]
  have b0 : ez_ad a Y 2000 = b := (a1 2000 (by decide)).trans y0
  have b1 : ez_ad a Y 2001 = t := (a1 2001 (by decide)).trans y1
  have b2 : ez_ad a Y 2002 = f := (a1 2002 (by decide)).trans y2
  refine ⟨⟨?_, ⟨hD, hcA⟩, ⟨?_, ?_⟩, ?_, ⟨hZ0, ?_, ?_, ?_⟩, ⟨hQ1, hQ2⟩, ?_, fun q hq => va_Nc.of (hs _ (ez_ncs q hq)), hl⟩, fun q hq => va_Nw.of rfl (hts _ (ez_nst q hq)), va_AO.of (hts (.arrayOver (.object "FeatherYard$Court")) (by decide +kernel)), va_AO.of (hts (.arrayOver (.object "FeatherYard$Fates")) (by decide +kernel))⟩
  · exact fun w hw hg a => ea_word (State.WarmedH.refl s) hg (hts w hw)
  · intro i j hi hj e
    refine h1 i j hi hj ?_
    have e' : ez_ad a Y i = ez_ad a Y j := e
    rw [a2 i hi, a2 j hj] at e'
    exact e'
  · intro k hk
    show s.heap.size ≤ ez_ad a Y k
    rw [a2 k hk]
    exact h2 k hk
  · intro j hj
    have hj' : j < 73 := hj
    show vk_R (ez_s j).1 (ez_s j).2.1 (ez_s j).2.2 (ez_ad a Y (1000 + j)) s ∧ va_O "java/lang/String" (ez_ad a Y (1000 + j)) (fun q : Nat => s.heap.size ≤ q) s s.heap ∧ va_OF "java/lang/String" "coder" "B" (.int 0) (ez_ad a Y (1000 + j)) (fun q : Nat => s.heap.size ≤ q) s s.heap ∧ va_OF "java/lang/String" "value" "[B" (.ref (ez_ad a Y (3000 + j))) (ez_ad a Y (1000 + j)) (fun q : Nat => s.heap.size ≤ q) s s.heap ∧ va_T .byte (ez_ad a Y (3000 + j)) (ez_s j).2.2.length (fun i => .int (nI ((ez_s j).2.2.toList.getD i ' ').toNat)) (fun q : Nat => s.heap.size ≤ q) s s.heap
    rw [a1 _ (by omega), a1 _ (by omega), y3 j hj', y4 j hj']
    exact had j hj'
  · show va_Z _ _ _ (.ref (ez_ad a Y 2001)) (fun q : Nat => s.heap.size ≤ q) s s.heap
    rw [b1]
    exact hZ1
  · show va_T .int (ez_ad a Y 2001) 9 _ (fun q : Nat => s.heap.size ≤ q) s s.heap
    rw [b1]
    exact hT
  · by_cases h0 : fl 0 = 0
    · rw [if_pos h0] at hf
      show va_Z _ _ _ (ea_tv _ (if fl 0 = 0 then .null else .ref 2002)) _ _ _
      rw [if_pos h0]
      exact hf
    · rw [if_neg h0] at hf
      show va_Z _ _ _ (ea_tv _ (if fl 0 = 0 then .null else .ref 2002)) _ _ _
      rw [if_neg h0]
      show va_Z _ _ _ (.ref (ez_ad a Y 2002)) (fun q : Nat => s.heap.size ≤ q) s s.heap
      rw [b2]
      exact hf
  · show va_X (ez_ad a Y 2000) L xs s s.heap ∧ ez_ad a Y 2000 < s.heap.size ∧ ¬ s.heap.size ≤ ez_ad a Y 2000
    rw [b0]
    exact ⟨hX, hbl, hA b hbl⟩
end ENTRY
