section EVO
variable {τ : Type} {G : ea_G} {F : ea_F} {res : ea_O} {pc : Nat} {ls : List (Option Value)} {st : List Value} {m : ea_M} {k n : Nat} {x : Option τ} {Φ : τ → Prop}
theorem ev_iadd {a b : Int32} (d : decode (ea_cc F) pc = .ok (.iadd, 1)) (h : ea_E G F res (pc + 1) ls (.int (a + b) :: st) m k n x Φ) : ea_E G F res pc ls (.int b :: .int a :: st) m k n x Φ :=
  fun t e q p e' s mi args below meth c H locs lsA hh hl => lv_iadd hh.1 hh.2.1 d (h t e q p e' s mi args below meth c H locs lsA hh hl)
theorem ev_isub {a b : Int32} (d : decode (ea_cc F) pc = .ok (.isub, 1)) (h : ea_E G F res (pc + 1) ls (.int (a - b) :: st) m k n x Φ) : ea_E G F res pc ls (.int b :: .int a :: st) m k n x Φ :=
  fun t e q p e' s mi args below meth c H locs lsA hh hl => lv_isub hh.1 hh.2.1 d (h t e q p e' s mi args below meth c H locs lsA hh hl)
theorem ev_imul {a b : Int32} (d : decode (ea_cc F) pc = .ok (.imul, 1)) (h : ea_E G F res (pc + 1) ls (.int (a * b) :: st) m k n x Φ) : ea_E G F res pc ls (.int b :: .int a :: st) m k n x Φ :=
  fun t e q p e' s mi args below meth c H locs lsA hh hl => lv_imul hh.1 hh.2.1 d (h t e q p e' s mi args below meth c H locs lsA hh hl)
theorem ev_iand {a b : Int32} (d : decode (ea_cc F) pc = .ok (.iand, 1)) (h : ea_E G F res (pc + 1) ls (.int (a &&& b) :: st) m k n x Φ) : ea_E G F res pc ls (.int b :: .int a :: st) m k n x Φ :=
  fun t e q p e' s mi args below meth c H locs lsA hh hl => lv_iand hh.1 hh.2.1 d (h t e q p e' s mi args below meth c H locs lsA hh hl)
theorem ev_ior {a b : Int32} (d : decode (ea_cc F) pc = .ok (.ior, 1)) (h : ea_E G F res (pc + 1) ls (.int (a ||| b) :: st) m k n x Φ) : ea_E G F res pc ls (.int b :: .int a :: st) m k n x Φ :=
  fun t e q p e' s mi args below meth c H locs lsA hh hl => lv_ior hh.1 hh.2.1 d (h t e q p e' s mi args below meth c H locs lsA hh hl)
theorem ev_ixor {a b : Int32} (d : decode (ea_cc F) pc = .ok (.ixor, 1)) (h : ea_E G F res (pc + 1) ls (.int (a ^^^ b) :: st) m k n x Φ) : ea_E G F res pc ls (.int b :: .int a :: st) m k n x Φ :=
  fun t e q p e' s mi args below meth c H locs lsA hh hl => lv_ixor hh.1 hh.2.1 d (h t e q p e' s mi args below meth c H locs lsA hh hl)
theorem ev_ishl {a b : Int32} (d : decode (ea_cc F) pc = .ok (.ishl, 1)) (h : ea_E G F res (pc + 1) ls (.int (a <<< (b &&& 31)) :: st) m k n x Φ) : ea_E G F res pc ls (.int b :: .int a :: st) m k n x Φ :=
  fun t e q p e' s mi args below meth c H locs lsA hh hl => lv_ishl hh.1 hh.2.1 d (h t e q p e' s mi args below meth c H locs lsA hh hl)
theorem ev_ishr {a b : Int32} (d : decode (ea_cc F) pc = .ok (.ishr, 1)) (h : ea_E G F res (pc + 1) ls (.int (a >>> (b &&& 31)) :: st) m k n x Φ) : ea_E G F res pc ls (.int b :: .int a :: st) m k n x Φ :=
  fun t e q p e' s mi args below meth c H locs lsA hh hl => lv_ishr hh.1 hh.2.1 d (h t e q p e' s mi args below meth c H locs lsA hh hl)
theorem ev_iushr {a b : Int32} (d : decode (ea_cc F) pc = .ok (.iushr, 1)) (h : ea_E G F res (pc + 1) ls (.int (a.toUInt32 >>> (b.toUInt32 &&& Int32.toUInt32 31)).toInt32 :: st) m k n x Φ) : ea_E G F res pc ls (.int b :: .int a :: st) m k n x Φ :=
  fun t e q p e' s mi args below meth c H locs lsA hh hl => lv_iushr hh.1 hh.2.1 d rfl (h t e q p e' s mi args below meth c H locs lsA hh hl)
theorem ev_ineg {a : Int32} (d : decode (ea_cc F) pc = .ok (.ineg, 1)) (h : ea_E G F res (pc + 1) ls (.int (-a) :: st) m k n x Φ) : ea_E G F res pc ls (.int a :: st) m k n x Φ :=
  fun t e q p e' s mi args below meth c H locs lsA hh hl => lv_ineg hh.1 hh.2.1 d (h t e q p e' s mi args below meth c H locs lsA hh hl)
theorem ev_i2l {a : Int32} (d : decode (ea_cc F) pc = .ok (.i2l, 1)) (h : ea_E G F res (pc + 1) ls (.long a.toInt64 :: st) m k n x Φ) : ea_E G F res pc ls (.int a :: st) m k n x Φ :=
  fun t e q p e' s mi args below meth c H locs lsA hh hl => lv_i2l hh.1 hh.2.1 d rfl (h t e q p e' s mi args below meth c H locs lsA hh hl)
theorem ev_l2i {a : Int64} (d : decode (ea_cc F) pc = .ok (.l2i, 1)) (h : ea_E G F res (pc + 1) ls (.int a.toInt32 :: st) m k n x Φ) : ea_E G F res pc ls (.long a :: st) m k n x Φ :=
  fun t e q p e' s mi args below meth c H locs lsA hh hl => lv_l2i hh.1 hh.2.1 d rfl (h t e q p e' s mi args below meth c H locs lsA hh hl)
theorem ev_i2b {a : Int32} (d : decode (ea_cc F) pc = .ok (.i2b, 1)) (h : ea_E G F res (pc + 1) ls (.int a.toInt8.toInt32 :: st) m k n x Φ) : ea_E G F res pc ls (.int a :: st) m k n x Φ :=
  fun t e q p e' s mi args below meth c H locs lsA hh hl => lv_i2b hh.1 hh.2.1 d rfl (h t e q p e' s mi args below meth c H locs lsA hh hl)
theorem ev_lmul {a b : Int64} (d : decode (ea_cc F) pc = .ok (.lmul, 1)) (h : ea_E G F res (pc + 1) ls (.long (a * b) :: st) m k n x Φ) : ea_E G F res pc ls (.long b :: .long a :: st) m k n x Φ :=
  fun t e q p e' s mi args below meth c H locs lsA hh hl => lv_lmul hh.1 hh.2.1 d (h t e q p e' s mi args below meth c H locs lsA hh hl)
theorem ev_lcmp {a b : Int64} (d : decode (ea_cc F) pc = .ok (.lcmp, 1)) (h : ea_E G F res (pc + 1) ls (.int (lg_cmp a b) :: st) m k n x Φ) : ea_E G F res pc ls (.long b :: .long a :: st) m k n x Φ :=
  fun t e q p e' s mi args below meth c H locs lsA hh hl => W.lcmp hh.1 hh.2.1 d (h t e q p e' s mi args below meth c H locs lsA hh hl)
theorem ev_ldiv {a b : Int64} (d : decode (ea_cc F) pc = .ok (.ldiv, 1)) (hb : ¬ b = 0) (h : ea_E G F res (pc + 1) ls (.long (a / b) :: st) m k n x Φ) : ea_E G F res pc ls (.long b :: .long a :: st) m k n x Φ :=
  fun t e q p e' s mi args below meth c H locs lsA hh hl => lv_ldiv hh.1 hh.2.1 d hb (h t e q p e' s mi args below meth c H locs lsA hh hl)
theorem ev_idiv {a b : Int32} (d : decode (ea_cc F) pc = .ok (.idiv, 1)) (hb : ¬ b = 0) (h : ea_E G F res (pc + 1) ls (.int (a / b) :: st) m k n x Φ) : ea_E G F res pc ls (.int b :: .int a :: st) m k n x Φ :=
  fun t e q p e' s mi args below meth c H locs lsA hh hl => lv_idiv hh.1 hh.2.1 d hb (h t e q p e' s mi args below meth c H locs lsA hh hl)
theorem ev_irem {a b : Int32} (d : decode (ea_cc F) pc = .ok (.irem, 1)) (hb : ¬ b = 0) (h : ea_E G F res (pc + 1) ls (.int (a - a / b * b) :: st) m k n x Φ) : ea_E G F res pc ls (.int b :: .int a :: st) m k n x Φ :=
  fun t e q p e' s mi args below meth c H locs lsA hh hl => lv_irem hh.1 hh.2.1 d hb (h t e q p e' s mi args below meth c H locs lsA hh hl)
theorem ev_idivG {a b : Int32} (d : decode (ea_cc F) pc = .ok (.idiv, 1)) (h : ea_E G F res (pc + 1) ls (.int (a / b) :: st) m k n x Φ) : ea_E G F res pc ls (.int b :: .int a :: st) m k n (ea_gn b x) Φ :=
  fun t e q => ev_idiv d (ea_gn_some e).1 h t (ea_gn_some e).2 q
theorem ev_iremG {a b : Int32} (d : decode (ea_cc F) pc = .ok (.irem, 1)) (h : ea_E G F res (pc + 1) ls (.int (a - a / b * b) :: st) m k n x Φ) : ea_E G F res pc ls (.int b :: .int a :: st) m k n (ea_gn b x) Φ :=
  fun t e q => ev_irem d (ea_gn_some e).1 h t (ea_gn_some e).2 q
theorem ev_iconst {i : Int} {v : Int32} (d : decode (ea_cc F) pc = .ok (.iconst i, 1)) (hv : Int32.ofInt i = v) (h : ea_E G F res (pc + 1) ls (.int v :: st) m k n x Φ) : ea_E G F res pc ls (st) m k n x Φ :=
  fun t e q p e' s mi args below meth c H locs lsA hh hl => lv_iconst hh.1 hh.2.1 d hv (h t e q p e' s mi args below meth c H locs lsA hh hl)
theorem ev_bipush {i : Int} {v : Int32} (d : decode (ea_cc F) pc = .ok (.bipush i, 2)) (hv : (Int8.ofInt i).toInt32 = v) (h : ea_E G F res (pc + 2) ls (.int v :: st) m k n x Φ) : ea_E G F res pc ls (st) m k n x Φ :=
  fun t e q p e' s mi args below meth c H locs lsA hh hl => lv_bipush hh.1 hh.2.1 d hv (h t e q p e' s mi args below meth c H locs lsA hh hl)
theorem ev_sipush {i : Int} {v : Int32} (d : decode (ea_cc F) pc = .ok (.sipush i, 3)) (hv : (Int16.ofInt i).toInt32 = v) (h : ea_E G F res (pc + 3) ls (.int v :: st) m k n x Φ) : ea_E G F res pc ls (st) m k n x Φ :=
  fun t e q p e' s mi args below meth c H locs lsA hh hl => lv_sipush hh.1 hh.2.1 d hv (h t e q p e' s mi args below meth c H locs lsA hh hl)
theorem ev_iload {i : Nat} {v : Int32} (d : decode (ea_cc F) pc = .ok (.iload i, 2)) (hv : ls[i]? = some (some (.int v))) (h : ea_E G F res (pc + 2) ls (.int v :: st) m k n x Φ) : ea_E G F res pc ls st m k n x Φ :=
  fun t e q p e' s mi args below meth c H locs lsA hh hl => lv_iload hh.1 hh.2.1 d (hl.2.2 i _ hv).2 (h t e q p e' s mi args below meth c H locs lsA hh hl)
theorem ev_iload_n {j : Fin 4} {v : Int32} (d : decode (ea_cc F) pc = .ok (.iload_n j, 1)) (hv : ls[(j : Nat)]? = some (some (.int v))) (h : ea_E G F res (pc + 1) ls (.int v :: st) m k n x Φ) : ea_E G F res pc ls st m k n x Φ :=
  fun t e q p e' s mi args below meth c H locs lsA hh hl => lv_iload_n hh.1 hh.2.1 d rfl (hl.2.2 _ _ hv).2 (h t e q p e' s mi args below meth c H locs lsA hh hl)
theorem ev_aload {i : Nat} {v : Nat} (d : decode (ea_cc F) pc = .ok (.aload i, 2)) (hv : ls[i]? = some (some (.ref v))) (h : ea_E G F res (pc + 2) ls (.ref v :: st) m k n x Φ) : ea_E G F res pc ls st m k n x Φ :=
  fun t e q p e' s mi args below meth c H locs lsA hh hl => lv_aload hh.1 hh.2.1 d (hl.2.2 i _ hv).2 (h t e q p e' s mi args below meth c H locs lsA hh hl)
theorem ev_aload_n {j : Fin 4} {v : Nat} (d : decode (ea_cc F) pc = .ok (.aload_n j, 1)) (hv : ls[(j : Nat)]? = some (some (.ref v))) (h : ea_E G F res (pc + 1) ls (.ref v :: st) m k n x Φ) : ea_E G F res pc ls st m k n x Φ :=
  fun t e q p e' s mi args below meth c H locs lsA hh hl => lv_aload_n hh.1 hh.2.1 d rfl (hl.2.2 _ _ hv).2 (h t e q p e' s mi args below meth c H locs lsA hh hl)
theorem ea_tv_cat (G : ea_G) (v : Value) : (ea_tv G v).category = v.category := by cases v <;> rfl
def ea_lp (G : ea_G) (ls : List (Option Value)) : List (Nat × Value) := (List.range ls.length).filterMap (fun j => match ls[j]? with | some (some v) => some (j, ea_tv G v) | _ => none)
theorem ea_lp_mem {G : ea_G} {ls : List (Option Value)} {q : Nat × Value} : q ∈ ea_lp G ls ↔ ∃ v, ls[q.1]? = some (some v) ∧ q.2 = ea_tv G v := by
  obtain ⟨i, w⟩ := q
  constructor
  · intro h
    obtain ⟨j, -, hj⟩ := List.mem_filterMap.mp h
    split at hj
    · rename_i v hv
      cases hj
      exact ⟨v, hv, rfl⟩
    · cases hj
  · rintro ⟨v, hv, hw⟩
    refine List.mem_filterMap.mpr ⟨i, List.mem_range.mpr (List.getElem?_eq_some_iff.mp hv).1, ?_⟩
    dsimp only at hv hw
    rw [hv, hw]
theorem ea_lh.has {G : ea_G} {lsA : Array Slot} {nL : Nat} {ls : List (Option Value)} (h : ea_lh G lsA nL ls) : lv_has lsA nL (ea_lp G ls) := by
  refine ⟨h.1, h.2.1, fun q hq => ?_⟩
  obtain ⟨v, hv, e⟩ := ea_lp_mem.mp hq
  rw [e]
  exact (h.2.2 _ _ hv).2
theorem ea_lh.store {G : ea_G} {lsA lsB : Array Slot} {nL i : Nat} {ls : List (Option Value)} {v : Value} (h : ea_lh G lsA nL ls) (hc : v.category = 1)
    (hn : lv_has lsB nL ((i, ea_tv G v) :: (ea_lp G ls).filter (fun q => !(q.1 == i) && !(q.1 + 1 == i && q.2.category == 2)))) : ea_lh G lsB nL (ls.set i (some v)) := by
  refine ⟨hn.1, hn.2.1, fun j u hj => ?_⟩
  rw [List.getElem?_set] at hj
  split at hj
  · rename_i e
    split at hj
    · cases hj
      subst e
      exact ⟨hc, hn.2.2 (i, ea_tv G v) List.mem_cons_self⟩
    · cases hj
  · rename_i e
    have hu := (h.2.2 j u hj).1
    refine ⟨hu, hn.2.2 (j, ea_tv G u) (List.mem_cons_of_mem _ (List.mem_filter.mpr ⟨ea_lp_mem.mpr ⟨u, hj, rfl⟩, ?_⟩))⟩
    have e1 : (j == i) = false := by simpa using Ne.symm e
    have e2 : ((ea_tv G u).category == 2) = false := by rw [ea_tv_cat, hu]; rfl
    simp [e1, e2]
theorem ev_istore {i : Nat} {v : Int32} {ls' : List (Option Value)} (d : decode (ea_cc F) pc = .ok (.istore i, 2)) (hi : i < ea_nL F) (hs : ls.set i (some (.int v)) = ls') (h : ea_E G F res (pc + 2) ls' st m k n x Φ) : ea_E G F res pc ls (.int v :: st) m k n x Φ :=
  fun t e q p e' s mi args below meth c H locs lsA hh hl => lv_istore hh.1 hh.2.1 d hl.has hi rfl (fun lsB hB => h t e q p e' s mi args below meth c H locs lsB hh (hs ▸ hl.store (v := .int v) rfl hB))
theorem ev_istore_n {j : Fin 4} {v : Int32} {ls' : List (Option Value)} (d : decode (ea_cc F) pc = .ok (.istore_n j, 1)) (hi : (j : Nat) < ea_nL F) (hs : ls.set (j : Nat) (some (.int v)) = ls') (h : ea_E G F res (pc + 1) ls' st m k n x Φ) : ea_E G F res pc ls (.int v :: st) m k n x Φ :=
  fun t e q p e' s mi args below meth c H locs lsA hh hl => lv_istore_n hh.1 hh.2.1 d rfl hl.has hi rfl (fun lsB hB => h t e q p e' s mi args below meth c H locs lsB hh (hs ▸ hl.store (v := .int v) rfl hB))
theorem ev_astore {i : Nat} {v : Nat} {ls' : List (Option Value)} (d : decode (ea_cc F) pc = .ok (.astore i, 2)) (hi : i < ea_nL F) (hs : ls.set i (some (.ref v)) = ls') (h : ea_E G F res (pc + 2) ls' st m k n x Φ) : ea_E G F res pc ls (.ref v :: st) m k n x Φ :=
  fun t e q p e' s mi args below meth c H locs lsA hh hl => lv_astore hh.1 hh.2.1 d hl.has hi rfl (fun lsB hB => h t e q p e' s mi args below meth c H locs lsB hh (hs ▸ hl.store (v := .ref v) rfl hB))
theorem ev_astore_n {j : Fin 4} {v : Nat} {ls' : List (Option Value)} (d : decode (ea_cc F) pc = .ok (.astore_n j, 1)) (hi : (j : Nat) < ea_nL F) (hs : ls.set (j : Nat) (some (.ref v)) = ls') (h : ea_E G F res (pc + 1) ls' st m k n x Φ) : ea_E G F res pc ls (.ref v :: st) m k n x Φ :=
  fun t e q p e' s mi args below meth c H locs lsA hh hl => lv_astore_n hh.1 hh.2.1 d rfl hl.has hi rfl (fun lsB hB => h t e q p e' s mi args below meth c H locs lsB hh (hs ▸ hl.store (v := .ref v) rfl hB))
theorem ev_iinc {i : Nat} {z : Int} {v w : Int32} {ls' : List (Option Value)} (d : decode (ea_cc F) pc = .ok (.iinc i z, 3)) (hv : ls[i]? = some (some (.int v))) (hw : v + Int32.ofInt z = w) (hi : i < ea_nL F) (hs : ls.set i (some (.int w)) = ls') (h : ea_E G F res (pc + 3) ls' st m k n x Φ) : ea_E G F res pc ls st m k n x Φ := by
  intro t e q p e' s mi args below meth c H locs lsA hh hl
  obtain ⟨j, hj⟩ := List.getElem?_of_mem (ea_lp_mem (G := G) (ls := ls) (q := (i, .int v)).mpr ⟨.int v, hv, rfl⟩)
  exact lv_iinc hh.1 hh.2.1 d hl.has hj hw hi rfl (fun lsB hB => h t e q p e' s mi args below meth c H locs lsB hh (hs ▸ hl.store (v := .int w) rfl hB))
theorem ev_dup {v : Value} (d : decode (ea_cc F) pc = .ok (.dup, 1)) (hv : v.category = 1) (h : ea_E G F res (pc + 1) ls (v :: v :: st) m k n x Φ) : ea_E G F res pc ls (v :: st) m k n x Φ :=
  fun t e q p e' s mi args below meth c H locs lsA hh hl => lv_dup hh.1 hh.2.1 d ((ea_tv_cat G v).trans hv) (h t e q p e' s mi args below meth c H locs lsA hh hl)
theorem ev_pop {v : Value} (d : decode (ea_cc F) pc = .ok (.pop, 1)) (hv : v.category = 1) (h : ea_E G F res (pc + 1) ls (st) m k n x Φ) : ea_E G F res pc ls (v :: st) m k n x Φ :=
  fun t e q p e' s mi args below meth c H locs lsA hh hl => lv_pop hh.1 hh.2.1 d ((ea_tv_cat G v).trans hv) (h t e q p e' s mi args below meth c H locs lsA hh hl)
theorem ev_dup2 {v u : Value} (d : decode (ea_cc F) pc = .ok (.dup2, 1)) (hv : v.category = 1) (hu : u.category = 1) (h : ea_E G F res (pc + 1) ls (v :: u :: v :: u :: st) m k n x Φ) : ea_E G F res pc ls (v :: u :: st) m k n x Φ :=
  fun t e q p e' s mi args below meth c H locs lsA hh hl => lv_dup2_11 hh.1 hh.2.1 d ((ea_tv_cat G v).trans hv) ((ea_tv_cat G u).trans hu) (h t e q p e' s mi args below meth c H locs lsA hh hl)
theorem ev_if_eq {a : Int32} {off : Int} {tgt : Nat} {y : Option τ} (d : decode (ea_cc F) pc = .ok (.ifCond .eq off, 3)) (ht : (pc : Int) + off = (tgt : Int)) (h1 : a = 0 → ea_E G F res tgt ls st m k n x Φ) (h2 : ¬ a = 0 → ea_E G F res (pc + 3) ls st m k n y Φ) : ea_E G F res pc ls (.int a :: st) m k n (if a = 0 then x else y) Φ :=
  fun t e q p e' s mi args below meth c H locs lsA hh hl => lv_if_eq hh.1 hh.2.1 d ht (fun z => h1 z t (by rw [if_pos z] at e; exact e) q p e' s mi args below meth c H locs lsA hh hl) (fun z => h2 z t (by rw [if_neg z] at e; exact e) q p e' s mi args below meth c H locs lsA hh hl)
theorem ev_if_ne {a : Int32} {off : Int} {tgt : Nat} {y : Option τ} (d : decode (ea_cc F) pc = .ok (.ifCond .ne off, 3)) (ht : (pc : Int) + off = (tgt : Int)) (h1 : a = 0 → ea_E G F res (pc + 3) ls st m k n x Φ) (h2 : ¬ a = 0 → ea_E G F res tgt ls st m k n y Φ) : ea_E G F res pc ls (.int a :: st) m k n (if a = 0 then x else y) Φ :=
  fun t e q p e' s mi args below meth c H locs lsA hh hl => lv_if_ne hh.1 hh.2.1 d ht (fun z => h2 z t (by rw [if_neg z] at e; exact e) q p e' s mi args below meth c H locs lsA hh hl) (fun z => h1 z t (by rw [if_pos z] at e; exact e) q p e' s mi args below meth c H locs lsA hh hl)
theorem ev_if_lt {a : Int32} {off : Int} {tgt : Nat} {y : Option τ} (d : decode (ea_cc F) pc = .ok (.ifCond .lt off, 3)) (ht : (pc : Int) + off = (tgt : Int)) (h1 : a < 0 → ea_E G F res tgt ls st m k n x Φ) (h2 : ¬ a < 0 → ea_E G F res (pc + 3) ls st m k n y Φ) : ea_E G F res pc ls (.int a :: st) m k n (if a < 0 then x else y) Φ :=
  fun t e q p e' s mi args below meth c H locs lsA hh hl => lv_if_lt hh.1 hh.2.1 d ht (fun z => h1 z t (by rw [if_pos z] at e; exact e) q p e' s mi args below meth c H locs lsA hh hl) (fun z => h2 z t (by rw [if_neg z] at e; exact e) q p e' s mi args below meth c H locs lsA hh hl)
theorem ev_if_ge {a : Int32} {off : Int} {tgt : Nat} {y : Option τ} (d : decode (ea_cc F) pc = .ok (.ifCond .ge off, 3)) (ht : (pc : Int) + off = (tgt : Int)) (h1 : 0 ≤ a → ea_E G F res tgt ls st m k n x Φ) (h2 : ¬ 0 ≤ a → ea_E G F res (pc + 3) ls st m k n y Φ) : ea_E G F res pc ls (.int a :: st) m k n (if 0 ≤ a then x else y) Φ :=
  fun t e q p e' s mi args below meth c H locs lsA hh hl => lv_if_ge hh.1 hh.2.1 d ht (fun z => h1 z t (by rw [if_pos z] at e; exact e) q p e' s mi args below meth c H locs lsA hh hl) (fun z => h2 z t (by rw [if_neg z] at e; exact e) q p e' s mi args below meth c H locs lsA hh hl)
theorem ev_if_gt {a : Int32} {off : Int} {tgt : Nat} {y : Option τ} (d : decode (ea_cc F) pc = .ok (.ifCond .gt off, 3)) (ht : (pc : Int) + off = (tgt : Int)) (h1 : 0 < a → ea_E G F res tgt ls st m k n x Φ) (h2 : ¬ 0 < a → ea_E G F res (pc + 3) ls st m k n y Φ) : ea_E G F res pc ls (.int a :: st) m k n (if 0 < a then x else y) Φ :=
  fun t e q p e' s mi args below meth c H locs lsA hh hl => lv_if_gt hh.1 hh.2.1 d ht (fun z => h1 z t (by rw [if_pos z] at e; exact e) q p e' s mi args below meth c H locs lsA hh hl) (fun z => h2 z t (by rw [if_neg z] at e; exact e) q p e' s mi args below meth c H locs lsA hh hl)
theorem ev_if_le {a : Int32} {off : Int} {tgt : Nat} {y : Option τ} (d : decode (ea_cc F) pc = .ok (.ifCond .le off, 3)) (ht : (pc : Int) + off = (tgt : Int)) (h1 : a ≤ 0 → ea_E G F res tgt ls st m k n x Φ) (h2 : ¬ a ≤ 0 → ea_E G F res (pc + 3) ls st m k n y Φ) : ea_E G F res pc ls (.int a :: st) m k n (if a ≤ 0 then x else y) Φ :=
  fun t e q p e' s mi args below meth c H locs lsA hh hl => lv_if_le hh.1 hh.2.1 d ht (fun z => h1 z t (by rw [if_pos z] at e; exact e) q p e' s mi args below meth c H locs lsA hh hl) (fun z => h2 z t (by rw [if_neg z] at e; exact e) q p e' s mi args below meth c H locs lsA hh hl)
theorem ev_icmp_eq {a b : Int32} {off : Int} {tgt : Nat} {y : Option τ} (d : decode (ea_cc F) pc = .ok (.if_icmp .eq off, 3)) (ht : (pc : Int) + off = (tgt : Int)) (h1 : a = b → ea_E G F res tgt ls st m k n x Φ) (h2 : ¬ a = b → ea_E G F res (pc + 3) ls st m k n y Φ) : ea_E G F res pc ls (.int b :: .int a :: st) m k n (if a = b then x else y) Φ :=
  fun t e q p e' s mi args below meth c H locs lsA hh hl => lv_icmp_eq hh.1 hh.2.1 d ht (fun z => h1 z t (by rw [if_pos z] at e; exact e) q p e' s mi args below meth c H locs lsA hh hl) (fun z => h2 z t (by rw [if_neg z] at e; exact e) q p e' s mi args below meth c H locs lsA hh hl)
theorem ev_icmp_ne {a b : Int32} {off : Int} {tgt : Nat} {y : Option τ} (d : decode (ea_cc F) pc = .ok (.if_icmp .ne off, 3)) (ht : (pc : Int) + off = (tgt : Int)) (h1 : a = b → ea_E G F res (pc + 3) ls st m k n x Φ) (h2 : ¬ a = b → ea_E G F res tgt ls st m k n y Φ) : ea_E G F res pc ls (.int b :: .int a :: st) m k n (if a = b then x else y) Φ :=
  fun t e q p e' s mi args below meth c H locs lsA hh hl => lv_icmp_ne hh.1 hh.2.1 d ht (fun z => h2 z t (by rw [if_neg z] at e; exact e) q p e' s mi args below meth c H locs lsA hh hl) (fun z => h1 z t (by rw [if_pos z] at e; exact e) q p e' s mi args below meth c H locs lsA hh hl)
theorem ev_icmp_lt {a b : Int32} {off : Int} {tgt : Nat} {y : Option τ} (d : decode (ea_cc F) pc = .ok (.if_icmp .lt off, 3)) (ht : (pc : Int) + off = (tgt : Int)) (h1 : a < b → ea_E G F res tgt ls st m k n x Φ) (h2 : ¬ a < b → ea_E G F res (pc + 3) ls st m k n y Φ) : ea_E G F res pc ls (.int b :: .int a :: st) m k n (if a < b then x else y) Φ :=
  fun t e q p e' s mi args below meth c H locs lsA hh hl => lv_icmp_lt hh.1 hh.2.1 d ht (fun z => h1 z t (by rw [if_pos z] at e; exact e) q p e' s mi args below meth c H locs lsA hh hl) (fun z => h2 z t (by rw [if_neg z] at e; exact e) q p e' s mi args below meth c H locs lsA hh hl)
theorem ev_icmp_ge {a b : Int32} {off : Int} {tgt : Nat} {y : Option τ} (d : decode (ea_cc F) pc = .ok (.if_icmp .ge off, 3)) (ht : (pc : Int) + off = (tgt : Int)) (h1 : b ≤ a → ea_E G F res tgt ls st m k n x Φ) (h2 : ¬ b ≤ a → ea_E G F res (pc + 3) ls st m k n y Φ) : ea_E G F res pc ls (.int b :: .int a :: st) m k n (if b ≤ a then x else y) Φ :=
  fun t e q p e' s mi args below meth c H locs lsA hh hl => lv_icmp_ge hh.1 hh.2.1 d ht (fun z => h1 z t (by rw [if_pos z] at e; exact e) q p e' s mi args below meth c H locs lsA hh hl) (fun z => h2 z t (by rw [if_neg z] at e; exact e) q p e' s mi args below meth c H locs lsA hh hl)
theorem ev_icmp_gt {a b : Int32} {off : Int} {tgt : Nat} {y : Option τ} (d : decode (ea_cc F) pc = .ok (.if_icmp .gt off, 3)) (ht : (pc : Int) + off = (tgt : Int)) (h1 : b < a → ea_E G F res tgt ls st m k n x Φ) (h2 : ¬ b < a → ea_E G F res (pc + 3) ls st m k n y Φ) : ea_E G F res pc ls (.int b :: .int a :: st) m k n (if b < a then x else y) Φ :=
  fun t e q p e' s mi args below meth c H locs lsA hh hl => lv_icmp_gt hh.1 hh.2.1 d ht (fun z => h1 z t (by rw [if_pos z] at e; exact e) q p e' s mi args below meth c H locs lsA hh hl) (fun z => h2 z t (by rw [if_neg z] at e; exact e) q p e' s mi args below meth c H locs lsA hh hl)
theorem ev_icmp_le {a b : Int32} {off : Int} {tgt : Nat} {y : Option τ} (d : decode (ea_cc F) pc = .ok (.if_icmp .le off, 3)) (ht : (pc : Int) + off = (tgt : Int)) (h1 : a ≤ b → ea_E G F res tgt ls st m k n x Φ) (h2 : ¬ a ≤ b → ea_E G F res (pc + 3) ls st m k n y Φ) : ea_E G F res pc ls (.int b :: .int a :: st) m k n (if a ≤ b then x else y) Φ :=
  fun t e q p e' s mi args below meth c H locs lsA hh hl => lv_icmp_le hh.1 hh.2.1 d ht (fun z => h1 z t (by rw [if_pos z] at e; exact e) q p e' s mi args below meth c H locs lsA hh hl) (fun z => h2 z t (by rw [if_neg z] at e; exact e) q p e' s mi args below meth c H locs lsA hh hl)
theorem ev_goto {off : Int} {tgt : Nat} (d : decode (ea_cc F) pc = .ok (.goto off, 3)) (ht : (pc : Int) + off = (tgt : Int)) (h : ea_E G F res tgt ls st m k n x Φ) : ea_E G F res pc ls st m k n x Φ :=
  fun t e q p e' s mi args below meth c H locs lsA hh hl => lv_goto hh.1 hh.2.1 d ht (h t e q p e' s mi args below meth c H locs lsA hh hl)
end EVO
section EVM
variable {τ : Type} {G : ea_G} {F : ea_F} {res : ea_O} {pc : Nat} {ls : List (Option Value)} {st : List Value} {m : ea_M} {k n : Nat} {x : Option τ} {Φ : τ → Prop}
theorem ea_shl_len : ea_shl.length = ea_N := by decide +kernel
theorem ea_sh_lt {a : Nat} {sh : ea_S} (h : ea_sh a = sh) (hn : sh ≠ .inl (0, 0)) : a < ea_N := by
  rcases Nat.lt_or_ge a ea_N with q | q
  · exact q
  · refine absurd ?_ hn
    rw [← h, ea_sh, List.getD_eq_getElem?_getD, List.getElem?_eq_none (by rw [ea_shl_len]; exact q)]; rfl
theorem ea_cell_at {s : State} {p : Program} {mi : MethodId} {meth : Method} {c : Code} {H : Heap} {locs : List Loc} (hh : ea_H G F p s mi meth c H locs m) {a : Nat} {sh : ea_S} (h : ea_sh a = sh) (hn : sh ≠ .inl (0, 0)) : (ea_ws G m)[a]? = some (ea_ad G a, ea_cell G sh (m a)) := by
  rw [ea_ws_get _ _ (ea_sh_lt h hn), h]
/-- of the classes: their words, their fields' types and names -/
theorem ea_cw_in : ∀ q ∈ vwCl, ∀ w ∈ u_ws q.1 q.2.1 q.2.2, w ∈ lw_tbl ∧ ea_gw w = true := by decide +kernel
theorem ea_ct : ∀ (ci : Nat) (q : vw_C), vwCl[ci]? = some q → ∃ ty : Nat → FieldType, (∀ j, j < q.2.2 → parseFieldDescriptor (q.2.1 j).2.2.1 = some (ty j)) ∧ ∀ a, a < q.2.2 → ∀ b, b < q.2.2 → a ≠ b → (q.2.1 a).2.1 ≠ (q.2.1 b).2.1 := by
  intro ci q h
  match ci, h with
  | 0, h => cases h; exact ⟨tyX0, tyX0_ok, nmX0⟩
  | 1, h => cases h; exact ⟨tyX1, tyX1_ok, nmX1⟩
  | 2, h => cases h; exact ⟨tyX2, tyX2_ok, nmX2⟩
  | 3, h => cases h; exact ⟨tyX3, tyX3_ok, nmX3⟩
  | 4, h => cases h; exact ⟨tyX4, tyX4_ok, nmX4⟩
  | 5, h => cases h; exact ⟨tyX5, tyX5_ok, nmX5⟩
  | 6, h => cases h; exact ⟨tyX6, tyX6_ok, nmX6⟩
  | 7, h => cases h; exact ⟨tyX7, tyX7_ok, nmX7⟩
  | 8, h => cases h; exact ⟨tyX8, tyX8_ok, nmX8⟩
  | 9, h => cases h; exact ⟨tyX9, tyX9_ok, nmX9⟩
  | 10, h => cases h; exact ⟨tyX10, tyX10_ok, nmX10⟩
  | 11, h => cases h; exact ⟨tyX11, tyX11_ok, nmX11⟩
  | 12, h => cases h; exact ⟨tyX12, tyX12_ok, nmX12⟩
/-- a Fieldref of the class 'own' names field fi of class ci -/
def ea_FL (own : String) (idx ci fi : Nat) : Prop := ∃ (C : String) (T : u_T) (N : Nat), vwCl[ci]? = some (C, T, N) ∧ fi < N ∧ Cond.fieldLink own idx (T fi).1 (T fi).2.1 (T fi).2.2.1 ∈ lw_tbl
/-- ... that may be written, of this type -/
def ea_FP (ci fi : Nat) (ty : FieldType) : Prop := ∃ (C : String) (T : u_T) (N : Nat), vwCl[ci]? = some (C, T, N) ∧ fi < N ∧ (T fi).2.2.2 = false ∧ parseFieldDescriptor (T fi).2.2.1 = some ty
theorem ev_get {idx ci fi a : Nat} {fds : List (Option Nat)} {v : Value} (d : decode (ea_cc F) pc = .ok (.getfield idx, 3)) (hf : ea_FL (ea_own F) idx ci fi) (ha : ea_sh a = .inr (.inl (ci, fds))) (hb : (ea_fs G (m a) fds)[fi]? = some (ea_tv G v))
    (h : ea_E G F res (pc + 3) ls (v :: st) m k n x Φ) : ea_E G F res pc ls (.ref a :: st) m k n x Φ := by
  intro t e q p e' s mi args below meth c H locs lsA hh hl
  obtain ⟨C, T, N, hc, hN, hw⟩ := hf
  have hC := hh.2.2.2.1
  have hcw := ea_cw_in (C, T, N) (List.mem_of_getElem? hc)
  exact va_get (Ts := u_ws C T N) hh.1 hh.2.1 (fun w hw => hC.1 w (hcw w hw).1 (hcw w hw).2 args) (fun w hw => hw) hh.2.2.1.2.2.1 hC.2.1 hh.2.2.2.2.2 a (ea_cell_at hh ha (fun z => by cases z)) hc fi hN (hC.1 _ hw rfl args) (fun _ z => z) hb d (h t e q p e' s mi args below meth c H locs lsA hh hl)
theorem ev_getI {idx ci fi a : Nat} {fds : List (Option Nat)} (d : decode (ea_cc F) pc = .ok (.getfield idx, 3)) (hf : ea_FL (ea_own F) idx ci fi) (ha : ea_sh a = .inr (.inl (ci, fds))) (hb : fds[fi]? = some none)
    (h : ea_E G F res (pc + 3) ls (.int (m a fi) :: st) m k n x Φ) : ea_E G F res pc ls (.ref a :: st) m k n x Φ :=
  ev_get (v := .int (m a fi)) d hf ha (by simp [ea_fs, hb]; rfl) h
theorem ev_getR {idx ci fi a r : Nat} {fds : List (Option Nat)} (d : decode (ea_cc F) pc = .ok (.getfield idx, 3)) (hf : ea_FL (ea_own F) idx ci fi) (ha : ea_sh a = .inr (.inl (ci, fds))) (hb : fds[fi]? = some (some r))
    (h : ea_E G F res (pc + 3) ls (.ref r :: st) m k n x Φ) : ea_E G F res pc ls (.ref a :: st) m k n x Φ :=
  ev_get (v := .ref r) d hf ha (by simp [ea_fs, hb]; rfl) h
theorem ea_fs_set (G : ea_G) (f : Nat → Int32) {fds : List (Option Nat)} {i : Nat} (v : Int32) (h : fds[i]? = some none) : (ea_fs G f fds).set i (.int v) = ea_fs G (upd f i v) fds := by
  apply List.ext_getElem?
  intro j
  rw [List.getElem?_set]
  by_cases e : i = j
  · subst e
    have hl : i < fds.length := (List.getElem?_eq_some_iff.mp h).1
    rw [if_pos rfl, if_pos (by simpa [ea_fs] using hl)]
    simp only [ea_fs, List.getElem?_mapIdx, h, Option.map_some]
    simp [upd]
  · rw [if_neg e]
    simp only [ea_fs, List.getElem?_mapIdx]
    cases hj : fds[j]? with
    | none => rfl
    | some z => cases z <;> simp [upd, Ne.symm e]
theorem ev_putT {idx ci fi a : Nat} {fds : List (Option Nat)} {v : Int32} {ty : FieldType} (d : decode (ea_cc F) pc = .ok (.putfield idx, 3)) (hf : ea_FL (ea_own F) idx ci fi) (hp : ea_FP ci fi ty) (hn : narrow ty (.int v) = .int v) (hfit : fits ty (.int v) = true) (ha : ea_sh a = .inr (.inl (ci, fds))) (hb : fds[fi]? = some none)
    (h : ea_E G F res (pc + 3) ls st (ea_st m a fi v) k n x Φ) : ea_E G F res pc ls (.int v :: .ref a :: st) m k n x Φ := by
  intro t e q p e' s mi args below meth c H locs lsA hh hl
  obtain ⟨C, T, N, hc, hN, hw⟩ := hf
  obtain ⟨C2, T2, N2, hc2, -, hfin, hty⟩ := hp
  cases hc.symm.trans hc2
  have hC := hh.2.2.2.1
  have hcw := ea_cw_in (C, T, N) (List.mem_of_getElem? hc)
  obtain ⟨ty0, hty0, hnm⟩ := ea_ct ci _ hc
  have hcell := ea_cell_at hh ha (fun z => by cases z)
  refine va_put (v := .int v) (Ts := u_ws C T N) hh.1 hh.2.1 (fun w hw => hC.1 w (hcw w hw).1 (hcw w hw).2 args) (fun w hw => hw) ty0 hty0 hnm hh.2.2.1.2.2.1 hC.2.1 hh.2.2.2.2.2 (hC.D m) hh.2.2.2.2.1 a hcell hc fi hN (hC.1 _ hw rfl args) (fun _ z => z) hfin hty hn hfit (by simp [ea_fs]; exact (List.getElem?_eq_some_iff.mp hb).1) d (fun H1 locs1 hP1 hD1 hS1 => ?_)
  refine h t e q p e' s mi args below meth c H1 locs1 lsA ⟨hh.1, hh.2.1, hh.2.2.1, hC, hS1, ?_⟩ hl
  have e1 : ea_cell G (ea_sh a) (upd (m a) fi v) = .inr (ci, (ea_fs G (m a) fds).set fi (.int v)) := by
    rw [ha, ea_fs_set G (m a) v hb]; rfl
  rw [← e1, ea_ws_set] at hP1
  exact hP1
theorem ev_putI {idx ci fi a : Nat} {fds : List (Option Nat)} {v : Int32} (d : decode (ea_cc F) pc = .ok (.putfield idx, 3)) (hf : ea_FL (ea_own F) idx ci fi) (hp : ea_FP ci fi .int) (ha : ea_sh a = .inr (.inl (ci, fds))) (hb : fds[fi]? = some none)
    (h : ea_E G F res (pc + 3) ls st (ea_st m a fi v) k n x Φ) : ea_E G F res pc ls (.int v :: .ref a :: st) m k n x Φ := ev_putT d hf hp rfl rfl ha hb h
theorem ev_putZ {idx ci fi a : Nat} {fds : List (Option Nat)} {v : Int32} (hz : v = 0 ∨ v = 1) (d : decode (ea_cc F) pc = .ok (.putfield idx, 3)) (hf : ea_FL (ea_own F) idx ci fi) (hp : ea_FP ci fi .boolean) (ha : ea_sh a = .inr (.inl (ci, fds))) (hb : fds[fi]? = some none)
    (h : ea_E G F res (pc + 3) ls st (ea_st m a fi v) k n x Φ) : ea_E G F res pc ls (.int v :: .ref a :: st) m k n x Φ := ev_putT d hf hp (by rcases hz with rfl | rfl <;> decide) (by rcases hz with rfl | rfl <;> decide) ha hb h
-- arrays
theorem ev_iaload {a nn : Nat} {i : Int32} (d : decode (ea_cc F) pc = .ok (.iaload, 1)) (ha : ea_sh a = .inl (0, nn)) (h0 : nn ≠ 0) (h : ea_E G F res (pc + 1) ls (.int (m a i.toNatClampNeg) :: st) m k n x Φ) : ea_E G F res pc ls (.int i :: .ref a :: st) m k n (ea_g i nn x) Φ :=
  fun t e q p e' s mi args below meth c H locs lsA hh hl => va_iald (n := nn) (f := m a) hh.1 hh.2.1 hh.2.2.2.1.2.1 hh.2.2.2.2.2 a 0 (ea_cell_at hh ha (fun z => h0 (by cases z; rfl))) rfl (ea_g_some e).1 d (h t (ea_g_some e).2 q p e' s mi args below meth c H locs lsA hh hl)
theorem ev_baload {a nn : Nat} {i : Int32} (d : decode (ea_cc F) pc = .ok (.baload, 1)) (ha : ea_sh a = .inl (1, nn)) (h : ea_E G F res (pc + 1) ls (.int (m a i.toNatClampNeg) :: st) m k n x Φ) : ea_E G F res pc ls (.int i :: .ref a :: st) m k n (ea_g i nn x) Φ :=
  fun t e q p e' s mi args below meth c H locs lsA hh hl => va_bald (n := nn) (f := m a) hh.1 hh.2.1 hh.2.2.2.1.2.1 hh.2.2.2.2.2 a 1 (ea_cell_at hh ha (fun z => by cases z)) rfl (ea_g_some e).1 d (h t (ea_g_some e).2 q p e' s mi args below meth c H locs lsA hh hl)
theorem ev_laload {a nn : Nat} {i : Int32} (d : decode (ea_cc F) pc = .ok (.laload, 1)) (ha : ea_sh a = .inl (2, nn)) (h : ea_E G F res (pc + 1) ls (.long (m a i.toNatClampNeg).toInt64 :: st) m k n x Φ) : ea_E G F res pc ls (.int i :: .ref a :: st) m k n (ea_g i nn x) Φ :=
  fun t e q p e' s mi args below meth c H locs lsA hh hl => va_lald (n := nn) (f := fun j => (m a j).toInt64) hh.1 hh.2.1 hh.2.2.2.1.2.1 hh.2.2.2.2.2 a 2 (ea_cell_at hh ha (fun z => by cases z)) rfl (ea_g_some e).1 d (h t (ea_g_some e).2 q p e' s mi args below meth c H locs lsA hh hl)
theorem ev_aaload {a kd : Nat} {rs : List Nat} {C : String} {i : Int32} (d : decode (ea_cc F) pc = .ok (.aaload, 1)) (ha : ea_sh a = .inr (.inr (kd, rs))) (hk : (ea_tys G)[kd]? = some (ea_cA G kd, .object C)) (h : ea_E G F res (pc + 1) ls (.ref (rs.getD i.toNatClampNeg 0) :: st) m k n x Φ) : ea_E G F res pc ls (.int i :: .ref a :: st) m k n (ea_g i rs.length x) Φ := by
  intro t e q p e' s mi args below meth c H locs lsA hh hl
  have hi := (ea_g_some e).1
  have hlt : i.toNatClampNeg < rs.length := Nat.not_le.mp fun q => hi (Or.inr q)
  refine va_aldq hh.1 hh.2.1 hh.2.2.2.1.2.1 hh.2.2.2.2.2 a kd (ea_cell_at hh ha (fun z => by cases z)) hk hi d ?_
  have e1 : va_rf ((rs[i.toNatClampNeg]?).map (ea_ad G)) = ea_tv G (.ref (rs.getD i.toNatClampNeg 0)) := by
    rw [List.getD_eq_getElem?_getD, List.getElem?_eq_getElem hlt]; rfl
  rw [e1]
  exact h t (ea_g_some e).2 q p e' s mi args below meth c H locs lsA hh hl
theorem ev_alen {a kd nn : Nat} {v : Int32} (d : decode (ea_cc F) pc = .ok (.arraylength, 1)) (ha : ea_sh a = .inl (kd, nn)) (h0 : nn ≠ 0) (hk : kd < 3) (hv : Int32.ofNat nn = v) (h : ea_E G F res (pc + 1) ls (.int v :: st) m k n x Φ) : ea_E G F res pc ls (.ref a :: st) m k n x Φ := by
  intro t e q p e' s mi args below meth c H locs lsA hh hl
  have hty : ∃ ty, (ea_tys G)[kd]? = some (ea_cA G kd, ty) := by
    rcases (show kd = 0 ∨ kd = 1 ∨ kd = 2 by omega) with rfl | rfl | rfl <;> exact ⟨_, rfl⟩
  obtain ⟨ty, hty⟩ := hty
  exact va_alen hh.1 hh.2.1 hh.2.2.2.1.2.1 hh.2.2.2.2.2 a kd (ea_cell_at hh ha (fun z => h0 (by cases z; rfl))) hty hv d (h t e q p e' s mi args below meth c H locs lsA hh hl)
theorem ev_rlen {a kd : Nat} {rs : List Nat} {v : Int32} (d : decode (ea_cc F) pc = .ok (.arraylength, 1)) (ha : ea_sh a = .inr (.inr (kd, rs))) {ty : FieldType} (hk : (ea_tys G)[kd]? = some (ea_cA G kd, ty)) (hv : Int32.ofNat rs.length = v) (h : ea_E G F res (pc + 1) ls (.int v :: st) m k n x Φ) : ea_E G F res pc ls (.ref a :: st) m k n x Φ :=
  fun t e q p e' s mi args below meth c H locs lsA hh hl => va_alen hh.1 hh.2.1 hh.2.2.2.1.2.1 hh.2.2.2.2.2 a kd (ea_cell_at hh ha (fun z => by cases z)) hk hv d (h t e q p e' s mi args below meth c H locs lsA hh hl)
theorem ev_iastore {a nn : Nat} {i v : Int32} (d : decode (ea_cc F) pc = .ok (.iastore, 1)) (ha : ea_sh a = .inl (0, nn)) (h0 : nn ≠ 0) (h : ea_E G F res (pc + 1) ls st (ea_st m a i.toNatClampNeg v) k n x Φ) : ea_E G F res pc ls (.int v :: .int i :: .ref a :: st) m k n (ea_g i nn x) Φ := by
  intro t e q p e' s mi args below meth c H locs lsA hh hl
  refine va_iast (n := nn) (f := m a) hh.1 hh.2.1 hh.2.2.2.1.2.1 hh.2.2.2.2.2 (hh.2.2.2.1.D m) hh.2.2.2.2.1 a 0 (ea_cell_at hh ha (fun z => h0 (by cases z; rfl))) rfl (ea_g_some e).1 d (fun H1 locs1 hP1 hD1 hS1 => ?_)
  refine h t (ea_g_some e).2 q p e' s mi args below meth c H1 locs1 lsA ⟨hh.1, hh.2.1, hh.2.2.1, hh.2.2.2.1, hS1, ?_⟩ hl
  have e1 : ea_cell G (ea_sh a) (upd (m a) i.toNatClampNeg v) = .inl (ea_cA G 0, nn, .inl (upd (m a) i.toNatClampNeg v)) := by rw [ha]; rfl
  rw [← e1, ea_ws_set] at hP1
  exact hP1
theorem ev_bastore {a nn : Nat} {i v : Int32} (d : decode (ea_cc F) pc = .ok (.bastore, 1)) (ha : ea_sh a = .inl (1, nn)) (h : ea_E G F res (pc + 1) ls st (ea_st m a i.toNatClampNeg (vp_nar .byte v)) k n x Φ) : ea_E G F res pc ls (.int v :: .int i :: .ref a :: st) m k n (ea_g i nn x) Φ := by
  intro t e q p e' s mi args below meth c H locs lsA hh hl
  refine va_bast (n := nn) (f := m a) hh.1 hh.2.1 hh.2.2.2.1.2.1 hh.2.2.2.2.2 (hh.2.2.2.1.D m) hh.2.2.2.2.1 a 1 (ea_cell_at hh ha (fun z => by cases z)) rfl (ea_g_some e).1 d (fun H1 locs1 hP1 hD1 hS1 => ?_)
  refine h t (ea_g_some e).2 q p e' s mi args below meth c H1 locs1 lsA ⟨hh.1, hh.2.1, hh.2.2.1, hh.2.2.2.1, hS1, ?_⟩ hl
  have e1 : ea_cell G (ea_sh a) (upd (m a) i.toNatClampNeg (vp_nar .byte v)) = .inl (ea_cA G 1, nn, .inl (upd (m a) i.toNatClampNeg (vp_nar .byte v))) := by rw [ha]; rfl
  rw [← e1, ea_ws_set] at hP1
  exact hP1
theorem ev_lastore {a nn : Nat} {i v : Int32} (d : decode (ea_cc F) pc = .ok (.lastore, 1)) (ha : ea_sh a = .inl (2, nn)) (h : ea_E G F res (pc + 1) ls st (ea_st m a i.toNatClampNeg v) k n x Φ) : ea_E G F res pc ls (.long v.toInt64 :: .int i :: .ref a :: st) m k n (ea_g i nn x) Φ := by
  intro t e q p e' s mi args below meth c H locs lsA hh hl
  refine va_last (n := nn) (f := fun j => (m a j).toInt64) hh.1 hh.2.1 hh.2.2.2.1.2.1 hh.2.2.2.2.2 (hh.2.2.2.1.D m) hh.2.2.2.2.1 a 2 (ea_cell_at hh ha (fun z => by cases z)) rfl (ea_g_some e).1 d (fun H1 locs1 hP1 hD1 hS1 => ?_)
  refine h t (ea_g_some e).2 q p e' s mi args below meth c H1 locs1 lsA ⟨hh.1, hh.2.1, hh.2.2.1, hh.2.2.2.1, hS1, ?_⟩ hl
  have e1 : ea_cell G (ea_sh a) (upd (m a) i.toNatClampNeg v) = .inl (ea_cA G 2, nn, .inr (.inl (vp_updL (fun j => (m a j).toInt64) i.toNatClampNeg v.toInt64))) := by
    rw [ha]
    show Sum.inl (ea_cA G 2, nn, if 2 = 2 then Sum.inr (Sum.inl fun j => (upd (m a) i.toNatClampNeg v j).toInt64) else _) = _
    rw [if_pos rfl]
    have e2 : (fun j => (upd (m a) i.toNatClampNeg v j).toInt64) = vp_updL (fun j => (m a j).toInt64) i.toNatClampNeg v.toInt64 := by
      funext j
      simp only [upd, vp_updL]
      split <;> rfl
    rw [e2]
  rw [← e1, ea_ws_set] at hP1
  exact hP1
-- the script, and the table of rows that are left
theorem ev_script {i : Int32} (d : decode (ea_cc F) pc = .ok (.iaload, 1)) (h : ea_E G F res (pc + 1) ls (.int (ea_xs G i.toNatClampNeg) :: st) m k n x Φ) : ea_E G F res pc ls (.int i :: .ref 2000 :: st) m k n (ea_g i (ea_L G) x) Φ :=
  fun t e q p e' s mi args below meth c H locs lsA hh hl => va_sld hh.1 hh.2.1 hh.2.2.2.1.2.2.2.2.2.2.1.1 hh.2.2.2.1.2.2.2.2.2.2.1.2.1 hh.2.2.2.1.2.2.2.2.2.2.1.2.2 hh.2.2.2.2.1 (ea_g_some e).1 d (h t (ea_g_some e).2 q p e' s mi args below meth c H locs lsA hh hl)
theorem ev_slen (d : decode (ea_cc F) pc = .ok (.arraylength, 1)) (h : ea_E G F res (pc + 1) ls (.int (nI (ea_L G)) :: st) m k n x Φ) : ea_E G F res pc ls (.ref 2000 :: st) m k n x Φ :=
  fun t e q p e' s mi args below meth c H locs lsA hh hl => va_slen hh.1 hh.2.1 hh.2.2.2.1.2.2.2.2.2.2.1.1 hh.2.2.2.1.2.2.2.2.2.2.1.2.1 hh.2.2.2.1.2.2.2.2.2.2.1.2.2 hh.2.2.2.2.1 d (h t e q p e' s mi args below meth c H locs lsA hh hl)
theorem ev_rowsld {i : Int32} (d : decode (ea_cc F) pc = .ok (.iaload, 1)) (h : ea_E G F res (pc + 1) ls (.int (ea_rows.getD i.toNatClampNeg 0) :: st) m k n x Φ) : ea_E G F res pc ls (.int i :: .ref 2001 :: st) m k n (ea_g i 9 x) Φ :=
  fun t e q p e' s mi args below meth c H locs lsA hh hl => va_ti hh.1 hh.2.1 hh.2.2.2.1.2.2.2.2.1.2.2.1 hh.2.2.2.2.1 (ea_g_some e).1 rfl d (h t (ea_g_some e).2 q p e' s mi args below meth c H locs lsA hh hl)
theorem ev_rowsget {idx : Nat} (d : decode (ea_cc F) pc = .ok (.getstatic idx, 3)) (hw : Cond.fieldLink (ea_own F) idx "FeatherYard$Reckoner" "ROWS_LEFT" "[I" ∈ lw_tbl) (h : ea_E G F res (pc + 3) ls (.ref 2001 :: st) m k n x Φ) : ea_E G F res pc ls st m k n x Φ :=
  fun t e q p e' s mi args below meth c H locs lsA hh hl => va_gets hh.1 hh.2.1 hh.2.2.2.1.2.2.2.2.1.2.1 hh.2.2.2.2.1 hh.2.2.1.2.2.1 (hh.2.2.2.1.1 _ hw rfl args) (fun _ z => z) d (h t e q p e' s mi args below meth c H locs lsA hh hl)
-- constants of the pool
theorem ev_ldc {idx : Nat} {v : Int32} (d : decode (ea_cc F) pc = .ok (.ldc idx, 2)) (hw : Cond.constant (ea_own F) idx v ∈ lw_tbl) (h : ea_E G F res (pc + 2) ls (.int v :: st) m k n x Φ) : ea_E G F res pc ls st m k n x Φ :=
  fun t e q p e' s mi args below meth c H locs lsA hh hl => lv_ldc hh.1 hh.2.1 hh.2.2.1.2.2.1 (hh.2.2.2.1.1 _ hw rfl args) d (h t e q p e' s mi args below meth c H locs lsA hh hl)
theorem ev_ldcw {idx : Nat} {v : Int32} (d : decode (ea_cc F) pc = .ok (.ldc_w idx, 3)) (hw : Cond.constant (ea_own F) idx v ∈ lw_tbl) (h : ea_E G F res (pc + 3) ls (.int v :: st) m k n x Φ) : ea_E G F res pc ls st m k n x Φ :=
  fun t e q p e' s mi args below meth c H locs lsA hh hl => lv_ldcw hh.1 hh.2.1 hh.2.2.1.2.2.1 (hh.2.2.2.1.1 _ hw rfl args) d (h t e q p e' s mi args below meth c H locs lsA hh hl)
theorem ev_ldc2 {idx : Nat} {v : Int64} (d : decode (ea_cc F) pc = .ok (.ldc2_w idx, 3)) (hw : Cond.constantLong (ea_own F) idx v ∈ lw_tbl) (h : ea_E G F res (pc + 3) ls (.long v :: st) m k n x Φ) : ea_E G F res pc ls st m k n x Φ :=
  fun t e q p e' s mi args below meth c H locs lsA hh hl => lv_ldc2 hh.1 hh.2.1 hh.2.2.1.2.2.1 (hh.2.2.2.1.1 _ hw rfl args) d (h t e q p e' s mi args below meth c H locs lsA hh hl)
theorem ev_ldcS {idx j : Nat} {tx : String} (d : decode (ea_cc F) pc = .ok (.ldc idx, 2)) (hj : ea_str[j]? = some (ea_own F, idx, tx)) (h : ea_E G F res (pc + 2) ls (.ref (1000 + j) :: st) m k n x Φ) : ea_E G F res pc ls st m k n x Φ := by
  intro t e q p e' s mi args below meth c H locs lsA hh hl
  have h1 := (hh.2.2.2.1.2.2.2.1 j (List.getElem?_eq_some_iff.mp hj).1).1
  rw [List.getD_eq_getElem?_getD, hj] at h1
  exact va_ldcS hh.1 hh.2.1 hh.2.2.1.2.2.1 h1 d (h t e q p e' s mi args below meth c H locs lsA hh hl)
-- ends
theorem ev_iret {t0 : τ} {v : Int32} (d : decode (ea_cc F) pc = .ok (.ireturn, 1)) (hr : ea_ret F = some .int) (hk : k ≤ ea_mc F ∧ n ≤ ea_ms F) (hq : Φ t0 → res = (0, v, m)) : ea_E G F res pc ls [.int v] m k n (some t0) Φ := by
  intro t e q p e' s mi args below meth c H locs lsA hh hl
  cases e
  have e1 := hq q
  subst e1
  refine W.widen hk.1 hk.2 (vx_ret (W.iret hh.1 hh.2.1 (hh.2.2.1.1.trans hr) (fun t ht hW => ⟨rfl, by rw [hr], by rw [ht]; exact hh.2.2.2.2.2, hh.2.2.2.2.1.F ht⟩) (fun z hz => hh.2.2.2.2.1.2.2 z hz) d hh.2.2.1.2.2.2.1))
theorem ev_zret {t0 : τ} {v : Int32} (hz : v = 0 ∨ v = 1) (d : decode (ea_cc F) pc = .ok (.ireturn, 1)) (hr : ea_ret F = some .boolean) (hk : k ≤ ea_mc F ∧ n ≤ ea_ms F) (hq : Φ t0 → res = (0, v, m)) : ea_E G F res pc ls [.int v] m k n (some t0) Φ := by
  intro t e q p e' s mi args below meth c H locs lsA hh hl
  cases e
  have e1 := hq q
  subst e1
  refine W.widen hk.1 hk.2 (vx_ret (W.zret hh.1 hh.2.1 (hh.2.2.1.1.trans hr) (by rcases hz with rfl | rfl <;> decide) (fun t ht hW => ⟨rfl, by rw [hr], by rw [ht]; exact hh.2.2.2.2.2, hh.2.2.2.2.1.F ht⟩) (fun z hz => hh.2.2.2.2.1.2.2 z hz) d hh.2.2.1.2.2.2.1))
theorem ev_zretG {t0 : τ} {v : Int32} (d : decode (ea_cc F) pc = .ok (.ireturn, 1)) (hr : ea_ret F = some .boolean) (hk : k ≤ ea_mc F ∧ n ≤ ea_ms F) (hq : Φ t0 → res = (0, v, m)) : ea_E G F res pc ls [.int v] m k n (ea_gz v (some t0)) Φ :=
  fun t e q => ev_zret (ea_gz_some e).1 d hr hk hq t (ea_gz_some e).2 q
theorem ev_vret {t0 : τ} (d : decode (ea_cc F) pc = .ok (.return_, 1)) (hr : ea_ret F = none) (hk : k ≤ ea_mc F ∧ n ≤ ea_ms F) (hq : Φ t0 → ∃ v, res = (0, v, m)) : ea_E G F res pc ls [] m k n (some t0) Φ := by
  intro t e q p e' s mi args below meth c H locs lsA hh hl
  cases e
  obtain ⟨v, e1⟩ := hq q
  subst e1
  refine W.widen hk.1 hk.2 (vx_ret (W.vret hh.1 hh.2.1 (hh.2.2.1.1.trans hr) (fun t ht hW => ⟨rfl, by rw [hr], by rw [ht]; exact hh.2.2.2.2.2, hh.2.2.2.2.1.F ht⟩) (fun z hz => hh.2.2.2.2.1.2.2 z hz) d hh.2.2.1.2.2.2.1))
end EVM

